section
-- ===== PART A: goes FIRST, ahead of the names: the tables' words, and 'selects' of the private methods out of them =====
/-- a private method of a class that the tables say can be made, by its rows of tables_1 -/
def lw_okq (q : MethodName × Nat) : Prop := (q.1.cls ≠ "java/lang/invoke/MethodHandle" ∧ q.1.cls ≠ "java/lang/invoke/VarHandle") ∧ Cond.instantiable q.1.cls q.2 ∈ tables_1 ∧ Cond.privateMethod q.1 ∈ tables_1 ∧ Cond.instanceMethod q.1 ∈ tables_1
theorem lw_p0 : lw_okq (⟨"EvenDays$Lines", "readLine", "(LEvenDays$Told;)V"⟩, 3) := ⟨⟨by decide +kernel, by decide +kernel⟩, List.mem_of_getElem? (i := 100) (by decide +kernel), List.mem_of_getElem? (i := 331) (by decide +kernel), List.mem_of_getElem? (i := 332) (by decide +kernel)⟩
theorem lw_p1 : lw_okq (⟨"EvenDays$Lines", "readTreaty", "(LEvenDays$Told;)V"⟩, 3) := ⟨⟨by decide +kernel, by decide +kernel⟩, List.mem_of_getElem? (i := 100) (by decide +kernel), List.mem_of_getElem? (i := 388) (by decide +kernel), List.mem_of_getElem? (i := 389) (by decide +kernel)⟩
theorem lw_p2 : lw_okq (⟨"EvenDays$Lines", "takeNumber", "(II)I"⟩, 3) := ⟨⟨by decide +kernel, by decide +kernel⟩, List.mem_of_getElem? (i := 100) (by decide +kernel), List.mem_of_getElem? (i := 393) (by decide +kernel), List.mem_of_getElem? (i := 394) (by decide +kernel)⟩
theorem lw_p3 : lw_okq (⟨"EvenDays$Lines", "readWork", "(LEvenDays$Told;)V"⟩, 3) := ⟨⟨by decide +kernel, by decide +kernel⟩, List.mem_of_getElem? (i := 100) (by decide +kernel), List.mem_of_getElem? (i := 405) (by decide +kernel), List.mem_of_getElem? (i := 406) (by decide +kernel)⟩
theorem lw_p4 : lw_okq (⟨"EvenDays$Lines", "readKind", "(LEvenDays$Told;)V"⟩, 3) := ⟨⟨by decide +kernel, by decide +kernel⟩, List.mem_of_getElem? (i := 100) (by decide +kernel), List.mem_of_getElem? (i := 418) (by decide +kernel), List.mem_of_getElem? (i := 419) (by decide +kernel)⟩
theorem lw_p5 : lw_okq (⟨"EvenDays$Lines", "readMeant", "(LEvenDays$Told;)V"⟩, 3) := ⟨⟨by decide +kernel, by decide +kernel⟩, List.mem_of_getElem? (i := 100) (by decide +kernel), List.mem_of_getElem? (i := 432) (by decide +kernel), List.mem_of_getElem? (i := 433) (by decide +kernel)⟩
theorem lw_p6 : lw_okq (⟨"EvenDays$Lines", "readEats", "(LEvenDays$Told;)V"⟩, 3) := ⟨⟨by decide +kernel, by decide +kernel⟩, List.mem_of_getElem? (i := 100) (by decide +kernel), List.mem_of_getElem? (i := 455) (by decide +kernel), List.mem_of_getElem? (i := 456) (by decide +kernel)⟩
theorem lw_p7 : lw_okq (⟨"EvenDays$Lines", "readFine", "(LEvenDays$Told;)V"⟩, 3) := ⟨⟨by decide +kernel, by decide +kernel⟩, List.mem_of_getElem? (i := 100) (by decide +kernel), List.mem_of_getElem? (i := 460) (by decide +kernel), List.mem_of_getElem? (i := 461) (by decide +kernel)⟩
theorem lw_p8 : lw_okq (⟨"EvenDays", "isSlot", "(III)Z"⟩, 12) := ⟨⟨by decide +kernel, by decide +kernel⟩, List.mem_of_getElem? (i := 21) (by decide +kernel), List.mem_of_getElem? (i := 499) (by decide +kernel), List.mem_of_getElem? (i := 500) (by decide +kernel)⟩
theorem lw_p9 : lw_okq (⟨"EvenDays", "isPerson", "(II)Z"⟩, 12) := ⟨⟨by decide +kernel, by decide +kernel⟩, List.mem_of_getElem? (i := 21) (by decide +kernel), List.mem_of_getElem? (i := 503) (by decide +kernel), List.mem_of_getElem? (i := 504) (by decide +kernel)⟩
theorem lw_p10 : lw_okq (⟨"EvenDays$Days", "makeBread", "(LEvenDays$Told;II)V"⟩, 6) := ⟨⟨by decide +kernel, by decide +kernel⟩, List.mem_of_getElem? (i := 137) (by decide +kernel), List.mem_of_getElem? (i := 552) (by decide +kernel), List.mem_of_getElem? (i := 553) (by decide +kernel)⟩
theorem lw_p11 : lw_okq (⟨"EvenDays$Days", "toldFor", "(III)I"⟩, 6) := ⟨⟨by decide +kernel, by decide +kernel⟩, List.mem_of_getElem? (i := 137) (by decide +kernel), List.mem_of_getElem? (i := 561) (by decide +kernel), List.mem_of_getElem? (i := 562) (by decide +kernel)⟩
theorem lw_p12 : lw_okq (⟨"EvenDays$Days", "odd", "()I"⟩, 6) := ⟨⟨by decide +kernel, by decide +kernel⟩, List.mem_of_getElem? (i := 137) (by decide +kernel), List.mem_of_getElem? (i := 565) (by decide +kernel), List.mem_of_getElem? (i := 566) (by decide +kernel)⟩
theorem lw_p13 : lw_okq (⟨"EvenDays$Days", "blame", "(LEvenDays$Told;II)V"⟩, 6) := ⟨⟨by decide +kernel, by decide +kernel⟩, List.mem_of_getElem? (i := 137) (by decide +kernel), List.mem_of_getElem? (i := 591) (by decide +kernel), List.mem_of_getElem? (i := 592) (by decide +kernel)⟩
theorem lw_p14 : lw_okq (⟨"EvenDays$Days", "isToldOtherwise", "(LEvenDays$Told;III)Z"⟩, 6) := ⟨⟨by decide +kernel, by decide +kernel⟩, List.mem_of_getElem? (i := 137) (by decide +kernel), List.mem_of_getElem? (i := 595) (by decide +kernel), List.mem_of_getElem? (i := 596) (by decide +kernel)⟩
theorem lw_p15 : lw_okq (⟨"EvenDays$Days", "addFault", "(III)V"⟩, 6) := ⟨⟨by decide +kernel, by decide +kernel⟩, List.mem_of_getElem? (i := 137) (by decide +kernel), List.mem_of_getElem? (i := 599) (by decide +kernel), List.mem_of_getElem? (i := 600) (by decide +kernel)⟩
def lw_privs_1 : List (MethodName × Nat) := [(⟨"EvenDays$Lines", "readLine", "(LEvenDays$Told;)V"⟩, 3), (⟨"EvenDays$Lines", "readTreaty", "(LEvenDays$Told;)V"⟩, 3), (⟨"EvenDays$Lines", "takeNumber", "(II)I"⟩, 3), (⟨"EvenDays$Lines", "readWork", "(LEvenDays$Told;)V"⟩, 3), (⟨"EvenDays$Lines", "readKind", "(LEvenDays$Told;)V"⟩, 3), (⟨"EvenDays$Lines", "readMeant", "(LEvenDays$Told;)V"⟩, 3), (⟨"EvenDays$Lines", "readEats", "(LEvenDays$Told;)V"⟩, 3), (⟨"EvenDays$Lines", "readFine", "(LEvenDays$Told;)V"⟩, 3), (⟨"EvenDays", "isSlot", "(III)Z"⟩, 12), (⟨"EvenDays", "isPerson", "(II)Z"⟩, 12), (⟨"EvenDays$Days", "makeBread", "(LEvenDays$Told;II)V"⟩, 6), (⟨"EvenDays$Days", "toldFor", "(III)I"⟩, 6), (⟨"EvenDays$Days", "odd", "()I"⟩, 6), (⟨"EvenDays$Days", "blame", "(LEvenDays$Told;II)V"⟩, 6), (⟨"EvenDays$Days", "isToldOtherwise", "(LEvenDays$Told;III)Z"⟩, 6), (⟨"EvenDays$Days", "addFault", "(III)V"⟩, 6)]
theorem lw_r1 : ∀ q ∈ lw_privs_1, lw_okq q := List.forall_mem_cons.mpr ⟨lw_p0, List.forall_mem_cons.mpr ⟨lw_p1, List.forall_mem_cons.mpr ⟨lw_p2, List.forall_mem_cons.mpr ⟨lw_p3, List.forall_mem_cons.mpr ⟨lw_p4, List.forall_mem_cons.mpr ⟨lw_p5, List.forall_mem_cons.mpr ⟨lw_p6, List.forall_mem_cons.mpr ⟨lw_p7, List.forall_mem_cons.mpr ⟨lw_p8, List.forall_mem_cons.mpr ⟨lw_p9, List.forall_mem_cons.mpr ⟨lw_p10, List.forall_mem_cons.mpr ⟨lw_p11, List.forall_mem_cons.mpr ⟨lw_p12, List.forall_mem_cons.mpr ⟨lw_p13, List.forall_mem_cons.mpr ⟨lw_p14, List.forall_mem_cons.mpr ⟨lw_p15, fun _ h => absurd h List.not_mem_nil⟩⟩⟩⟩⟩⟩⟩⟩⟩⟩⟩⟩⟩⟩⟩⟩
theorem lw_p16 : lw_okq (⟨"EvenDays$Planner", "reckon", "(I)V"⟩, 6) := ⟨⟨by decide +kernel, by decide +kernel⟩, List.mem_of_getElem? (i := 170) (by decide +kernel), List.mem_of_getElem? (i := 648) (by decide +kernel), List.mem_of_getElem? (i := 649) (by decide +kernel)⟩
theorem lw_p17 : lw_okq (⟨"EvenDays$Planner", "rowOf", "(III)I"⟩, 6) := ⟨⟨by decide +kernel, by decide +kernel⟩, List.mem_of_getElem? (i := 170) (by decide +kernel), List.mem_of_getElem? (i := 652) (by decide +kernel), List.mem_of_getElem? (i := 653) (by decide +kernel)⟩
theorem lw_p18 : lw_okq (⟨"EvenDays$Planner", "clearRow", "(I)V"⟩, 6) := ⟨⟨by decide +kernel, by decide +kernel⟩, List.mem_of_getElem? (i := 170) (by decide +kernel), List.mem_of_getElem? (i := 656) (by decide +kernel), List.mem_of_getElem? (i := 657) (by decide +kernel)⟩
theorem lw_p19 : lw_okq (⟨"EvenDays$Planner", "offer", "(III)V"⟩, 6) := ⟨⟨by decide +kernel, by decide +kernel⟩, List.mem_of_getElem? (i := 170) (by decide +kernel), List.mem_of_getElem? (i := 660) (by decide +kernel), List.mem_of_getElem? (i := 661) (by decide +kernel)⟩
theorem lw_p20 : lw_okq (⟨"EvenDays$Planner", "findWorths", "(III)V"⟩, 6) := ⟨⟨by decide +kernel, by decide +kernel⟩, List.mem_of_getElem? (i := 170) (by decide +kernel), List.mem_of_getElem? (i := 664) (by decide +kernel), List.mem_of_getElem? (i := 665) (by decide +kernel)⟩
theorem lw_p21 : lw_okq (⟨"EvenDays$Planner", "isAllowed", "(IIIII)Z"⟩, 6) := ⟨⟨by decide +kernel, by decide +kernel⟩, List.mem_of_getElem? (i := 170) (by decide +kernel), List.mem_of_getElem? (i := 669) (by decide +kernel), List.mem_of_getElem? (i := 670) (by decide +kernel)⟩
theorem lw_p22 : lw_okq (⟨"EvenDays$Planner", "madeBy", "(III)I"⟩, 6) := ⟨⟨by decide +kernel, by decide +kernel⟩, List.mem_of_getElem? (i := 170) (by decide +kernel), List.mem_of_getElem? (i := 675) (by decide +kernel), List.mem_of_getElem? (i := 676) (by decide +kernel)⟩
theorem lw_p23 : lw_okq (⟨"EvenDays$Planner", "worthOf", "(II)I"⟩, 6) := ⟨⟨by decide +kernel, by decide +kernel⟩, List.mem_of_getElem? (i := 170) (by decide +kernel), List.mem_of_getElem? (i := 680) (by decide +kernel), List.mem_of_getElem? (i := 681) (by decide +kernel)⟩
theorem lw_p24 : lw_okq (⟨"EvenDays$Planner", "reckonRow", "(I)V"⟩, 6) := ⟨⟨by decide +kernel, by decide +kernel⟩, List.mem_of_getElem? (i := 170) (by decide +kernel), List.mem_of_getElem? (i := 688) (by decide +kernel), List.mem_of_getElem? (i := 689) (by decide +kernel)⟩
theorem lw_p25 : lw_okq (⟨"EvenDays$Planner", "offerAll", "(III)V"⟩, 6) := ⟨⟨by decide +kernel, by decide +kernel⟩, List.mem_of_getElem? (i := 170) (by decide +kernel), List.mem_of_getElem? (i := 692) (by decide +kernel), List.mem_of_getElem? (i := 693) (by decide +kernel)⟩
theorem lw_p26 : lw_okq (⟨"EvenDays$Planner", "bestFrom", "(II)I"⟩, 6) := ⟨⟨by decide +kernel, by decide +kernel⟩, List.mem_of_getElem? (i := 170) (by decide +kernel), List.mem_of_getElem? (i := 696) (by decide +kernel), List.mem_of_getElem? (i := 697) (by decide +kernel)⟩
theorem lw_p27 : lw_okq (⟨"EvenDays$Planner", "choose", "(IIII)V"⟩, 6) := ⟨⟨by decide +kernel, by decide +kernel⟩, List.mem_of_getElem? (i := 170) (by decide +kernel), List.mem_of_getElem? (i := 704) (by decide +kernel), List.mem_of_getElem? (i := 705) (by decide +kernel)⟩
theorem lw_p28 : lw_okq (⟨"EvenDays$Messages", "leastOfAll", "()I"⟩, 1) := ⟨⟨by decide +kernel, by decide +kernel⟩, List.mem_of_getElem? (i := 198) (by decide +kernel), List.mem_of_getElem? (i := 728) (by decide +kernel), List.mem_of_getElem? (i := 729) (by decide +kernel)⟩
theorem lw_p29 : lw_okq (⟨"EvenDays$Partners", "leastWith", "(III)I"⟩, 2) := ⟨⟨by decide +kernel, by decide +kernel⟩, List.mem_of_getElem? (i := 208) (by decide +kernel), List.mem_of_getElem? (i := 760) (by decide +kernel), List.mem_of_getElem? (i := 761) (by decide +kernel)⟩
theorem lw_p30 : lw_okq (⟨"EvenDays$Partners", "firstBest", "(III)I"⟩, 2) := ⟨⟨by decide +kernel, by decide +kernel⟩, List.mem_of_getElem? (i := 208) (by decide +kernel), List.mem_of_getElem? (i := 769) (by decide +kernel), List.mem_of_getElem? (i := 770) (by decide +kernel)⟩
theorem lw_p31 : lw_okq (⟨"EvenDays$Marriages", "greatestOf", "(I)I"⟩, 2) := ⟨⟨by decide +kernel, by decide +kernel⟩, List.mem_of_getElem? (i := 221) (by decide +kernel), List.mem_of_getElem? (i := 799) (by decide +kernel), List.mem_of_getElem? (i := 800) (by decide +kernel)⟩
def lw_privs_2 : List (MethodName × Nat) := [(⟨"EvenDays$Planner", "reckon", "(I)V"⟩, 6), (⟨"EvenDays$Planner", "rowOf", "(III)I"⟩, 6), (⟨"EvenDays$Planner", "clearRow", "(I)V"⟩, 6), (⟨"EvenDays$Planner", "offer", "(III)V"⟩, 6), (⟨"EvenDays$Planner", "findWorths", "(III)V"⟩, 6), (⟨"EvenDays$Planner", "isAllowed", "(IIIII)Z"⟩, 6), (⟨"EvenDays$Planner", "madeBy", "(III)I"⟩, 6), (⟨"EvenDays$Planner", "worthOf", "(II)I"⟩, 6), (⟨"EvenDays$Planner", "reckonRow", "(I)V"⟩, 6), (⟨"EvenDays$Planner", "offerAll", "(III)V"⟩, 6), (⟨"EvenDays$Planner", "bestFrom", "(II)I"⟩, 6), (⟨"EvenDays$Planner", "choose", "(IIII)V"⟩, 6), (⟨"EvenDays$Messages", "leastOfAll", "()I"⟩, 1), (⟨"EvenDays$Partners", "leastWith", "(III)I"⟩, 2), (⟨"EvenDays$Partners", "firstBest", "(III)I"⟩, 2), (⟨"EvenDays$Marriages", "greatestOf", "(I)I"⟩, 2)]
theorem lw_r2 : ∀ q ∈ lw_privs_2, lw_okq q := List.forall_mem_cons.mpr ⟨lw_p16, List.forall_mem_cons.mpr ⟨lw_p17, List.forall_mem_cons.mpr ⟨lw_p18, List.forall_mem_cons.mpr ⟨lw_p19, List.forall_mem_cons.mpr ⟨lw_p20, List.forall_mem_cons.mpr ⟨lw_p21, List.forall_mem_cons.mpr ⟨lw_p22, List.forall_mem_cons.mpr ⟨lw_p23, List.forall_mem_cons.mpr ⟨lw_p24, List.forall_mem_cons.mpr ⟨lw_p25, List.forall_mem_cons.mpr ⟨lw_p26, List.forall_mem_cons.mpr ⟨lw_p27, List.forall_mem_cons.mpr ⟨lw_p28, List.forall_mem_cons.mpr ⟨lw_p29, List.forall_mem_cons.mpr ⟨lw_p30, List.forall_mem_cons.mpr ⟨lw_p31, fun _ h => absurd h List.not_mem_nil⟩⟩⟩⟩⟩⟩⟩⟩⟩⟩⟩⟩⟩⟩⟩⟩
theorem lw_p32 : lw_okq (⟨"EvenDays$Marriages", "greatestOfSet", "(II)I"⟩, 2) := ⟨⟨by decide +kernel, by decide +kernel⟩, List.mem_of_getElem? (i := 221) (by decide +kernel), List.mem_of_getElem? (i := 803) (by decide +kernel), List.mem_of_getElem? (i := 804) (by decide +kernel)⟩
theorem lw_p33 : lw_okq (⟨"EvenDays$Marriages", "valueOf", "(II)I"⟩, 2) := ⟨⟨by decide +kernel, by decide +kernel⟩, List.mem_of_getElem? (i := 221) (by decide +kernel), List.mem_of_getElem? (i := 808) (by decide +kernel), List.mem_of_getElem? (i := 809) (by decide +kernel)⟩
theorem lw_p34 : lw_okq (⟨"EvenDays$Rows", "reckon", "(II)I"⟩, 3) := ⟨⟨by decide +kernel, by decide +kernel⟩, List.mem_of_getElem? (i := 234) (by decide +kernel), List.mem_of_getElem? (i := 836) (by decide +kernel), List.mem_of_getElem? (i := 837) (by decide +kernel)⟩
theorem lw_p35 : lw_okq (⟨"EvenDays$Rows", "slipTo", "(III)I"⟩, 3) := ⟨⟨by decide +kernel, by decide +kernel⟩, List.mem_of_getElem? (i := 234) (by decide +kernel), List.mem_of_getElem? (i := 840) (by decide +kernel), List.mem_of_getElem? (i := 841) (by decide +kernel)⟩
theorem lw_p36 : lw_okq (⟨"EvenDays$Rows", "costOf", "(III)I"⟩, 3) := ⟨⟨by decide +kernel, by decide +kernel⟩, List.mem_of_getElem? (i := 234) (by decide +kernel), List.mem_of_getElem? (i := 845) (by decide +kernel), List.mem_of_getElem? (i := 846) (by decide +kernel)⟩
theorem lw_p37 : lw_okq (⟨"EvenDaysModel", "begin", "()V"⟩, 31) := ⟨⟨by decide +kernel, by decide +kernel⟩, List.mem_of_getElem? (i := 873) (by decide +kernel), List.mem_of_getElem? (i := 879) (by decide +kernel), List.mem_of_getElem? (i := 880) (by decide +kernel)⟩
theorem lw_p38 : lw_okq (⟨"EvenDaysModel", "token", "()V"⟩, 31) := ⟨⟨by decide +kernel, by decide +kernel⟩, List.mem_of_getElem? (i := 873) (by decide +kernel), List.mem_of_getElem? (i := 994) (by decide +kernel), List.mem_of_getElem? (i := 995) (by decide +kernel)⟩
theorem lw_p39 : lw_okq (⟨"EvenDaysModel", "readsLine", "()Z"⟩, 31) := ⟨⟨by decide +kernel, by decide +kernel⟩, List.mem_of_getElem? (i := 873) (by decide +kernel), List.mem_of_getElem? (i := 1001) (by decide +kernel), List.mem_of_getElem? (i := 1002) (by decide +kernel)⟩
theorem lw_p40 : lw_okq (⟨"EvenDaysModel", "wordOf", "()I"⟩, 31) := ⟨⟨by decide +kernel, by decide +kernel⟩, List.mem_of_getElem? (i := 873) (by decide +kernel), List.mem_of_getElem? (i := 1005) (by decide +kernel), List.mem_of_getElem? (i := 1006) (by decide +kernel)⟩
theorem lw_p41 : lw_okq (⟨"EvenDaysModel", "isWord", "(II)Z"⟩, 31) := ⟨⟨by decide +kernel, by decide +kernel⟩, List.mem_of_getElem? (i := 873) (by decide +kernel), List.mem_of_getElem? (i := 1010) (by decide +kernel), List.mem_of_getElem? (i := 1011) (by decide +kernel)⟩
theorem lw_p42 : lw_okq (⟨"EvenDaysModel", "readsRest", "(I)Z"⟩, 31) := ⟨⟨by decide +kernel, by decide +kernel⟩, List.mem_of_getElem? (i := 873) (by decide +kernel), List.mem_of_getElem? (i := 1019) (by decide +kernel), List.mem_of_getElem? (i := 1020) (by decide +kernel)⟩
theorem lw_p43 : lw_okq (⟨"EvenDaysModel", "reads", "(III)Z"⟩, 31) := ⟨⟨by decide +kernel, by decide +kernel⟩, List.mem_of_getElem? (i := 873) (by decide +kernel), List.mem_of_getElem? (i := 1023) (by decide +kernel), List.mem_of_getElem? (i := 1024) (by decide +kernel)⟩
theorem lw_p44 : lw_okq (⟨"EvenDaysModel", "readsBread", "(I)Z"⟩, 31) := ⟨⟨by decide +kernel, by decide +kernel⟩, List.mem_of_getElem? (i := 873) (by decide +kernel), List.mem_of_getElem? (i := 1027) (by decide +kernel), List.mem_of_getElem? (i := 1028) (by decide +kernel)⟩
theorem lw_p45 : lw_okq (⟨"EvenDaysModel", "readsWork", "()Z"⟩, 31) := ⟨⟨by decide +kernel, by decide +kernel⟩, List.mem_of_getElem? (i := 873) (by decide +kernel), List.mem_of_getElem? (i := 1031) (by decide +kernel), List.mem_of_getElem? (i := 1032) (by decide +kernel)⟩
theorem lw_p46 : lw_okq (⟨"EvenDaysModel", "tell", "(I)V"⟩, 31) := ⟨⟨by decide +kernel, by decide +kernel⟩, List.mem_of_getElem? (i := 873) (by decide +kernel), List.mem_of_getElem? (i := 1040) (by decide +kernel), List.mem_of_getElem? (i := 1041) (by decide +kernel)⟩
theorem lw_p47 : lw_okq (⟨"EvenDaysModel", "isPair", "(I)Z"⟩, 31) := ⟨⟨by decide +kernel, by decide +kernel⟩, List.mem_of_getElem? (i := 873) (by decide +kernel), List.mem_of_getElem? (i := 1060) (by decide +kernel), List.mem_of_getElem? (i := 1061) (by decide +kernel)⟩
def lw_privs_3 : List (MethodName × Nat) := [(⟨"EvenDays$Marriages", "greatestOfSet", "(II)I"⟩, 2), (⟨"EvenDays$Marriages", "valueOf", "(II)I"⟩, 2), (⟨"EvenDays$Rows", "reckon", "(II)I"⟩, 3), (⟨"EvenDays$Rows", "slipTo", "(III)I"⟩, 3), (⟨"EvenDays$Rows", "costOf", "(III)I"⟩, 3), (⟨"EvenDaysModel", "begin", "()V"⟩, 31), (⟨"EvenDaysModel", "token", "()V"⟩, 31), (⟨"EvenDaysModel", "readsLine", "()Z"⟩, 31), (⟨"EvenDaysModel", "wordOf", "()I"⟩, 31), (⟨"EvenDaysModel", "isWord", "(II)Z"⟩, 31), (⟨"EvenDaysModel", "readsRest", "(I)Z"⟩, 31), (⟨"EvenDaysModel", "reads", "(III)Z"⟩, 31), (⟨"EvenDaysModel", "readsBread", "(I)Z"⟩, 31), (⟨"EvenDaysModel", "readsWork", "()Z"⟩, 31), (⟨"EvenDaysModel", "tell", "(I)V"⟩, 31), (⟨"EvenDaysModel", "isPair", "(I)Z"⟩, 31)]
theorem lw_r3 : ∀ q ∈ lw_privs_3, lw_okq q := List.forall_mem_cons.mpr ⟨lw_p32, List.forall_mem_cons.mpr ⟨lw_p33, List.forall_mem_cons.mpr ⟨lw_p34, List.forall_mem_cons.mpr ⟨lw_p35, List.forall_mem_cons.mpr ⟨lw_p36, List.forall_mem_cons.mpr ⟨lw_p37, List.forall_mem_cons.mpr ⟨lw_p38, List.forall_mem_cons.mpr ⟨lw_p39, List.forall_mem_cons.mpr ⟨lw_p40, List.forall_mem_cons.mpr ⟨lw_p41, List.forall_mem_cons.mpr ⟨lw_p42, List.forall_mem_cons.mpr ⟨lw_p43, List.forall_mem_cons.mpr ⟨lw_p44, List.forall_mem_cons.mpr ⟨lw_p45, List.forall_mem_cons.mpr ⟨lw_p46, List.forall_mem_cons.mpr ⟨lw_p47, fun _ h => absurd h List.not_mem_nil⟩⟩⟩⟩⟩⟩⟩⟩⟩⟩⟩⟩⟩⟩⟩⟩
theorem lw_p48 : lw_okq (⟨"EvenDaysModel", "isHour", "(I)Z"⟩, 31) := ⟨⟨by decide +kernel, by decide +kernel⟩, List.mem_of_getElem? (i := 873) (by decide +kernel), List.mem_of_getElem? (i := 1064) (by decide +kernel), List.mem_of_getElem? (i := 1065) (by decide +kernel)⟩
theorem lw_p49 : lw_okq (⟨"EvenDaysModel", "day", "()V"⟩, 31) := ⟨⟨by decide +kernel, by decide +kernel⟩, List.mem_of_getElem? (i := 873) (by decide +kernel), List.mem_of_getElem? (i := 1081) (by decide +kernel), List.mem_of_getElem? (i := 1082) (by decide +kernel)⟩
theorem lw_p50 : lw_okq (⟨"EvenDaysModel", "isBreach", "(II)Z"⟩, 31) := ⟨⟨by decide +kernel, by decide +kernel⟩, List.mem_of_getElem? (i := 873) (by decide +kernel), List.mem_of_getElem? (i := 1085) (by decide +kernel), List.mem_of_getElem? (i := 1086) (by decide +kernel)⟩
theorem lw_p51 : lw_okq (⟨"EvenDaysModel", "does", "(III)I"⟩, 31) := ⟨⟨by decide +kernel, by decide +kernel⟩, List.mem_of_getElem? (i := 873) (by decide +kernel), List.mem_of_getElem? (i := 1089) (by decide +kernel), List.mem_of_getElem? (i := 1090) (by decide +kernel)⟩
theorem lw_p52 : lw_okq (⟨"EvenDaysModel", "meansOf", "(III)I"⟩, 31) := ⟨⟨by decide +kernel, by decide +kernel⟩, List.mem_of_getElem? (i := 873) (by decide +kernel), List.mem_of_getElem? (i := 1093) (by decide +kernel), List.mem_of_getElem? (i := 1094) (by decide +kernel)⟩
theorem lw_p53 : lw_okq (⟨"EvenDaysModel", "may", "(IIII)Z"⟩, 31) := ⟨⟨by decide +kernel, by decide +kernel⟩, List.mem_of_getElem? (i := 873) (by decide +kernel), List.mem_of_getElem? (i := 1097) (by decide +kernel), List.mem_of_getElem? (i := 1098) (by decide +kernel)⟩
theorem lw_p54 : lw_okq (⟨"EvenDaysModel", "strays", "(III)Z"⟩, 31) := ⟨⟨by decide +kernel, by decide +kernel⟩, List.mem_of_getElem? (i := 873) (by decide +kernel), List.mem_of_getElem? (i := 1101) (by decide +kernel), List.mem_of_getElem? (i := 1102) (by decide +kernel)⟩
theorem lw_p55 : lw_okq (⟨"EvenDaysModel", "charge", "(II)V"⟩, 31) := ⟨⟨by decide +kernel, by decide +kernel⟩, List.mem_of_getElem? (i := 873) (by decide +kernel), List.mem_of_getElem? (i := 1105) (by decide +kernel), List.mem_of_getElem? (i := 1106) (by decide +kernel)⟩
theorem lw_p56 : lw_okq (⟨"EvenDaysModel", "choose", "(II)Z"⟩, 31) := ⟨⟨by decide +kernel, by decide +kernel⟩, List.mem_of_getElem? (i := 873) (by decide +kernel), List.mem_of_getElem? (i := 1136) (by decide +kernel), List.mem_of_getElem? (i := 1137) (by decide +kernel)⟩
theorem lw_p57 : lw_okq (⟨"EvenDaysModel", "layWorths", "(II)V"⟩, 31) := ⟨⟨by decide +kernel, by decide +kernel⟩, List.mem_of_getElem? (i := 873) (by decide +kernel), List.mem_of_getElem? (i := 1140) (by decide +kernel), List.mem_of_getElem? (i := 1141) (by decide +kernel)⟩
theorem lw_p58 : lw_okq (⟨"EvenDaysModel", "worthBy", "(IIIII)I"⟩, 31) := ⟨⟨by decide +kernel, by decide +kernel⟩, List.mem_of_getElem? (i := 873) (by decide +kernel), List.mem_of_getElem? (i := 1144) (by decide +kernel), List.mem_of_getElem? (i := 1145) (by decide +kernel)⟩
theorem lw_p59 : lw_okq (⟨"EvenDaysModel", "fits", "(IIII)Z"⟩, 31) := ⟨⟨by decide +kernel, by decide +kernel⟩, List.mem_of_getElem? (i := 873) (by decide +kernel), List.mem_of_getElem? (i := 1148) (by decide +kernel), List.mem_of_getElem? (i := 1149) (by decide +kernel)⟩
theorem lw_p60 : lw_okq (⟨"EvenDaysModel", "breadOf", "(III)I"⟩, 31) := ⟨⟨by decide +kernel, by decide +kernel⟩, List.mem_of_getElem? (i := 873) (by decide +kernel), List.mem_of_getElem? (i := 1152) (by decide +kernel), List.mem_of_getElem? (i := 1153) (by decide +kernel)⟩
theorem lw_p61 : lw_okq (⟨"EvenDaysModel", "layRests", "(II)I"⟩, 31) := ⟨⟨by decide +kernel, by decide +kernel⟩, List.mem_of_getElem? (i := 873) (by decide +kernel), List.mem_of_getElem? (i := 1178) (by decide +kernel), List.mem_of_getElem? (i := 1179) (by decide +kernel)⟩
theorem lw_p62 : lw_okq (⟨"EvenDaysModel", "harmBy", "(IIII)I"⟩, 31) := ⟨⟨by decide +kernel, by decide +kernel⟩, List.mem_of_getElem? (i := 873) (by decide +kernel), List.mem_of_getElem? (i := 1185) (by decide +kernel), List.mem_of_getElem? (i := 1186) (by decide +kernel)⟩
theorem lw_p63 : lw_okq (⟨"EvenDaysModel", "stays", "(III)I"⟩, 31) := ⟨⟨by decide +kernel, by decide +kernel⟩, List.mem_of_getElem? (i := 873) (by decide +kernel), List.mem_of_getElem? (i := 1214) (by decide +kernel), List.mem_of_getElem? (i := 1215) (by decide +kernel)⟩
def lw_privs_4 : List (MethodName × Nat) := [(⟨"EvenDaysModel", "isHour", "(I)Z"⟩, 31), (⟨"EvenDaysModel", "day", "()V"⟩, 31), (⟨"EvenDaysModel", "isBreach", "(II)Z"⟩, 31), (⟨"EvenDaysModel", "does", "(III)I"⟩, 31), (⟨"EvenDaysModel", "meansOf", "(III)I"⟩, 31), (⟨"EvenDaysModel", "may", "(IIII)Z"⟩, 31), (⟨"EvenDaysModel", "strays", "(III)Z"⟩, 31), (⟨"EvenDaysModel", "charge", "(II)V"⟩, 31), (⟨"EvenDaysModel", "choose", "(II)Z"⟩, 31), (⟨"EvenDaysModel", "layWorths", "(II)V"⟩, 31), (⟨"EvenDaysModel", "worthBy", "(IIIII)I"⟩, 31), (⟨"EvenDaysModel", "fits", "(IIII)Z"⟩, 31), (⟨"EvenDaysModel", "breadOf", "(III)I"⟩, 31), (⟨"EvenDaysModel", "layRests", "(II)I"⟩, 31), (⟨"EvenDaysModel", "harmBy", "(IIII)I"⟩, 31), (⟨"EvenDaysModel", "stays", "(III)I"⟩, 31)]
theorem lw_r4 : ∀ q ∈ lw_privs_4, lw_okq q := List.forall_mem_cons.mpr ⟨lw_p48, List.forall_mem_cons.mpr ⟨lw_p49, List.forall_mem_cons.mpr ⟨lw_p50, List.forall_mem_cons.mpr ⟨lw_p51, List.forall_mem_cons.mpr ⟨lw_p52, List.forall_mem_cons.mpr ⟨lw_p53, List.forall_mem_cons.mpr ⟨lw_p54, List.forall_mem_cons.mpr ⟨lw_p55, List.forall_mem_cons.mpr ⟨lw_p56, List.forall_mem_cons.mpr ⟨lw_p57, List.forall_mem_cons.mpr ⟨lw_p58, List.forall_mem_cons.mpr ⟨lw_p59, List.forall_mem_cons.mpr ⟨lw_p60, List.forall_mem_cons.mpr ⟨lw_p61, List.forall_mem_cons.mpr ⟨lw_p62, List.forall_mem_cons.mpr ⟨lw_p63, fun _ h => absurd h List.not_mem_nil⟩⟩⟩⟩⟩⟩⟩⟩⟩⟩⟩⟩⟩⟩⟩⟩
theorem lw_p64 : lw_okq (⟨"EvenDaysModel", "slipped", "(IIII)I"⟩, 31) := ⟨⟨by decide +kernel, by decide +kernel⟩, List.mem_of_getElem? (i := 873) (by decide +kernel), List.mem_of_getElem? (i := 1218) (by decide +kernel), List.mem_of_getElem? (i := 1219) (by decide +kernel)⟩
theorem lw_p65 : lw_okq (⟨"EvenDaysModel", "copy", "(II)V"⟩, 31) := ⟨⟨by decide +kernel, by decide +kernel⟩, List.mem_of_getElem? (i := 873) (by decide +kernel), List.mem_of_getElem? (i := 1226) (by decide +kernel), List.mem_of_getElem? (i := 1227) (by decide +kernel)⟩
def lw_privs_5 : List (MethodName × Nat) := [(⟨"EvenDaysModel", "slipped", "(IIII)I"⟩, 31), (⟨"EvenDaysModel", "copy", "(II)V"⟩, 31)]
theorem lw_r5 : ∀ q ∈ lw_privs_5, lw_okq q := List.forall_mem_cons.mpr ⟨lw_p64, List.forall_mem_cons.mpr ⟨lw_p65, fun _ h => absurd h List.not_mem_nil⟩⟩
def lw_privs : List (MethodName × Nat) := lw_privs_1 ++ (lw_privs_2 ++ (lw_privs_3 ++ (lw_privs_4 ++ (lw_privs_5))))
def lw_tbl : List Cond := k2_sels lw_privs ++ tables_1
theorem lw_privs_ok : ∀ q ∈ lw_privs, lw_okq q := by
  show ∀ q ∈ lw_privs_1 ++ (lw_privs_2 ++ (lw_privs_3 ++ (lw_privs_4 ++ (lw_privs_5)))), lw_okq q
  exact List.forall_mem_append.mpr ⟨lw_r1, List.forall_mem_append.mpr ⟨lw_r2, List.forall_mem_append.mpr ⟨lw_r3, List.forall_mem_append.mpr ⟨lw_r4, lw_r5⟩⟩⟩⟩
-- ===== end of PART A; then your names; then what follows =====
def RX0 : String := "EvenDays$Days"
def TX0 : u_T := fun k => match k with
  | 0 => ("EvenDays$Days", "gone", "I", false)
  | 1 => ("EvenDays$Days", "illBits", "I", false)
  | 2 => ("EvenDays$Days", "bread", "[I", true)
  | 3 => ("EvenDays$Days", "faults", "[I", true)
  | 4 => ("EvenDays$Days", "owed", "[I", true)
  | _ => ("EvenDays$Days", "otherwise", "[I", true)
def tyX0 : Nat → FieldType := fun k => match k with
  | 0 => .int
  | 1 => .int
  | 2 => .array .int
  | 3 => .array .int
  | 4 => .array .int
  | _ => .array .int
abbrev wsX00 : List Cond := u_ws RX0 TX0 6
theorem nmX0 : ∀ a, a < 6 → ∀ b, b < 6 → a ≠ b → (TX0 a).2.1 ≠ (TX0 b).2.1 := by decide +kernel
theorem tyX0_ok : ∀ k, k < 6 → parseFieldDescriptor (TX0 k).2.2.1 = some (tyX0 k) := by decide +kernel
abbrev cX0_init : ByteArray := prog_2_method_1_code
def yX0_init : MethodName := ⟨RX0, "<init>", "()V"⟩
abbrev cX0_beginAnew : ByteArray := prog_2_method_2_code
def yX0_beginAnew : MethodName := ⟨RX0, "beginAnew", "()V"⟩
abbrev cX0_becomeLike : ByteArray := prog_2_method_3_code
def yX0_becomeLike : MethodName := ⟨RX0, "becomeLike", "(LEvenDays$Days;)V"⟩
abbrev cX0_tellOtherwise : ByteArray := prog_2_method_4_code
def yX0_tellOtherwise : MethodName := ⟨RX0, "tellOtherwise", "(IIII)V"⟩
abbrev cX0_tellIll : ByteArray := prog_2_method_5_code
def yX0_tellIll : MethodName := ⟨RX0, "tellIll", "(IIZ)V"⟩
abbrev cX0_isIll : ByteArray := prog_2_method_6_code
def yX0_isIll : MethodName := ⟨RX0, "isIll", "(II)Z"⟩
abbrev cX0_faultsOf : ByteArray := prog_2_method_7_code
def yX0_faultsOf : MethodName := ⟨RX0, "faultsOf", "(II)I"⟩
abbrev cX0_owedBy : ByteArray := prog_2_method_8_code
def yX0_owedBy : MethodName := ⟨RX0, "owedBy", "(II)I"⟩
abbrev cX0_odd : ByteArray := prog_2_method_9_code
def yX0_odd : MethodName := ⟨RX0, "odd", "()I"⟩
abbrev cX0_toldFor : ByteArray := prog_2_method_10_code
def yX0_toldFor : MethodName := ⟨RX0, "toldFor", "(III)I"⟩
abbrev cX0_isToldOtherwise : ByteArray := prog_2_method_11_code
def yX0_isToldOtherwise : MethodName := ⟨RX0, "isToldOtherwise", "(LEvenDays$Told;III)Z"⟩
abbrev cX0_workOf : ByteArray := prog_2_method_12_code
def yX0_workOf : MethodName := ⟨RX0, "workOf", "(LEvenDays$Told;III)I"⟩
abbrev cX0_isBreach : ByteArray := prog_2_method_13_code
def yX0_isBreach : MethodName := ⟨RX0, "isBreach", "(LEvenDays$Told;II)Z"⟩
abbrev cX0_passOne : ByteArray := prog_2_method_14_code
def yX0_passOne : MethodName := ⟨RX0, "passOne", "(LEvenDays$Told;)V"⟩
abbrev cX0_makeBread : ByteArray := prog_2_method_15_code
def yX0_makeBread : MethodName := ⟨RX0, "makeBread", "(LEvenDays$Told;II)V"⟩
abbrev cX0_blame : ByteArray := prog_2_method_16_code
def yX0_blame : MethodName := ⟨RX0, "blame", "(LEvenDays$Told;II)V"⟩
abbrev cX0_addFault : ByteArray := prog_2_method_17_code
def yX0_addFault : MethodName := ⟨RX0, "addFault", "(III)V"⟩
def RX1 : String := "EvenDays$Lines"
def TX1 : u_T := fun k => match k with
  | 0 => ("EvenDays$Lines", "tokens", "LEvenDays$Tokens;", true)
  | 1 => ("EvenDays$Lines", "faultAt", "I", false)
  | _ => ("EvenDays$Lines", "read", "I", false)
def tyX1 : Nat → FieldType := fun k => match k with
  | 0 => .object "EvenDays$Tokens"
  | 1 => .int
  | _ => .int
abbrev wsX10 : List Cond := u_ws RX1 TX1 3
theorem nmX1 : ∀ a, a < 3 → ∀ b, b < 3 → a ≠ b → (TX1 a).2.1 ≠ (TX1 b).2.1 := by decide +kernel
theorem tyX1_ok : ∀ k, k < 3 → parseFieldDescriptor (TX1 k).2.2.1 = some (tyX1 k) := by decide +kernel
abbrev cX1_init : ByteArray := prog_3_method_1_code
def yX1_init : MethodName := ⟨RX1, "<init>", "(LEvenDays$Text;)V"⟩
abbrev cX1_readInto : ByteArray := prog_3_method_2_code
def yX1_readInto : MethodName := ⟨RX1, "readInto", "(LEvenDays$Told;)I"⟩
abbrev cX1_readLine : ByteArray := prog_3_method_3_code
def yX1_readLine : MethodName := ⟨RX1, "readLine", "(LEvenDays$Told;)V"⟩
abbrev cX1_readTreaty : ByteArray := prog_3_method_4_code
def yX1_readTreaty : MethodName := ⟨RX1, "readTreaty", "(LEvenDays$Told;)V"⟩
abbrev cX1_readWork : ByteArray := prog_3_method_5_code
def yX1_readWork : MethodName := ⟨RX1, "readWork", "(LEvenDays$Told;)V"⟩
abbrev cX1_readKind : ByteArray := prog_3_method_6_code
def yX1_readKind : MethodName := ⟨RX1, "readKind", "(LEvenDays$Told;)V"⟩
abbrev cX1_readMeant : ByteArray := prog_3_method_7_code
def yX1_readMeant : MethodName := ⟨RX1, "readMeant", "(LEvenDays$Told;)V"⟩
abbrev cX1_readEats : ByteArray := prog_3_method_8_code
def yX1_readEats : MethodName := ⟨RX1, "readEats", "(LEvenDays$Told;)V"⟩
abbrev cX1_readFine : ByteArray := prog_3_method_9_code
def yX1_readFine : MethodName := ⟨RX1, "readFine", "(LEvenDays$Told;)V"⟩
abbrev cX1_takeNumber : ByteArray := prog_3_method_10_code
def yX1_takeNumber : MethodName := ⟨RX1, "takeNumber", "(II)I"⟩
def RX2 : String := "EvenDays$Marriages"
def TX2 : u_T := fun k => match k with
  | 0 => ("EvenDays$Marriages", "likings", "[I", true)
  | _ => ("EvenDays$Marriages", "greatest", "[I", true)
def tyX2 : Nat → FieldType := fun k => match k with
  | 0 => .array .int
  | _ => .array .int
abbrev wsX20 : List Cond := u_ws RX2 TX2 2
theorem nmX2 : ∀ a, a < 2 → ∀ b, b < 2 → a ≠ b → (TX2 a).2.1 ≠ (TX2 b).2.1 := by decide +kernel
theorem tyX2_ok : ∀ k, k < 2 → parseFieldDescriptor (TX2 k).2.2.1 = some (tyX2 k) := by decide +kernel
abbrev cX2_init : ByteArray := prog_4_method_1_code
def yX2_init : MethodName := ⟨RX2, "<init>", "()V"⟩
abbrev cX2_indexOf : ByteArray := prog_4_method_2_code
def yX2_indexOf : MethodName := ⟨RX2, "indexOf", "(III)I"⟩
abbrev cX2_changeLiking : ByteArray := prog_4_method_3_code
def yX2_changeLiking : MethodName := ⟨RX2, "changeLiking", "(IIII)I"⟩
abbrev cX2_greatestSum : ByteArray := prog_4_method_4_code
def yX2_greatestSum : MethodName := ⟨RX2, "greatestSum", "(I)I"⟩
abbrev cX2_mostFours : ByteArray := prog_4_method_5_code
def yX2_mostFours : MethodName := ⟨RX2, "mostFours", "(I)I"⟩
abbrev cX2_greatestOf : ByteArray := prog_4_method_6_code
def yX2_greatestOf : MethodName := ⟨RX2, "greatestOf", "(I)I"⟩
abbrev cX2_greatestOfSet : ByteArray := prog_4_method_7_code
def yX2_greatestOfSet : MethodName := ⟨RX2, "greatestOfSet", "(II)I"⟩
abbrev cX2_valueOf : ByteArray := prog_4_method_8_code
def yX2_valueOf : MethodName := ⟨RX2, "valueOf", "(II)I"⟩
def RX3 : String := "EvenDays$Messages"
def TX3 : u_T := fun k => match k with
  | _ => ("EvenDays$Messages", "fewest", "[I", true)
def tyX3 : Nat → FieldType := fun k => match k with
  | _ => .array .int
abbrev wsX30 : List Cond := u_ws RX3 TX3 1
theorem nmX3 : ∀ a, a < 1 → ∀ b, b < 1 → a ≠ b → (TX3 a).2.1 ≠ (TX3 b).2.1 := by decide +kernel
theorem tyX3_ok : ∀ k, k < 1 → parseFieldDescriptor (TX3 k).2.2.1 = some (tyX3 k) := by decide +kernel
abbrev cX3_init : ByteArray := prog_5_method_1_code
def yX3_init : MethodName := ⟨RX3, "<init>", "()V"⟩
abbrev cX3_classIn : ByteArray := prog_5_method_2_code
def yX3_classIn : MethodName := ⟨RX3, "classIn", "(II)I"⟩
abbrev cX3_toBeAlike : ByteArray := prog_5_method_3_code
def yX3_toBeAlike : MethodName := ⟨RX3, "toBeAlike", "(III)I"⟩
abbrev cX3_toBeNeverAlike : ByteArray := prog_5_method_4_code
def yX3_toBeNeverAlike : MethodName := ⟨RX3, "toBeNeverAlike", "(III)I"⟩
abbrev cX3_leastOfAll : ByteArray := prog_5_method_5_code
def yX3_leastOfAll : MethodName := ⟨RX3, "leastOfAll", "()I"⟩
def RX4 : String := "EvenDays$Partners"
def TX4 : u_T := fun k => match k with
  | 0 => ("EvenDays$Partners", "harms", "[I", true)
  | _ => ("EvenDays$Partners", "least", "[I", true)
def tyX4 : Nat → FieldType := fun k => match k with
  | 0 => .array .int
  | _ => .array .int
abbrev wsX40 : List Cond := u_ws RX4 TX4 2
theorem nmX4 : ∀ a, a < 2 → ∀ b, b < 2 → a ≠ b → (TX4 a).2.1 ≠ (TX4 b).2.1 := by decide +kernel
theorem tyX4_ok : ∀ k, k < 2 → parseFieldDescriptor (TX4 k).2.2.1 = some (tyX4 k) := by decide +kernel
abbrev cX4_init : ByteArray := prog_6_method_1_code
def yX4_init : MethodName := ⟨RX4, "<init>", "()V"⟩
abbrev cX4_changeHarm : ByteArray := prog_6_method_2_code
def yX4_changeHarm : MethodName := ⟨RX4, "changeHarm", "(III)I"⟩
abbrev cX4_leastHarm : ByteArray := prog_6_method_3_code
def yX4_leastHarm : MethodName := ⟨RX4, "leastHarm", "(III)I"⟩
abbrev cX4_leastWith : ByteArray := prog_6_method_4_code
def yX4_leastWith : MethodName := ⟨RX4, "leastWith", "(III)I"⟩
abbrev cX4_partnerOf : ByteArray := prog_6_method_5_code
def yX4_partnerOf : MethodName := ⟨RX4, "partnerOf", "(II)I"⟩
abbrev cX4_firstBest : ByteArray := prog_6_method_6_code
def yX4_firstBest : MethodName := ⟨RX4, "firstBest", "(III)I"⟩
def RX5 : String := "EvenDays$Planner"
def TX5 : u_T := fun k => match k with
  | 0 => ("EvenDays$Planner", "told", "LEvenDays$Told;", true)
  | 1 => ("EvenDays$Planner", "best", "[I", true)
  | 2 => ("EvenDays$Planner", "worthFor", "[I", true)
  | 3 => ("EvenDays$Planner", "isReckoned", "[Z", true)
  | 4 => ("EvenDays$Planner", "one", "I", false)
  | _ => ("EvenDays$Planner", "other", "I", false)
def tyX5 : Nat → FieldType := fun k => match k with
  | 0 => .object "EvenDays$Told"
  | 1 => .array .int
  | 2 => .array .int
  | 3 => .array .boolean
  | 4 => .int
  | _ => .int
abbrev wsX50 : List Cond := u_ws RX5 TX5 6
theorem nmX5 : ∀ a, a < 6 → ∀ b, b < 6 → a ≠ b → (TX5 a).2.1 ≠ (TX5 b).2.1 := by decide +kernel
theorem tyX5_ok : ∀ k, k < 6 → parseFieldDescriptor (TX5 k).2.2.1 = some (tyX5 k) := by decide +kernel
abbrev cX5_init : ByteArray := prog_7_method_1_code
def yX5_init : MethodName := ⟨RX5, "<init>", "(LEvenDays$Told;)V"⟩
abbrev cX5_forget : ByteArray := prog_7_method_2_code
def yX5_forget : MethodName := ⟨RX5, "forget", "()V"⟩
abbrev cX5_greatestWorth : ByteArray := prog_7_method_3_code
def yX5_greatestWorth : MethodName := ⟨RX5, "greatestWorth", "(II)I"⟩
abbrev cX5_rowOf : ByteArray := prog_7_method_4_code
def yX5_rowOf : MethodName := ⟨RX5, "rowOf", "(III)I"⟩
abbrev cX5_bestFrom : ByteArray := prog_7_method_5_code
def yX5_bestFrom : MethodName := ⟨RX5, "bestFrom", "(II)I"⟩
abbrev cX5_reckon : ByteArray := prog_7_method_6_code
def yX5_reckon : MethodName := ⟨RX5, "reckon", "(I)V"⟩
abbrev cX5_reckonRow : ByteArray := prog_7_method_7_code
def yX5_reckonRow : MethodName := ⟨RX5, "reckonRow", "(I)V"⟩
abbrev cX5_findWorths : ByteArray := prog_7_method_8_code
def yX5_findWorths : MethodName := ⟨RX5, "findWorths", "(III)V"⟩
abbrev cX5_offerAll : ByteArray := prog_7_method_9_code
def yX5_offerAll : MethodName := ⟨RX5, "offerAll", "(III)V"⟩
abbrev cX5_clearRow : ByteArray := prog_7_method_10_code
def yX5_clearRow : MethodName := ⟨RX5, "clearRow", "(I)V"⟩
abbrev cX5_offer : ByteArray := prog_7_method_11_code
def yX5_offer : MethodName := ⟨RX5, "offer", "(III)V"⟩
abbrev cX5_isAllowed : ByteArray := prog_7_method_12_code
def yX5_isAllowed : MethodName := ⟨RX5, "isAllowed", "(IIIII)Z"⟩
abbrev cX5_madeBy : ByteArray := prog_7_method_13_code
def yX5_madeBy : MethodName := ⟨RX5, "madeBy", "(III)I"⟩
abbrev cX5_worthOf : ByteArray := prog_7_method_14_code
def yX5_worthOf : MethodName := ⟨RX5, "worthOf", "(II)I"⟩
abbrev cX5_follow : ByteArray := prog_7_method_15_code
def yX5_follow : MethodName := ⟨RX5, "follow", "(IIII)I"⟩
abbrev cX5_choose : ByteArray := prog_7_method_16_code
def yX5_choose : MethodName := ⟨RX5, "choose", "(IIII)V"⟩
def RX6 : String := "EvenDays$Rows"
def TX6 : u_T := fun k => match k with
  | 0 => ("EvenDays$Rows", "length", "I", false)
  | 1 => ("EvenDays$Rows", "alike", "[Z", true)
  | _ => ("EvenDays$Rows", "least", "[I", true)
def tyX6 : Nat → FieldType := fun k => match k with
  | 0 => .int
  | 1 => .array .boolean
  | _ => .array .int
abbrev wsX60 : List Cond := u_ws RX6 TX6 3
theorem nmX6 : ∀ a, a < 3 → ∀ b, b < 3 → a ≠ b → (TX6 a).2.1 ≠ (TX6 b).2.1 := by decide +kernel
theorem tyX6_ok : ∀ k, k < 3 → parseFieldDescriptor (TX6 k).2.2.1 = some (tyX6 k) := by decide +kernel
abbrev cX6_init : ByteArray := prog_8_method_1_code
def yX6_init : MethodName := ⟨RX6, "<init>", "()V"⟩
abbrev cX6_append : ByteArray := prog_8_method_2_code
def yX6_append : MethodName := ⟨RX6, "append", "(Z)V"⟩
abbrev cX6_leastCost : ByteArray := prog_8_method_3_code
def yX6_leastCost : MethodName := ⟨RX6, "leastCost", "(II)I"⟩
abbrev cX6_fewestSlips : ByteArray := prog_8_method_4_code
def yX6_fewestSlips : MethodName := ⟨RX6, "fewestSlips", "(II)I"⟩
abbrev cX6_firstSlip : ByteArray := prog_8_method_5_code
def yX6_firstSlip : MethodName := ⟨RX6, "firstSlip", "(II)I"⟩
abbrev cX6_reckon : ByteArray := prog_8_method_6_code
def yX6_reckon : MethodName := ⟨RX6, "reckon", "(II)I"⟩
abbrev cX6_slipTo : ByteArray := prog_8_method_7_code
def yX6_slipTo : MethodName := ⟨RX6, "slipTo", "(III)I"⟩
abbrev cX6_costOf : ByteArray := prog_8_method_8_code
def yX6_costOf : MethodName := ⟨RX6, "costOf", "(III)I"⟩
def RX7 : String := "EvenDays$Text"
def TX7 : u_T := fun k => match k with
  | 0 => ("EvenDays$Text", "length", "I", false)
  | _ => ("EvenDays$Text", "signs", "[I", true)
def tyX7 : Nat → FieldType := fun k => match k with
  | 0 => .int
  | _ => .array .int
abbrev wsX70 : List Cond := u_ws RX7 TX7 2
theorem nmX7 : ∀ a, a < 2 → ∀ b, b < 2 → a ≠ b → (TX7 a).2.1 ≠ (TX7 b).2.1 := by decide +kernel
theorem tyX7_ok : ∀ k, k < 2 → parseFieldDescriptor (TX7 k).2.2.1 = some (tyX7 k) := by decide +kernel
abbrev cX7_init : ByteArray := prog_9_method_1_code
def yX7_init : MethodName := ⟨RX7, "<init>", "()V"⟩
abbrev cX7_append : ByteArray := prog_9_method_2_code
def yX7_append : MethodName := ⟨RX7, "append", "(JI)V"⟩
abbrev cX7_signAt : ByteArray := prog_9_method_3_code
def yX7_signAt : MethodName := ⟨RX7, "signAt", "(I)I"⟩
def RX8 : String := "EvenDays$Tokens"
def TX8 : u_T := fun k => match k with
  | 0 => ("EvenDays$Tokens", "text", "LEvenDays$Text;", true)
  | 1 => ("EvenDays$Tokens", "begin", "I", false)
  | 2 => ("EvenDays$Tokens", "behind", "I", false)
  | _ => ("EvenDays$Tokens", "kind", "I", false)
def tyX8 : Nat → FieldType := fun k => match k with
  | 0 => .object "EvenDays$Text"
  | 1 => .int
  | 2 => .int
  | _ => .int
abbrev wsX80 : List Cond := u_ws RX8 TX8 4
theorem nmX8 : ∀ a, a < 4 → ∀ b, b < 4 → a ≠ b → (TX8 a).2.1 ≠ (TX8 b).2.1 := by decide +kernel
theorem tyX8_ok : ∀ k, k < 4 → parseFieldDescriptor (TX8 k).2.2.1 = some (tyX8 k) := by decide +kernel
abbrev cX8_init : ByteArray := prog_10_method_1_code
def yX8_init : MethodName := ⟨RX8, "<init>", "(LEvenDays$Text;)V"⟩
abbrev cX8_rewind : ByteArray := prog_10_method_2_code
def yX8_rewind : MethodName := ⟨RX8, "rewind", "()V"⟩
abbrev cX8_advance : ByteArray := prog_10_method_3_code
def yX8_advance : MethodName := ⟨RX8, "advance", "()V"⟩
abbrev cX8_kindOfSign : ByteArray := prog_10_method_4_code
def yX8_kindOfSign : MethodName := ⟨RX8, "kindOfSign", "(I)I"⟩
abbrev cX8_isEnd : ByteArray := prog_10_method_5_code
def yX8_isEnd : MethodName := ⟨RX8, "isEnd", "()Z"⟩
abbrev cX8_isSign : ByteArray := prog_10_method_6_code
def yX8_isSign : MethodName := ⟨RX8, "isSign", "(C)Z"⟩
abbrev cX8_isWord : ByteArray := prog_10_method_7_code
def yX8_isWord : MethodName := ⟨RX8, "isWord", "(Ljava/lang/String;)Z"⟩
abbrev cX8_number : ByteArray := prog_10_method_8_code
def yX8_number : MethodName := ⟨RX8, "number", "()I"⟩
def RX9 : String := "EvenDays$Told"
def TX9 : u_T := fun k => match k with
  | 0 => ("EvenDays$Told", "pairs", "I", false)
  | 1 => ("EvenDays$Told", "hours", "I", false)
  | 2 => ("EvenDays$Told", "eats", "I", false)
  | 3 => ("EvenDays$Told", "fine", "I", false)
  | 4 => ("EvenDays$Told", "kinds", "[I", true)
  | 5 => ("EvenDays$Told", "classes", "[I", true)
  | 6 => ("EvenDays$Told", "breads", "[I", true)
  | 7 => ("EvenDays$Told", "worths", "[I", true)
  | _ => ("EvenDays$Told", "meantWorks", "[I", true)
def tyX9 : Nat → FieldType := fun k => match k with
  | 0 => .int
  | 1 => .int
  | 2 => .int
  | 3 => .int
  | 4 => .array .int
  | 5 => .array .int
  | 6 => .array .int
  | 7 => .array .int
  | _ => .array .int
abbrev wsX90 : List Cond := u_ws RX9 TX9 9
theorem nmX9 : ∀ a, a < 9 → ∀ b, b < 9 → a ≠ b → (TX9 a).2.1 ≠ (TX9 b).2.1 := by decide +kernel
theorem tyX9_ok : ∀ k, k < 9 → parseFieldDescriptor (TX9 k).2.2.1 = some (tyX9 k) := by decide +kernel
abbrev cX9_init : ByteArray := prog_11_method_1_code
def yX9_init : MethodName := ⟨RX9, "<init>", "()V"⟩
abbrev cX9_settle : ByteArray := prog_11_method_2_code
def yX9_settle : MethodName := ⟨RX9, "settle", "(II)V"⟩
abbrev cX9_becomeLike : ByteArray := prog_11_method_3_code
def yX9_becomeLike : MethodName := ⟨RX9, "becomeLike", "(LEvenDays$Told;)V"⟩
abbrev cX9_tellWork : ByteArray := prog_11_method_4_code
def yX9_tellWork : MethodName := ⟨RX9, "tellWork", "(III)V"⟩
abbrev cX9_tellBread : ByteArray := prog_11_method_5_code
def yX9_tellBread : MethodName := ⟨RX9, "tellBread", "(III)V"⟩
abbrev cX9_tellKind : ByteArray := prog_11_method_6_code
def yX9_tellKind : MethodName := ⟨RX9, "tellKind", "(II)V"⟩
abbrev cX9_tellMeant : ByteArray := prog_11_method_7_code
def yX9_tellMeant : MethodName := ⟨RX9, "tellMeant", "(III)V"⟩
abbrev cX9_hasPair : ByteArray := prog_11_method_8_code
def yX9_hasPair : MethodName := ⟨RX9, "hasPair", "(I)Z"⟩
abbrev cX9_hasHour : ByteArray := prog_11_method_9_code
def yX9_hasHour : MethodName := ⟨RX9, "hasHour", "(I)Z"⟩
abbrev cX9_kindOf : ByteArray := prog_11_method_10_code
def yX9_kindOf : MethodName := ⟨RX9, "kindOf", "(I)I"⟩
abbrev cX9_classOf : ByteArray := prog_11_method_11_code
def yX9_classOf : MethodName := ⟨RX9, "classOf", "(I)I"⟩
abbrev cX9_worthOf : ByteArray := prog_11_method_12_code
def yX9_worthOf : MethodName := ⟨RX9, "worthOf", "(I)I"⟩
abbrev cX9_breadOf : ByteArray := prog_11_method_13_code
def yX9_breadOf : MethodName := ⟨RX9, "breadOf", "(II)I"⟩
abbrev cX9_meantOn : ByteArray := prog_11_method_14_code
def yX9_meantOn : MethodName := ⟨RX9, "meantOn", "(IIII)I"⟩
abbrev cX9_canBeDone : ByteArray := prog_11_method_15_code
def yX9_canBeDone : MethodName := ⟨RX9, "canBeDone", "(II)Z"⟩
abbrev cX9_mayDo : ByteArray := prog_11_method_16_code
def yX9_mayDo : MethodName := ⟨RX9, "mayDo", "(IIII)Z"⟩
abbrev cX9_breadMade : ByteArray := prog_11_method_17_code
def yX9_breadMade : MethodName := ⟨RX9, "breadMade", "(III)I"⟩
abbrev cX9_keepsTreaty : ByteArray := prog_11_method_18_code
def yX9_keepsTreaty : MethodName := ⟨RX9, "keepsTreaty", "(IIII)Z"⟩
def RX10 : String := "EvenDays"
def TX10 : u_T := fun k => match k with
  | 0 => ("EvenDays", "told", "LEvenDays$Told;", true)
  | 1 => ("EvenDays", "draft", "LEvenDays$Told;", true)
  | 2 => ("EvenDays", "text", "LEvenDays$Text;", true)
  | 3 => ("EvenDays", "lines", "LEvenDays$Lines;", true)
  | 4 => ("EvenDays", "now", "LEvenDays$Days;", true)
  | 5 => ("EvenDays", "kept", "[LEvenDays$Days;", true)
  | 6 => ("EvenDays", "isKept", "[Z", true)
  | 7 => ("EvenDays", "planner", "LEvenDays$Planner;", true)
  | 8 => ("EvenDays", "messages", "LEvenDays$Messages;", true)
  | 9 => ("EvenDays", "partners", "LEvenDays$Partners;", true)
  | 10 => ("EvenDays", "marriages", "LEvenDays$Marriages;", true)
  | _ => ("EvenDays", "rows", "LEvenDays$Rows;", true)
def tyX10 : Nat → FieldType := fun k => match k with
  | 0 => .object "EvenDays$Told"
  | 1 => .object "EvenDays$Told"
  | 2 => .object "EvenDays$Text"
  | 3 => .object "EvenDays$Lines"
  | 4 => .object "EvenDays$Days"
  | 5 => .array (.object "EvenDays$Days")
  | 6 => .array .boolean
  | 7 => .object "EvenDays$Planner"
  | 8 => .object "EvenDays$Messages"
  | 9 => .object "EvenDays$Partners"
  | 10 => .object "EvenDays$Marriages"
  | _ => .object "EvenDays$Rows"
abbrev wsX100 : List Cond := u_ws RX10 TX10 12
theorem nmX10 : ∀ a, a < 12 → ∀ b, b < 12 → a ≠ b → (TX10 a).2.1 ≠ (TX10 b).2.1 := by decide +kernel
theorem tyX10_ok : ∀ k, k < 12 → parseFieldDescriptor (TX10 k).2.2.1 = some (tyX10 k) := by decide +kernel
abbrev cX10_init : ByteArray := prog_1_method_1_code
def yX10_init : MethodName := ⟨RX10, "<init>", "()V"⟩
abbrev cX10_write : ByteArray := prog_1_method_2_code
def yX10_write : MethodName := ⟨RX10, "write", "(JI)I"⟩
abbrev cX10_erase : ByteArray := prog_1_method_3_code
def yX10_erase : MethodName := ⟨RX10, "erase", "()I"⟩
abbrev cX10_fault : ByteArray := prog_1_method_4_code
def yX10_fault : MethodName := ⟨RX10, "fault", "()I"⟩
abbrev cX10_treaty : ByteArray := prog_1_method_5_code
def yX10_treaty : MethodName := ⟨RX10, "treaty", "()I"⟩
abbrev cX10_work : ByteArray := prog_1_method_6_code
def yX10_work : MethodName := ⟨RX10, "work", "(II)I"⟩
abbrev cX10_meant : ByteArray := prog_1_method_7_code
def yX10_meant : MethodName := ⟨RX10, "meant", "(IIII)I"⟩
abbrev cX10_done : ByteArray := prog_1_method_8_code
def yX10_done : MethodName := ⟨RX10, "done", "(IIII)I"⟩
abbrev cX10_ill : ByteArray := prog_1_method_9_code
def yX10_ill : MethodName := ⟨RX10, "ill", "(IIZ)I"⟩
abbrev cX10_days : ByteArray := prog_1_method_10_code
def yX10_days : MethodName := ⟨RX10, "days", "(I)I"⟩
abbrev cX10_person : ByteArray := prog_1_method_11_code
def yX10_person : MethodName := ⟨RX10, "person", "(III)I"⟩
abbrev cX10_bread : ByteArray := prog_1_method_12_code
def yX10_bread : MethodName := ⟨RX10, "bread", "(I)I"⟩
abbrev cX10_breaches : ByteArray := prog_1_method_13_code
def yX10_breaches : MethodName := ⟨RX10, "breaches", "(I)I"⟩
abbrev cX10_as : ByteArray := prog_1_method_14_code
def yX10_as : MethodName := ⟨RX10, "as", "(II)I"⟩
abbrev cX10_plan : ByteArray := prog_1_method_15_code
def yX10_plan : MethodName := ⟨RX10, "plan", "(III)I"⟩
abbrev cX10_planned : ByteArray := prog_1_method_16_code
def yX10_planned : MethodName := ⟨RX10, "planned", "(IIIII)I"⟩
abbrev cX10_news : ByteArray := prog_1_method_17_code
def yX10_news : MethodName := ⟨RX10, "news", "(IIIZ)I"⟩
abbrev cX10_harm : ByteArray := prog_1_method_18_code
def yX10_harm : MethodName := ⟨RX10, "harm", "(III)I"⟩
abbrev cX10_anew : ByteArray := prog_1_method_19_code
def yX10_anew : MethodName := ⟨RX10, "anew", "(I)I"⟩
abbrev cX10_forced : ByteArray := prog_1_method_20_code
def yX10_forced : MethodName := ⟨RX10, "forced", "(II)I"⟩
abbrev cX10_like : ByteArray := prog_1_method_21_code
def yX10_like : MethodName := ⟨RX10, "like", "(IIII)I"⟩
abbrev cX10_fours : ByteArray := prog_1_method_22_code
def yX10_fours : MethodName := ⟨RX10, "fours", "(I)I"⟩
abbrev cX10_record : ByteArray := prog_1_method_23_code
def yX10_record : MethodName := ⟨RX10, "record", "(Z)I"⟩
abbrev cX10_burn : ByteArray := prog_1_method_24_code
def yX10_burn : MethodName := ⟨RX10, "burn", "()I"⟩
abbrev cX10_slips : ByteArray := prog_1_method_25_code
def yX10_slips : MethodName := ⟨RX10, "slips", "(III)I"⟩
abbrev cX10_keep : ByteArray := prog_1_method_26_code
def yX10_keep : MethodName := ⟨RX10, "keep", "(I)I"⟩
abbrev cX10_back : ByteArray := prog_1_method_27_code
def yX10_back : MethodName := ⟨RX10, "back", "(I)I"⟩
abbrev cX10_count : ByteArray := prog_1_method_28_code
def yX10_count : MethodName := ⟨RX10, "count", "(I)I"⟩
abbrev cX10_within : ByteArray := prog_1_method_29_code
def yX10_within : MethodName := ⟨RX10, "within", "(III)Z"⟩
abbrev cX10_isValley : ByteArray := prog_1_method_30_code
def yX10_isValley : MethodName := ⟨RX10, "isValley", "(I)Z"⟩
abbrev cX10_isPerson : ByteArray := prog_1_method_31_code
def yX10_isPerson : MethodName := ⟨RX10, "isPerson", "(II)Z"⟩
abbrev cX10_isSlot : ByteArray := prog_1_method_32_code
def yX10_isSlot : MethodName := ⟨RX10, "isSlot", "(III)Z"⟩
abbrev cX10_isPlanAsked : ByteArray := prog_1_method_33_code
def yX10_isPlanAsked : MethodName := ⟨RX10, "isPlanAsked", "(II)Z"⟩
abbrev cX10_isSuch : ByteArray := prog_1_method_34_code
def yX10_isSuch : MethodName := ⟨RX10, "isSuch", "(II)Z"⟩
abbrev cX10_personIndex : ByteArray := prog_1_method_35_code
def yX10_personIndex : MethodName := ⟨RX10, "personIndex", "(II)I"⟩
abbrev cX10_slotIndex : ByteArray := prog_1_method_36_code
def yX10_slotIndex : MethodName := ⟨RX10, "slotIndex", "(III)I"⟩
def RX11 : String := "EvenDaysModel"
def TX11 : u_T := fun k => match k with
  | 0 => ("EvenDaysModel", "row", "[I", true)
  | 1 => ("EvenDaysModel", "isKept", "[Z", true)
  | 2 => ("EvenDaysModel", "text", "[I", true)
  | 3 => ("EvenDaysModel", "length", "I", false)
  | 4 => ("EvenDaysModel", "read", "[I", true)
  | 5 => ("EvenDaysModel", "readMany", "I", false)
  | 6 => ("EvenDaysModel", "pairs", "I", false)
  | 7 => ("EvenDaysModel", "hours", "I", false)
  | 8 => ("EvenDaysModel", "works", "[I", true)
  | 9 => ("EvenDaysModel", "kinds", "[I", true)
  | 10 => ("EvenDaysModel", "means", "[I", true)
  | 11 => ("EvenDaysModel", "eats", "I", false)
  | 12 => ("EvenDaysModel", "fine", "I", false)
  | 13 => ("EvenDaysModel", "at", "I", false)
  | 14 => ("EvenDaysModel", "place", "I", false)
  | 15 => ("EvenDaysModel", "end", "I", false)
  | 16 => ("EvenDaysModel", "readPairs", "I", false)
  | 17 => ("EvenDaysModel", "readHours", "I", false)
  | 18 => ("EvenDaysModel", "readMay", "[Z", true)
  | 19 => ("EvenDaysModel", "worths", "[I", true)
  | 20 => ("EvenDaysModel", "chosen", "[I", true)
  | 21 => ("EvenDaysModel", "chosenBread", "I", false)
  | 22 => ("EvenDaysModel", "fewest", "[I", true)
  | 23 => ("EvenDaysModel", "then", "[I", true)
  | 24 => ("EvenDaysModel", "harms", "[I", true)
  | 25 => ("EvenDaysModel", "rests", "[I", true)
  | 26 => ("EvenDaysModel", "likes", "[I", true)
  | 27 => ("EvenDaysModel", "sums", "[I", true)
  | 28 => ("EvenDaysModel", "rows", "[I", true)
  | 29 => ("EvenDaysModel", "rowMany", "I", false)
  | _ => ("EvenDaysModel", "costs", "[I", true)
def tyX11 : Nat → FieldType := fun k => match k with
  | 0 => .array .int
  | 1 => .array .boolean
  | 2 => .array .int
  | 3 => .int
  | 4 => .array .int
  | 5 => .int
  | 6 => .int
  | 7 => .int
  | 8 => .array .int
  | 9 => .array .int
  | 10 => .array .int
  | 11 => .int
  | 12 => .int
  | 13 => .int
  | 14 => .int
  | 15 => .int
  | 16 => .int
  | 17 => .int
  | 18 => .array .boolean
  | 19 => .array .int
  | 20 => .array .int
  | 21 => .int
  | 22 => .array .int
  | 23 => .array .int
  | 24 => .array .int
  | 25 => .array .int
  | 26 => .array .int
  | 27 => .array .int
  | 28 => .array .int
  | 29 => .int
  | _ => .array .int
abbrev wsX110 : List Cond := u_ws RX11 TX11 31
theorem nmX11 : ∀ a, a < 31 → ∀ b, b < 31 → a ≠ b → (TX11 a).2.1 ≠ (TX11 b).2.1 := by decide +kernel
theorem tyX11_ok : ∀ k, k < 31 → parseFieldDescriptor (TX11 k).2.2.1 = some (tyX11 k) := by decide +kernel
abbrev cX11_init : ByteArray := prog_13_method_1_code
def yX11_init : MethodName := ⟨RX11, "<init>", "()V"⟩
abbrev cX11_begin : ByteArray := prog_13_method_2_code
def yX11_begin : MethodName := ⟨RX11, "begin", "()V"⟩
abbrev cX11_in : ByteArray := prog_13_method_3_code
def yX11_in : MethodName := ⟨RX11, "in", "(JJJ)Z"⟩
abbrev cX11_write : ByteArray := prog_13_method_4_code
def yX11_write : MethodName := ⟨RX11, "write", "(JI)I"⟩
abbrev cX11_erase : ByteArray := prog_13_method_5_code
def yX11_erase : MethodName := ⟨RX11, "erase", "()I"⟩
abbrev cX11_sort : ByteArray := prog_13_method_6_code
def yX11_sort : MethodName := ⟨RX11, "sort", "(I)I"⟩
abbrev cX11_token : ByteArray := prog_13_method_7_code
def yX11_token : MethodName := ⟨RX11, "token", "()V"⟩
abbrev cX11_isWord : ByteArray := prog_13_method_8_code
def yX11_isWord : MethodName := ⟨RX11, "isWord", "(II)Z"⟩
abbrev cX11_wordOf : ByteArray := prog_13_method_9_code
def yX11_wordOf : MethodName := ⟨RX11, "wordOf", "()I"⟩
abbrev cX11_reads : ByteArray := prog_13_method_10_code
def yX11_reads : MethodName := ⟨RX11, "reads", "(III)Z"⟩
abbrev cX11_readsBread : ByteArray := prog_13_method_11_code
def yX11_readsBread : MethodName := ⟨RX11, "readsBread", "(I)Z"⟩
abbrev cX11_readsWork : ByteArray := prog_13_method_12_code
def yX11_readsWork : MethodName := ⟨RX11, "readsWork", "()Z"⟩
abbrev cX11_readsRest : ByteArray := prog_13_method_13_code
def yX11_readsRest : MethodName := ⟨RX11, "readsRest", "(I)Z"⟩
abbrev cX11_readsLine : ByteArray := prog_13_method_14_code
def yX11_readsLine : MethodName := ⟨RX11, "readsLine", "()Z"⟩
abbrev cX11_fault : ByteArray := prog_13_method_15_code
def yX11_fault : MethodName := ⟨RX11, "fault", "()I"⟩
abbrev cX11_meantAt : ByteArray := prog_13_method_16_code
def yX11_meantAt : MethodName := ⟨RX11, "meantAt", "(IIII)I"⟩
abbrev cX11_tell : ByteArray := prog_13_method_17_code
def yX11_tell : MethodName := ⟨RX11, "tell", "(I)V"⟩
abbrev cX11_treaty : ByteArray := prog_13_method_18_code
def yX11_treaty : MethodName := ⟨RX11, "treaty", "()I"⟩
abbrev cX11_work : ByteArray := prog_13_method_19_code
def yX11_work : MethodName := ⟨RX11, "work", "(II)I"⟩
abbrev cX11_isValley : ByteArray := prog_13_method_20_code
def yX11_isValley : MethodName := ⟨RX11, "isValley", "(I)Z"⟩
abbrev cX11_isPair : ByteArray := prog_13_method_21_code
def yX11_isPair : MethodName := ⟨RX11, "isPair", "(I)Z"⟩
abbrev cX11_isHour : ByteArray := prog_13_method_22_code
def yX11_isHour : MethodName := ⟨RX11, "isHour", "(I)Z"⟩
abbrev cX11_meant : ByteArray := prog_13_method_23_code
def yX11_meant : MethodName := ⟨RX11, "meant", "(IIII)I"⟩
abbrev cX11_done : ByteArray := prog_13_method_24_code
def yX11_done : MethodName := ⟨RX11, "done", "(IIII)I"⟩
abbrev cX11_ill : ByteArray := prog_13_method_25_code
def yX11_ill : MethodName := ⟨RX11, "ill", "(IIZ)I"⟩
abbrev cX11_meansOf : ByteArray := prog_13_method_26_code
def yX11_meansOf : MethodName := ⟨RX11, "meansOf", "(III)I"⟩
abbrev cX11_may : ByteArray := prog_13_method_27_code
def yX11_may : MethodName := ⟨RX11, "may", "(IIII)Z"⟩
abbrev cX11_does : ByteArray := prog_13_method_28_code
def yX11_does : MethodName := ⟨RX11, "does", "(III)I"⟩
abbrev cX11_isBreach : ByteArray := prog_13_method_29_code
def yX11_isBreach : MethodName := ⟨RX11, "isBreach", "(II)Z"⟩
abbrev cX11_strays : ByteArray := prog_13_method_30_code
def yX11_strays : MethodName := ⟨RX11, "strays", "(III)Z"⟩
abbrev cX11_charge : ByteArray := prog_13_method_31_code
def yX11_charge : MethodName := ⟨RX11, "charge", "(II)V"⟩
abbrev cX11_day : ByteArray := prog_13_method_32_code
def yX11_day : MethodName := ⟨RX11, "day", "()V"⟩
abbrev cX11_days : ByteArray := prog_13_method_33_code
def yX11_days : MethodName := ⟨RX11, "days", "(I)I"⟩
abbrev cX11_person : ByteArray := prog_13_method_34_code
def yX11_person : MethodName := ⟨RX11, "person", "(III)I"⟩
abbrev cX11_bread : ByteArray := prog_13_method_35_code
def yX11_bread : MethodName := ⟨RX11, "bread", "(I)I"⟩
abbrev cX11_breaches : ByteArray := prog_13_method_36_code
def yX11_breaches : MethodName := ⟨RX11, "breaches", "(I)I"⟩
abbrev cX11_as : ByteArray := prog_13_method_37_code
def yX11_as : MethodName := ⟨RX11, "as", "(II)I"⟩
abbrev cX11_fits : ByteArray := prog_13_method_38_code
def yX11_fits : MethodName := ⟨RX11, "fits", "(IIII)Z"⟩
abbrev cX11_breadOf : ByteArray := prog_13_method_39_code
def yX11_breadOf : MethodName := ⟨RX11, "breadOf", "(III)I"⟩
abbrev cX11_worthBy : ByteArray := prog_13_method_40_code
def yX11_worthBy : MethodName := ⟨RX11, "worthBy", "(IIIII)I"⟩
abbrev cX11_layWorths : ByteArray := prog_13_method_41_code
def yX11_layWorths : MethodName := ⟨RX11, "layWorths", "(II)V"⟩
abbrev cX11_choose : ByteArray := prog_13_method_42_code
def yX11_choose : MethodName := ⟨RX11, "choose", "(II)Z"⟩
abbrev cX11_isPlan : ByteArray := prog_13_method_43_code
def yX11_isPlan : MethodName := ⟨RX11, "isPlan", "(II)Z"⟩
abbrev cX11_plan : ByteArray := prog_13_method_44_code
def yX11_plan : MethodName := ⟨RX11, "plan", "(III)I"⟩
abbrev cX11_planned : ByteArray := prog_13_method_45_code
def yX11_planned : MethodName := ⟨RX11, "planned", "(IIIII)I"⟩
abbrev cX11_classAt : ByteArray := prog_13_method_46_code
def yX11_classAt : MethodName := ⟨RX11, "classAt", "(II)I"⟩
abbrev cX11_news : ByteArray := prog_13_method_47_code
def yX11_news : MethodName := ⟨RX11, "news", "(IIIZ)I"⟩
abbrev cX11_harm : ByteArray := prog_13_method_48_code
def yX11_harm : MethodName := ⟨RX11, "harm", "(III)I"⟩
abbrev cX11_bits : ByteArray := prog_13_method_49_code
def yX11_bits : MethodName := ⟨RX11, "bits", "(I)I"⟩
abbrev cX11_harmBy : ByteArray := prog_13_method_50_code
def yX11_harmBy : MethodName := ⟨RX11, "harmBy", "(IIII)I"⟩
abbrev cX11_layRests : ByteArray := prog_13_method_51_code
def yX11_layRests : MethodName := ⟨RX11, "layRests", "(II)I"⟩
abbrev cX11_anew : ByteArray := prog_13_method_52_code
def yX11_anew : MethodName := ⟨RX11, "anew", "(I)I"⟩
abbrev cX11_forced : ByteArray := prog_13_method_53_code
def yX11_forced : MethodName := ⟨RX11, "forced", "(II)I"⟩
abbrev cX11_like : ByteArray := prog_13_method_54_code
def yX11_like : MethodName := ⟨RX11, "like", "(IIII)I"⟩
abbrev cX11_fours : ByteArray := prog_13_method_55_code
def yX11_fours : MethodName := ⟨RX11, "fours", "(I)I"⟩
abbrev cX11_record : ByteArray := prog_13_method_56_code
def yX11_record : MethodName := ⟨RX11, "record", "(Z)I"⟩
abbrev cX11_burn : ByteArray := prog_13_method_57_code
def yX11_burn : MethodName := ⟨RX11, "burn", "()I"⟩
abbrev cX11_stays : ByteArray := prog_13_method_58_code
def yX11_stays : MethodName := ⟨RX11, "stays", "(III)I"⟩
abbrev cX11_slipped : ByteArray := prog_13_method_59_code
def yX11_slipped : MethodName := ⟨RX11, "slipped", "(IIII)I"⟩
abbrev cX11_slips : ByteArray := prog_13_method_60_code
def yX11_slips : MethodName := ⟨RX11, "slips", "(III)I"⟩
abbrev cX11_copy : ByteArray := prog_13_method_61_code
def yX11_copy : MethodName := ⟨RX11, "copy", "(II)V"⟩
abbrev cX11_keep : ByteArray := prog_13_method_62_code
def yX11_keep : MethodName := ⟨RX11, "keep", "(I)I"⟩
abbrev cX11_back : ByteArray := prog_13_method_63_code
def yX11_back : MethodName := ⟨RX11, "back", "(I)I"⟩
abbrev cX11_count : ByteArray := prog_13_method_64_code
def yX11_count : MethodName := ⟨RX11, "count", "(I)I"⟩
def RJx145de : String := "java/io/Serializable"
def TJx145de : u_T := fun k => match k with
  | _ => ("", "", "", false)
def tyJx145de : Nat → FieldType := fun k => match k with
  | _ => .int
abbrev wsJx145de0 : List Cond := u_ws RJx145de TJx145de 0
theorem nmJx145de : ∀ a, a < 0 → ∀ b, b < 0 → a ≠ b → (TJx145de a).2.1 ≠ (TJx145de b).2.1 := by decide +kernel
theorem tyJx145de_ok : ∀ k, k < 0 → parseFieldDescriptor (TJx145de k).2.2.1 = some (tyJx145de k) := by decide +kernel
def RJx9f9b0 : String := "java/lang/CharSequence"
def TJx9f9b0 : u_T := fun k => match k with
  | _ => ("", "", "", false)
def tyJx9f9b0 : Nat → FieldType := fun k => match k with
  | _ => .int
abbrev wsJx9f9b00 : List Cond := u_ws RJx9f9b0 TJx9f9b0 0
theorem nmJx9f9b0 : ∀ a, a < 0 → ∀ b, b < 0 → a ≠ b → (TJx9f9b0 a).2.1 ≠ (TJx9f9b0 b).2.1 := by decide +kernel
theorem tyJx9f9b0_ok : ∀ k, k < 0 → parseFieldDescriptor (TJx9f9b0 k).2.2.1 = some (tyJx9f9b0 k) := by decide +kernel
def RJxb160c : String := "java/lang/Comparable"
def TJxb160c : u_T := fun k => match k with
  | _ => ("", "", "", false)
def tyJxb160c : Nat → FieldType := fun k => match k with
  | _ => .int
abbrev wsJxb160c0 : List Cond := u_ws RJxb160c TJxb160c 0
theorem nmJxb160c : ∀ a, a < 0 → ∀ b, b < 0 → a ≠ b → (TJxb160c a).2.1 ≠ (TJxb160c b).2.1 := by decide +kernel
theorem tyJxb160c_ok : ∀ k, k < 0 → parseFieldDescriptor (TJxb160c k).2.2.1 = some (tyJxb160c k) := by decide +kernel
def RJ6 : String := "java/lang/Integer"
def TJ6 : u_T := fun k => match k with
  | _ => ("", "", "", false)
def tyJ6 : Nat → FieldType := fun k => match k with
  | _ => .int
abbrev wsJ60 : List Cond := u_ws RJ6 TJ6 0
theorem nmJ6 : ∀ a, a < 0 → ∀ b, b < 0 → a ≠ b → (TJ6 a).2.1 ≠ (TJ6 b).2.1 := by decide +kernel
theorem tyJ6_ok : ∀ k, k < 0 → parseFieldDescriptor (TJ6 k).2.2.1 = some (tyJ6 k) := by decide +kernel
abbrev cJ6_bitCount_0f7a4 : ByteArray := prog_14_method_49_code
def yJ6_bitCount_0f7a4 : MethodName := ⟨RJ6, "bitCount", "(I)I"⟩
def RJ9 : String := "java/lang/Math"
def TJ9 : u_T := fun k => match k with
  | _ => ("", "", "", false)
def tyJ9 : Nat → FieldType := fun k => match k with
  | _ => .int
abbrev wsJ90 : List Cond := u_ws RJ9 TJ9 0
theorem nmJ9 : ∀ a, a < 0 → ∀ b, b < 0 → a ≠ b → (TJ9 a).2.1 ≠ (TJ9 b).2.1 := by decide +kernel
theorem tyJ9_ok : ∀ k, k < 0 → parseFieldDescriptor (TJ9 k).2.2.1 = some (tyJ9 k) := by decide +kernel
abbrev cJ9_max_7cf53 : ByteArray := prog_15_method_65_code
def yJ9_max_7cf53 : MethodName := ⟨RJ9, "max", "(II)I"⟩
abbrev cJ9_min_7cf53 : ByteArray := prog_15_method_69_code
def yJ9_min_7cf53 : MethodName := ⟨RJ9, "min", "(II)I"⟩
def RJ0 : String := "java/lang/String"
def TJ0 : u_T := fun k => match k with
  | _ => ("", "", "", false)
def tyJ0 : Nat → FieldType := fun k => match k with
  | _ => .int
abbrev wsJ00 : List Cond := u_ws RJ0 TJ0 0
theorem nmJ0 : ∀ a, a < 0 → ∀ b, b < 0 → a ≠ b → (TJ0 a).2.1 ≠ (TJ0 b).2.1 := by decide +kernel
theorem tyJ0_ok : ∀ k, k < 0 → parseFieldDescriptor (TJ0 k).2.2.1 = some (tyJ0 k) := by decide +kernel
abbrev cJ0_length_8abf5 : ByteArray := prog_16_method_54_code
def yJ0_length_8abf5 : MethodName := ⟨RJ0, "length", "()I"⟩
abbrev cJ0_charAt_5068e : ByteArray := prog_16_method_56_code
def yJ0_charAt_5068e : MethodName := ⟨RJ0, "charAt", "(I)C"⟩
abbrev cJ0_coder_7d493 : ByteArray := prog_16_method_152_code
def yJ0_coder_7d493 : MethodName := ⟨RJ0, "coder", "()B"⟩
abbrev cJ0_isLatin1_aae02 : ByteArray := prog_16_method_154_code
def yJ0_isLatin1_aae02 : MethodName := ⟨RJ0, "isLatin1", "()Z"⟩
abbrev cJ0_checkIndex_df160 : ByteArray := prog_16_method_155_code
def yJ0_checkIndex_df160 : MethodName := ⟨RJ0, "checkIndex", "(II)V"⟩
def RJ1 : String := "java/lang/StringLatin1"
def TJ1 : u_T := fun k => match k with
  | _ => ("", "", "", false)
def tyJ1 : Nat → FieldType := fun k => match k with
  | _ => .int
abbrev wsJ10 : List Cond := u_ws RJ1 TJ1 0
theorem nmJ1 : ∀ a, a < 0 → ∀ b, b < 0 → a ≠ b → (TJ1 a).2.1 ≠ (TJ1 b).2.1 := by decide +kernel
theorem tyJ1_ok : ∀ k, k < 0 → parseFieldDescriptor (TJ1 k).2.2.1 = some (tyJ1 k) := by decide +kernel
abbrev cJ1_charAt_3b067 : ByteArray := prog_17_method_2_code
def yJ1_charAt_3b067 : MethodName := ⟨RJ1, "charAt", "([BI)C"⟩
def RJ2 : String := "java/lang/StringUTF16"
def TJ2 : u_T := fun k => match k with
  | _ => ("", "", "", false)
def tyJ2 : Nat → FieldType := fun k => match k with
  | _ => .int
abbrev wsJ20 : List Cond := u_ws RJ2 TJ2 0
theorem nmJ2 : ∀ a, a < 0 → ∀ b, b < 0 → a ≠ b → (TJ2 a).2.1 ≠ (TJ2 b).2.1 := by decide +kernel
theorem tyJ2_ok : ∀ k, k < 0 → parseFieldDescriptor (TJ2 k).2.2.1 = some (tyJ2 k) := by decide +kernel
abbrev cJ2_getChar_3b067 : ByteArray := prog_18_method_5_code
def yJ2_getChar_3b067 : MethodName := ⟨RJ2, "getChar", "([BI)C"⟩
abbrev cJ2_length_9d52b : ByteArray := prog_18_method_6_code
def yJ2_length_9d52b : MethodName := ⟨RJ2, "length", "([B)I"⟩
abbrev cJ2_charAt_3b067 : ByteArray := prog_18_method_83_code
def yJ2_charAt_3b067 : MethodName := ⟨RJ2, "charAt", "([BI)C"⟩
abbrev cJ2_checkIndex_2214a : ByteArray := prog_18_method_91_code
def yJ2_checkIndex_2214a : MethodName := ⟨RJ2, "checkIndex", "(I[B)V"⟩
def RJxfd54e : String := "java/lang/constant/Constable"
def TJxfd54e : u_T := fun k => match k with
  | _ => ("", "", "", false)
def tyJxfd54e : Nat → FieldType := fun k => match k with
  | _ => .int
abbrev wsJxfd54e0 : List Cond := u_ws RJxfd54e TJxfd54e 0
theorem nmJxfd54e : ∀ a, a < 0 → ∀ b, b < 0 → a ≠ b → (TJxfd54e a).2.1 ≠ (TJxfd54e b).2.1 := by decide +kernel
theorem tyJxfd54e_ok : ∀ k, k < 0 → parseFieldDescriptor (TJxfd54e k).2.2.1 = some (tyJxfd54e k) := by decide +kernel
def RJx3cf43 : String := "java/lang/constant/ConstantDesc"
def TJx3cf43 : u_T := fun k => match k with
  | _ => ("", "", "", false)
def tyJx3cf43 : Nat → FieldType := fun k => match k with
  | _ => .int
abbrev wsJx3cf430 : List Cond := u_ws RJx3cf43 TJx3cf43 0
theorem nmJx3cf43 : ∀ a, a < 0 → ∀ b, b < 0 → a ≠ b → (TJx3cf43 a).2.1 ≠ (TJx3cf43 b).2.1 := by decide +kernel
theorem tyJx3cf43_ok : ∀ k, k < 0 → parseFieldDescriptor (TJx3cf43 k).2.2.1 = some (tyJx3cf43 k) := by decide +kernel
def RJ7 : String := "java/util/Arrays"
def TJ7 : u_T := fun k => match k with
  | _ => ("", "", "", false)
def tyJ7 : Nat → FieldType := fun k => match k with
  | _ => .int
abbrev wsJ70 : List Cond := u_ws RJ7 TJ7 0
theorem nmJ7 : ∀ a, a < 0 → ∀ b, b < 0 → a ≠ b → (TJ7 a).2.1 ≠ (TJ7 b).2.1 := by decide +kernel
theorem tyJ7_ok : ∀ k, k < 0 → parseFieldDescriptor (TJ7 k).2.2.1 = some (tyJ7 k) := by decide +kernel
abbrev cJ7_fill_53178 : ByteArray := prog_19_method_103_code
def yJ7_fill_53178 : MethodName := ⟨RJ7, "fill", "([II)V"⟩
def RJ3 : String := "jdk/internal/util/Preconditions"
def TJ3 : u_T := fun k => match k with
  | _ => ("", "", "", false)
def tyJ3 : Nat → FieldType := fun k => match k with
  | _ => .int
abbrev wsJ30 : List Cond := u_ws RJ3 TJ3 0
theorem nmJ3 : ∀ a, a < 0 → ∀ b, b < 0 → a ≠ b → (TJ3 a).2.1 ≠ (TJ3 b).2.1 := by decide +kernel
theorem tyJ3_ok : ∀ k, k < 0 → parseFieldDescriptor (TJ3 k).2.2.1 = some (tyJ3 k) := by decide +kernel
abbrev cJ3_checkIndex_8e157 : ByteArray := prog_20_method_11_code
def yJ3_checkIndex_8e157 : MethodName := ⟨RJ3, "checkIndex", "(IILjava/util/function/BiFunction;)I"⟩
def RL : String := "EvenDaysLaw"
abbrev cL_law : ByteArray := code
def yL_law : MethodName := ⟨RL, "law", "([I)Z"⟩
abbrev vwCl : List vw_C := [(RX0, TX0, 6), (RX1, TX1, 3), (RX2, TX2, 2), (RX3, TX3, 1), (RX4, TX4, 2), (RX5, TX5, 6), (RX6, TX6, 3), (RX7, TX7, 2), (RX8, TX8, 4), (RX9, TX9, 9), (RX10, TX10, 12), (RX11, TX11, 31)]
end
section
theorem dX0_init_0 : decode cX0_init 0 = .ok (.aload_n 0, 1) := by decide +kernel
theorem dX0_init_1 : decode cX0_init 1 = .ok (.invokespecial 3, 3) := by decide +kernel
theorem dX0_init_4 : decode cX0_init 4 = .ok (.aload_n 0, 1) := by decide +kernel
theorem dX0_init_5 : decode cX0_init 5 = .ok (.iconst 2, 1) := by decide +kernel
theorem dX0_init_6 : decode cX0_init 6 = .ok (.newarray .int, 2) := by decide +kernel
theorem dX0_init_8 : decode cX0_init 8 = .ok (.putfield 9, 3) := by decide +kernel
theorem dX0_init_11 : decode cX0_init 11 = .ok (.aload_n 0, 1) := by decide +kernel
theorem dX0_init_12 : decode cX0_init 12 = .ok (.bipush 12, 2) := by decide +kernel
theorem dX0_init_14 : decode cX0_init 14 = .ok (.newarray .int, 2) := by decide +kernel
theorem dX0_init_16 : decode cX0_init 16 = .ok (.putfield 15, 3) := by decide +kernel
theorem dX0_init_19 : decode cX0_init 19 = .ok (.aload_n 0, 1) := by decide +kernel
theorem dX0_init_20 : decode cX0_init 20 = .ok (.bipush 12, 2) := by decide +kernel
theorem dX0_init_22 : decode cX0_init 22 = .ok (.newarray .int, 2) := by decide +kernel
theorem dX0_init_24 : decode cX0_init 24 = .ok (.putfield 18, 3) := by decide +kernel
theorem dX0_init_27 : decode cX0_init 27 = .ok (.aload_n 0, 1) := by decide +kernel
theorem dX0_init_28 : decode cX0_init 28 = .ok (.bipush 48, 2) := by decide +kernel
theorem dX0_init_30 : decode cX0_init 30 = .ok (.newarray .int, 2) := by decide +kernel
theorem dX0_init_32 : decode cX0_init 32 = .ok (.putfield 21, 3) := by decide +kernel
theorem dX0_init_35 : decode cX0_init 35 = .ok (.aload_n 0, 1) := by decide +kernel
theorem dX0_init_36 : decode cX0_init 36 = .ok (.invokevirtual 24, 3) := by decide +kernel
theorem dX0_init_39 : decode cX0_init 39 = .ok (.return_, 1) := by decide +kernel
theorem dX0_beginAnew_0 : decode cX0_beginAnew 0 = .ok (.aload_n 0, 1) := by decide +kernel
theorem dX0_beginAnew_1 : decode cX0_beginAnew 1 = .ok (.iconst 0, 1) := by decide +kernel
theorem dX0_beginAnew_2 : decode cX0_beginAnew 2 = .ok (.putfield 27, 3) := by decide +kernel
theorem dX0_beginAnew_5 : decode cX0_beginAnew 5 = .ok (.aload_n 0, 1) := by decide +kernel
theorem dX0_beginAnew_6 : decode cX0_beginAnew 6 = .ok (.iconst 0, 1) := by decide +kernel
theorem dX0_beginAnew_7 : decode cX0_beginAnew 7 = .ok (.putfield 31, 3) := by decide +kernel
theorem dX0_beginAnew_10 : decode cX0_beginAnew 10 = .ok (.aload_n 0, 1) := by decide +kernel
theorem dX0_beginAnew_11 : decode cX0_beginAnew 11 = .ok (.getfield 9, 3) := by decide +kernel
theorem dX0_beginAnew_14 : decode cX0_beginAnew 14 = .ok (.iconst 0, 1) := by decide +kernel
theorem dX0_beginAnew_15 : decode cX0_beginAnew 15 = .ok (.invokestatic 34, 3) := by decide +kernel
theorem dX0_beginAnew_18 : decode cX0_beginAnew 18 = .ok (.aload_n 0, 1) := by decide +kernel
theorem dX0_beginAnew_19 : decode cX0_beginAnew 19 = .ok (.getfield 15, 3) := by decide +kernel
theorem dX0_beginAnew_22 : decode cX0_beginAnew 22 = .ok (.iconst 0, 1) := by decide +kernel
theorem dX0_beginAnew_23 : decode cX0_beginAnew 23 = .ok (.invokestatic 34, 3) := by decide +kernel
theorem dX0_beginAnew_26 : decode cX0_beginAnew 26 = .ok (.aload_n 0, 1) := by decide +kernel
theorem dX0_beginAnew_27 : decode cX0_beginAnew 27 = .ok (.getfield 18, 3) := by decide +kernel
theorem dX0_beginAnew_30 : decode cX0_beginAnew 30 = .ok (.iconst 0, 1) := by decide +kernel
theorem dX0_beginAnew_31 : decode cX0_beginAnew 31 = .ok (.invokestatic 34, 3) := by decide +kernel
theorem dX0_beginAnew_34 : decode cX0_beginAnew 34 = .ok (.aload_n 0, 1) := by decide +kernel
theorem dX0_beginAnew_35 : decode cX0_beginAnew 35 = .ok (.getfield 21, 3) := by decide +kernel
theorem dX0_beginAnew_38 : decode cX0_beginAnew 38 = .ok (.iconst (-1), 1) := by decide +kernel
theorem dX0_beginAnew_39 : decode cX0_beginAnew 39 = .ok (.invokestatic 34, 3) := by decide +kernel
theorem dX0_beginAnew_42 : decode cX0_beginAnew 42 = .ok (.return_, 1) := by decide +kernel
theorem dX0_becomeLike_0 : decode cX0_becomeLike 0 = .ok (.aload_n 0, 1) := by decide +kernel
theorem dX0_becomeLike_1 : decode cX0_becomeLike 1 = .ok (.aload_n 1, 1) := by decide +kernel
theorem dX0_becomeLike_2 : decode cX0_becomeLike 2 = .ok (.getfield 27, 3) := by decide +kernel
theorem dX0_becomeLike_5 : decode cX0_becomeLike 5 = .ok (.putfield 27, 3) := by decide +kernel
theorem dX0_becomeLike_8 : decode cX0_becomeLike 8 = .ok (.aload_n 0, 1) := by decide +kernel
theorem dX0_becomeLike_9 : decode cX0_becomeLike 9 = .ok (.aload_n 1, 1) := by decide +kernel
theorem dX0_becomeLike_10 : decode cX0_becomeLike 10 = .ok (.getfield 31, 3) := by decide +kernel
theorem dX0_becomeLike_13 : decode cX0_becomeLike 13 = .ok (.putfield 31, 3) := by decide +kernel
theorem dX0_becomeLike_16 : decode cX0_becomeLike 16 = .ok (.iconst 0, 1) := by decide +kernel
theorem dX0_becomeLike_17 : decode cX0_becomeLike 17 = .ok (.istore_n 2, 1) := by decide +kernel
theorem dX0_becomeLike_18 : decode cX0_becomeLike 18 = .ok (.iload_n 2, 1) := by decide +kernel
theorem dX0_becomeLike_19 : decode cX0_becomeLike 19 = .ok (.iconst 2, 1) := by decide +kernel
theorem dX0_becomeLike_20 : decode cX0_becomeLike 20 = .ok (.if_icmp .ge 21, 3) := by decide +kernel
theorem dX0_becomeLike_23 : decode cX0_becomeLike 23 = .ok (.aload_n 0, 1) := by decide +kernel
theorem dX0_becomeLike_24 : decode cX0_becomeLike 24 = .ok (.getfield 9, 3) := by decide +kernel
theorem dX0_becomeLike_27 : decode cX0_becomeLike 27 = .ok (.iload_n 2, 1) := by decide +kernel
theorem dX0_becomeLike_28 : decode cX0_becomeLike 28 = .ok (.aload_n 1, 1) := by decide +kernel
theorem dX0_becomeLike_29 : decode cX0_becomeLike 29 = .ok (.getfield 9, 3) := by decide +kernel
theorem dX0_becomeLike_32 : decode cX0_becomeLike 32 = .ok (.iload_n 2, 1) := by decide +kernel
theorem dX0_becomeLike_33 : decode cX0_becomeLike 33 = .ok (.iaload, 1) := by decide +kernel
theorem dX0_becomeLike_34 : decode cX0_becomeLike 34 = .ok (.iastore, 1) := by decide +kernel
theorem dX0_becomeLike_35 : decode cX0_becomeLike 35 = .ok (.iinc 2 1, 3) := by decide +kernel
theorem dX0_becomeLike_38 : decode cX0_becomeLike 38 = .ok (.goto (-20), 3) := by decide +kernel
theorem dX0_becomeLike_41 : decode cX0_becomeLike 41 = .ok (.iconst 0, 1) := by decide +kernel
theorem dX0_becomeLike_42 : decode cX0_becomeLike 42 = .ok (.istore_n 2, 1) := by decide +kernel
theorem dX0_becomeLike_43 : decode cX0_becomeLike 43 = .ok (.iload_n 2, 1) := by decide +kernel
theorem dX0_becomeLike_44 : decode cX0_becomeLike 44 = .ok (.bipush 12, 2) := by decide +kernel
theorem dX0_becomeLike_46 : decode cX0_becomeLike 46 = .ok (.if_icmp .ge 33, 3) := by decide +kernel
theorem dX0_becomeLike_49 : decode cX0_becomeLike 49 = .ok (.aload_n 0, 1) := by decide +kernel
theorem dX0_becomeLike_50 : decode cX0_becomeLike 50 = .ok (.getfield 15, 3) := by decide +kernel
theorem dX0_becomeLike_53 : decode cX0_becomeLike 53 = .ok (.iload_n 2, 1) := by decide +kernel
theorem dX0_becomeLike_54 : decode cX0_becomeLike 54 = .ok (.aload_n 1, 1) := by decide +kernel
theorem dX0_becomeLike_55 : decode cX0_becomeLike 55 = .ok (.getfield 15, 3) := by decide +kernel
theorem dX0_becomeLike_58 : decode cX0_becomeLike 58 = .ok (.iload_n 2, 1) := by decide +kernel
theorem dX0_becomeLike_59 : decode cX0_becomeLike 59 = .ok (.iaload, 1) := by decide +kernel
theorem dX0_becomeLike_60 : decode cX0_becomeLike 60 = .ok (.iastore, 1) := by decide +kernel
theorem dX0_becomeLike_61 : decode cX0_becomeLike 61 = .ok (.aload_n 0, 1) := by decide +kernel
theorem dX0_becomeLike_62 : decode cX0_becomeLike 62 = .ok (.getfield 18, 3) := by decide +kernel
theorem dX0_becomeLike_65 : decode cX0_becomeLike 65 = .ok (.iload_n 2, 1) := by decide +kernel
theorem dX0_becomeLike_66 : decode cX0_becomeLike 66 = .ok (.aload_n 1, 1) := by decide +kernel
theorem dX0_becomeLike_67 : decode cX0_becomeLike 67 = .ok (.getfield 18, 3) := by decide +kernel
theorem dX0_becomeLike_70 : decode cX0_becomeLike 70 = .ok (.iload_n 2, 1) := by decide +kernel
theorem dX0_becomeLike_71 : decode cX0_becomeLike 71 = .ok (.iaload, 1) := by decide +kernel
theorem dX0_becomeLike_72 : decode cX0_becomeLike 72 = .ok (.iastore, 1) := by decide +kernel
theorem dX0_becomeLike_73 : decode cX0_becomeLike 73 = .ok (.iinc 2 1, 3) := by decide +kernel
theorem dX0_becomeLike_76 : decode cX0_becomeLike 76 = .ok (.goto (-33), 3) := by decide +kernel
theorem dX0_becomeLike_79 : decode cX0_becomeLike 79 = .ok (.iconst 0, 1) := by decide +kernel
theorem dX0_becomeLike_80 : decode cX0_becomeLike 80 = .ok (.istore_n 2, 1) := by decide +kernel
theorem dX0_becomeLike_81 : decode cX0_becomeLike 81 = .ok (.iload_n 2, 1) := by decide +kernel
theorem dX0_becomeLike_82 : decode cX0_becomeLike 82 = .ok (.bipush 48, 2) := by decide +kernel
theorem dX0_becomeLike_84 : decode cX0_becomeLike 84 = .ok (.if_icmp .ge 21, 3) := by decide +kernel
theorem dX0_becomeLike_87 : decode cX0_becomeLike 87 = .ok (.aload_n 0, 1) := by decide +kernel
theorem dX0_becomeLike_88 : decode cX0_becomeLike 88 = .ok (.getfield 21, 3) := by decide +kernel
theorem dX0_becomeLike_91 : decode cX0_becomeLike 91 = .ok (.iload_n 2, 1) := by decide +kernel
theorem dX0_becomeLike_92 : decode cX0_becomeLike 92 = .ok (.aload_n 1, 1) := by decide +kernel
theorem dX0_becomeLike_93 : decode cX0_becomeLike 93 = .ok (.getfield 21, 3) := by decide +kernel
theorem dX0_becomeLike_96 : decode cX0_becomeLike 96 = .ok (.iload_n 2, 1) := by decide +kernel
theorem dX0_becomeLike_97 : decode cX0_becomeLike 97 = .ok (.iaload, 1) := by decide +kernel
theorem dX0_becomeLike_98 : decode cX0_becomeLike 98 = .ok (.iastore, 1) := by decide +kernel
theorem dX0_becomeLike_99 : decode cX0_becomeLike 99 = .ok (.iinc 2 1, 3) := by decide +kernel
theorem dX0_becomeLike_102 : decode cX0_becomeLike 102 = .ok (.goto (-21), 3) := by decide +kernel
theorem dX0_becomeLike_105 : decode cX0_becomeLike 105 = .ok (.return_, 1) := by decide +kernel
theorem dX0_tellOtherwise_0 : decode cX0_tellOtherwise 0 = .ok (.iload_n 1, 1) := by decide +kernel
theorem dX0_tellOtherwise_1 : decode cX0_tellOtherwise 1 = .ok (.iload_n 2, 1) := by decide +kernel
theorem dX0_tellOtherwise_2 : decode cX0_tellOtherwise 2 = .ok (.iload_n 3, 1) := by decide +kernel
theorem dX0_tellOtherwise_3 : decode cX0_tellOtherwise 3 = .ok (.invokestatic 40, 3) := by decide +kernel
theorem dX0_tellOtherwise_6 : decode cX0_tellOtherwise 6 = .ok (.istore 5, 2) := by decide +kernel
theorem dX0_tellOtherwise_8 : decode cX0_tellOtherwise 8 = .ok (.iload 5, 2) := by decide +kernel
theorem dX0_tellOtherwise_10 : decode cX0_tellOtherwise 10 = .ok (.iconst 0, 1) := by decide +kernel
theorem dX0_tellOtherwise_11 : decode cX0_tellOtherwise 11 = .ok (.bipush 47, 2) := by decide +kernel
theorem dX0_tellOtherwise_13 : decode cX0_tellOtherwise 13 = .ok (.invokestatic 44, 3) := by decide +kernel
theorem dX0_tellOtherwise_16 : decode cX0_tellOtherwise 16 = .ok (.ifCond .eq 12, 3) := by decide +kernel
theorem dX0_tellOtherwise_19 : decode cX0_tellOtherwise 19 = .ok (.aload_n 0, 1) := by decide +kernel
theorem dX0_tellOtherwise_20 : decode cX0_tellOtherwise 20 = .ok (.getfield 21, 3) := by decide +kernel
theorem dX0_tellOtherwise_23 : decode cX0_tellOtherwise 23 = .ok (.iload 5, 2) := by decide +kernel
theorem dX0_tellOtherwise_25 : decode cX0_tellOtherwise 25 = .ok (.iload 4, 2) := by decide +kernel
theorem dX0_tellOtherwise_27 : decode cX0_tellOtherwise 27 = .ok (.iastore, 1) := by decide +kernel
theorem dX0_tellOtherwise_28 : decode cX0_tellOtherwise 28 = .ok (.return_, 1) := by decide +kernel
theorem dX0_tellIll_0 : decode cX0_tellIll 0 = .ok (.iconst 1, 1) := by decide +kernel
theorem dX0_tellIll_1 : decode cX0_tellIll 1 = .ok (.iload_n 1, 1) := by decide +kernel
theorem dX0_tellIll_2 : decode cX0_tellIll 2 = .ok (.iload_n 2, 1) := by decide +kernel
theorem dX0_tellIll_3 : decode cX0_tellIll 3 = .ok (.invokestatic 48, 3) := by decide +kernel
theorem dX0_tellIll_6 : decode cX0_tellIll 6 = .ok (.ishl, 1) := by decide +kernel
theorem dX0_tellIll_7 : decode cX0_tellIll 7 = .ok (.istore 4, 2) := by decide +kernel
theorem dX0_tellIll_9 : decode cX0_tellIll 9 = .ok (.aload_n 0, 1) := by decide +kernel
theorem dX0_tellIll_10 : decode cX0_tellIll 10 = .ok (.iload_n 3, 1) := by decide +kernel
theorem dX0_tellIll_11 : decode cX0_tellIll 11 = .ok (.ifCond .eq 13, 3) := by decide +kernel
theorem dX0_tellIll_14 : decode cX0_tellIll 14 = .ok (.aload_n 0, 1) := by decide +kernel
theorem dX0_tellIll_15 : decode cX0_tellIll 15 = .ok (.getfield 31, 3) := by decide +kernel
theorem dX0_tellIll_18 : decode cX0_tellIll 18 = .ok (.iload 4, 2) := by decide +kernel
theorem dX0_tellIll_20 : decode cX0_tellIll 20 = .ok (.ior, 1) := by decide +kernel
theorem dX0_tellIll_21 : decode cX0_tellIll 21 = .ok (.goto 12, 3) := by decide +kernel
theorem dX0_tellIll_24 : decode cX0_tellIll 24 = .ok (.aload_n 0, 1) := by decide +kernel
theorem dX0_tellIll_25 : decode cX0_tellIll 25 = .ok (.getfield 31, 3) := by decide +kernel
theorem dX0_tellIll_28 : decode cX0_tellIll 28 = .ok (.iload 4, 2) := by decide +kernel
theorem dX0_tellIll_30 : decode cX0_tellIll 30 = .ok (.iconst (-1), 1) := by decide +kernel
theorem dX0_tellIll_31 : decode cX0_tellIll 31 = .ok (.ixor, 1) := by decide +kernel
theorem dX0_tellIll_32 : decode cX0_tellIll 32 = .ok (.iand, 1) := by decide +kernel
theorem dX0_tellIll_33 : decode cX0_tellIll 33 = .ok (.putfield 31, 3) := by decide +kernel
theorem dX0_tellIll_36 : decode cX0_tellIll 36 = .ok (.return_, 1) := by decide +kernel
theorem dX0_isIll_0 : decode cX0_isIll 0 = .ok (.aload_n 0, 1) := by decide +kernel
theorem dX0_isIll_1 : decode cX0_isIll 1 = .ok (.getfield 31, 3) := by decide +kernel
theorem dX0_isIll_4 : decode cX0_isIll 4 = .ok (.iload_n 1, 1) := by decide +kernel
theorem dX0_isIll_5 : decode cX0_isIll 5 = .ok (.iload_n 2, 1) := by decide +kernel
theorem dX0_isIll_6 : decode cX0_isIll 6 = .ok (.invokestatic 48, 3) := by decide +kernel
theorem dX0_isIll_9 : decode cX0_isIll 9 = .ok (.ishr, 1) := by decide +kernel
theorem dX0_isIll_10 : decode cX0_isIll 10 = .ok (.iconst 1, 1) := by decide +kernel
theorem dX0_isIll_11 : decode cX0_isIll 11 = .ok (.iand, 1) := by decide +kernel
theorem dX0_isIll_12 : decode cX0_isIll 12 = .ok (.ifCond .eq 7, 3) := by decide +kernel
theorem dX0_isIll_15 : decode cX0_isIll 15 = .ok (.iconst 1, 1) := by decide +kernel
theorem dX0_isIll_16 : decode cX0_isIll 16 = .ok (.goto 4, 3) := by decide +kernel
theorem dX0_isIll_19 : decode cX0_isIll 19 = .ok (.iconst 0, 1) := by decide +kernel
theorem dX0_isIll_20 : decode cX0_isIll 20 = .ok (.ireturn, 1) := by decide +kernel
theorem dX0_faultsOf_0 : decode cX0_faultsOf 0 = .ok (.iload_n 1, 1) := by decide +kernel
theorem dX0_faultsOf_1 : decode cX0_faultsOf 1 = .ok (.iload_n 2, 1) := by decide +kernel
theorem dX0_faultsOf_2 : decode cX0_faultsOf 2 = .ok (.invokestatic 48, 3) := by decide +kernel
theorem dX0_faultsOf_5 : decode cX0_faultsOf 5 = .ok (.istore_n 3, 1) := by decide +kernel
theorem dX0_faultsOf_6 : decode cX0_faultsOf 6 = .ok (.iload_n 3, 1) := by decide +kernel
theorem dX0_faultsOf_7 : decode cX0_faultsOf 7 = .ok (.iconst 0, 1) := by decide +kernel
theorem dX0_faultsOf_8 : decode cX0_faultsOf 8 = .ok (.bipush 11, 2) := by decide +kernel
theorem dX0_faultsOf_10 : decode cX0_faultsOf 10 = .ok (.invokestatic 44, 3) := by decide +kernel
theorem dX0_faultsOf_13 : decode cX0_faultsOf 13 = .ok (.ifCond .eq 12, 3) := by decide +kernel
theorem dX0_faultsOf_16 : decode cX0_faultsOf 16 = .ok (.aload_n 0, 1) := by decide +kernel
theorem dX0_faultsOf_17 : decode cX0_faultsOf 17 = .ok (.getfield 15, 3) := by decide +kernel
theorem dX0_faultsOf_20 : decode cX0_faultsOf 20 = .ok (.iload_n 3, 1) := by decide +kernel
theorem dX0_faultsOf_21 : decode cX0_faultsOf 21 = .ok (.iaload, 1) := by decide +kernel
theorem dX0_faultsOf_22 : decode cX0_faultsOf 22 = .ok (.goto 4, 3) := by decide +kernel
theorem dX0_faultsOf_25 : decode cX0_faultsOf 25 = .ok (.iconst 0, 1) := by decide +kernel
theorem dX0_faultsOf_26 : decode cX0_faultsOf 26 = .ok (.ireturn, 1) := by decide +kernel
theorem dX0_owedBy_0 : decode cX0_owedBy 0 = .ok (.iload_n 1, 1) := by decide +kernel
theorem dX0_owedBy_1 : decode cX0_owedBy 1 = .ok (.iload_n 2, 1) := by decide +kernel
theorem dX0_owedBy_2 : decode cX0_owedBy 2 = .ok (.invokestatic 48, 3) := by decide +kernel
theorem dX0_owedBy_5 : decode cX0_owedBy 5 = .ok (.istore_n 3, 1) := by decide +kernel
theorem dX0_owedBy_6 : decode cX0_owedBy 6 = .ok (.iload_n 3, 1) := by decide +kernel
theorem dX0_owedBy_7 : decode cX0_owedBy 7 = .ok (.iconst 0, 1) := by decide +kernel
theorem dX0_owedBy_8 : decode cX0_owedBy 8 = .ok (.bipush 11, 2) := by decide +kernel
theorem dX0_owedBy_10 : decode cX0_owedBy 10 = .ok (.invokestatic 44, 3) := by decide +kernel
theorem dX0_owedBy_13 : decode cX0_owedBy 13 = .ok (.ifCond .eq 12, 3) := by decide +kernel
theorem dX0_owedBy_16 : decode cX0_owedBy 16 = .ok (.aload_n 0, 1) := by decide +kernel
theorem dX0_owedBy_17 : decode cX0_owedBy 17 = .ok (.getfield 18, 3) := by decide +kernel
theorem dX0_owedBy_20 : decode cX0_owedBy 20 = .ok (.iload_n 3, 1) := by decide +kernel
theorem dX0_owedBy_21 : decode cX0_owedBy 21 = .ok (.iaload, 1) := by decide +kernel
theorem dX0_owedBy_22 : decode cX0_owedBy 22 = .ok (.goto 4, 3) := by decide +kernel
theorem dX0_owedBy_25 : decode cX0_owedBy 25 = .ok (.iconst 0, 1) := by decide +kernel
theorem dX0_owedBy_26 : decode cX0_owedBy 26 = .ok (.ireturn, 1) := by decide +kernel
theorem dX0_odd_0 : decode cX0_odd 0 = .ok (.aload_n 0, 1) := by decide +kernel
theorem dX0_odd_1 : decode cX0_odd 1 = .ok (.getfield 27, 3) := by decide +kernel
theorem dX0_odd_4 : decode cX0_odd 4 = .ok (.iconst 1, 1) := by decide +kernel
theorem dX0_odd_5 : decode cX0_odd 5 = .ok (.iand, 1) := by decide +kernel
theorem dX0_odd_6 : decode cX0_odd 6 = .ok (.ireturn, 1) := by decide +kernel
theorem dX0_toldFor_0 : decode cX0_toldFor 0 = .ok (.iload_n 1, 1) := by decide +kernel
theorem dX0_toldFor_1 : decode cX0_toldFor 1 = .ok (.iload_n 2, 1) := by decide +kernel
theorem dX0_toldFor_2 : decode cX0_toldFor 2 = .ok (.iload_n 3, 1) := by decide +kernel
theorem dX0_toldFor_3 : decode cX0_toldFor 3 = .ok (.invokestatic 40, 3) := by decide +kernel
theorem dX0_toldFor_6 : decode cX0_toldFor 6 = .ok (.istore 4, 2) := by decide +kernel
theorem dX0_toldFor_8 : decode cX0_toldFor 8 = .ok (.iload 4, 2) := by decide +kernel
theorem dX0_toldFor_10 : decode cX0_toldFor 10 = .ok (.iconst 0, 1) := by decide +kernel
theorem dX0_toldFor_11 : decode cX0_toldFor 11 = .ok (.bipush 47, 2) := by decide +kernel
theorem dX0_toldFor_13 : decode cX0_toldFor 13 = .ok (.invokestatic 44, 3) := by decide +kernel
theorem dX0_toldFor_16 : decode cX0_toldFor 16 = .ok (.ifCond .eq 13, 3) := by decide +kernel
theorem dX0_toldFor_19 : decode cX0_toldFor 19 = .ok (.aload_n 0, 1) := by decide +kernel
theorem dX0_toldFor_20 : decode cX0_toldFor 20 = .ok (.getfield 21, 3) := by decide +kernel
theorem dX0_toldFor_23 : decode cX0_toldFor 23 = .ok (.iload 4, 2) := by decide +kernel
theorem dX0_toldFor_25 : decode cX0_toldFor 25 = .ok (.iaload, 1) := by decide +kernel
theorem dX0_toldFor_26 : decode cX0_toldFor 26 = .ok (.goto 4, 3) := by decide +kernel
theorem dX0_toldFor_29 : decode cX0_toldFor 29 = .ok (.iconst (-1), 1) := by decide +kernel
theorem dX0_toldFor_30 : decode cX0_toldFor 30 = .ok (.ireturn, 1) := by decide +kernel
theorem dX0_isToldOtherwise_0 : decode cX0_isToldOtherwise 0 = .ok (.aload_n 0, 1) := by decide +kernel
theorem dX0_isToldOtherwise_1 : decode cX0_isToldOtherwise 1 = .ok (.iload_n 2, 1) := by decide +kernel
theorem dX0_isToldOtherwise_2 : decode cX0_isToldOtherwise 2 = .ok (.iload_n 3, 1) := by decide +kernel
theorem dX0_isToldOtherwise_3 : decode cX0_isToldOtherwise 3 = .ok (.iload 4, 2) := by decide +kernel
theorem dX0_isToldOtherwise_5 : decode cX0_isToldOtherwise 5 = .ok (.invokevirtual 52, 3) := by decide +kernel
theorem dX0_isToldOtherwise_8 : decode cX0_isToldOtherwise 8 = .ok (.istore 5, 2) := by decide +kernel
theorem dX0_isToldOtherwise_10 : decode cX0_isToldOtherwise 10 = .ok (.iload 5, 2) := by decide +kernel
theorem dX0_isToldOtherwise_12 : decode cX0_isToldOtherwise 12 = .ok (.iconst (-1), 1) := by decide +kernel
theorem dX0_isToldOtherwise_13 : decode cX0_isToldOtherwise 13 = .ok (.if_icmp .eq 24, 3) := by decide +kernel
theorem dX0_isToldOtherwise_16 : decode cX0_isToldOtherwise 16 = .ok (.iload 5, 2) := by decide +kernel
theorem dX0_isToldOtherwise_18 : decode cX0_isToldOtherwise 18 = .ok (.aload_n 1, 1) := by decide +kernel
theorem dX0_isToldOtherwise_19 : decode cX0_isToldOtherwise 19 = .ok (.aload_n 0, 1) := by decide +kernel
theorem dX0_isToldOtherwise_20 : decode cX0_isToldOtherwise 20 = .ok (.invokevirtual 55, 3) := by decide +kernel
theorem dX0_isToldOtherwise_23 : decode cX0_isToldOtherwise 23 = .ok (.iload_n 2, 1) := by decide +kernel
theorem dX0_isToldOtherwise_24 : decode cX0_isToldOtherwise 24 = .ok (.iload_n 3, 1) := by decide +kernel
theorem dX0_isToldOtherwise_25 : decode cX0_isToldOtherwise 25 = .ok (.iload 4, 2) := by decide +kernel
theorem dX0_isToldOtherwise_27 : decode cX0_isToldOtherwise 27 = .ok (.invokevirtual 59, 3) := by decide +kernel
theorem dX0_isToldOtherwise_30 : decode cX0_isToldOtherwise 30 = .ok (.if_icmp .eq 7, 3) := by decide +kernel
theorem dX0_isToldOtherwise_33 : decode cX0_isToldOtherwise 33 = .ok (.iconst 1, 1) := by decide +kernel
theorem dX0_isToldOtherwise_34 : decode cX0_isToldOtherwise 34 = .ok (.goto 4, 3) := by decide +kernel
theorem dX0_isToldOtherwise_37 : decode cX0_isToldOtherwise 37 = .ok (.iconst 0, 1) := by decide +kernel
theorem dX0_isToldOtherwise_38 : decode cX0_isToldOtherwise 38 = .ok (.ireturn, 1) := by decide +kernel
theorem dX0_workOf_0 : decode cX0_workOf 0 = .ok (.aload_n 0, 1) := by decide +kernel
theorem dX0_workOf_1 : decode cX0_workOf 1 = .ok (.iload_n 2, 1) := by decide +kernel
theorem dX0_workOf_2 : decode cX0_workOf 2 = .ok (.iload_n 3, 1) := by decide +kernel
theorem dX0_workOf_3 : decode cX0_workOf 3 = .ok (.invokevirtual 65, 3) := by decide +kernel
theorem dX0_workOf_6 : decode cX0_workOf 6 = .ok (.ifCond .eq 5, 3) := by decide +kernel
theorem dX0_workOf_9 : decode cX0_workOf 9 = .ok (.iconst 5, 1) := by decide +kernel
theorem dX0_workOf_10 : decode cX0_workOf 10 = .ok (.ireturn, 1) := by decide +kernel
theorem dX0_workOf_11 : decode cX0_workOf 11 = .ok (.aload_n 0, 1) := by decide +kernel
theorem dX0_workOf_12 : decode cX0_workOf 12 = .ok (.iload_n 2, 1) := by decide +kernel
theorem dX0_workOf_13 : decode cX0_workOf 13 = .ok (.iload_n 3, 1) := by decide +kernel
theorem dX0_workOf_14 : decode cX0_workOf 14 = .ok (.iload 4, 2) := by decide +kernel
theorem dX0_workOf_16 : decode cX0_workOf 16 = .ok (.invokevirtual 52, 3) := by decide +kernel
theorem dX0_workOf_19 : decode cX0_workOf 19 = .ok (.istore 5, 2) := by decide +kernel
theorem dX0_workOf_21 : decode cX0_workOf 21 = .ok (.iload 5, 2) := by decide +kernel
theorem dX0_workOf_23 : decode cX0_workOf 23 = .ok (.iconst (-1), 1) := by decide +kernel
theorem dX0_workOf_24 : decode cX0_workOf 24 = .ok (.if_icmp .ne 17, 3) := by decide +kernel
theorem dX0_workOf_27 : decode cX0_workOf 27 = .ok (.aload_n 1, 1) := by decide +kernel
theorem dX0_workOf_28 : decode cX0_workOf 28 = .ok (.aload_n 0, 1) := by decide +kernel
theorem dX0_workOf_29 : decode cX0_workOf 29 = .ok (.invokevirtual 55, 3) := by decide +kernel
theorem dX0_workOf_32 : decode cX0_workOf 32 = .ok (.iload_n 2, 1) := by decide +kernel
theorem dX0_workOf_33 : decode cX0_workOf 33 = .ok (.iload_n 3, 1) := by decide +kernel
theorem dX0_workOf_34 : decode cX0_workOf 34 = .ok (.iload 4, 2) := by decide +kernel
theorem dX0_workOf_36 : decode cX0_workOf 36 = .ok (.invokevirtual 59, 3) := by decide +kernel
theorem dX0_workOf_39 : decode cX0_workOf 39 = .ok (.istore 5, 2) := by decide +kernel
theorem dX0_workOf_41 : decode cX0_workOf 41 = .ok (.aload_n 1, 1) := by decide +kernel
theorem dX0_workOf_42 : decode cX0_workOf 42 = .ok (.iload_n 2, 1) := by decide +kernel
theorem dX0_workOf_43 : decode cX0_workOf 43 = .ok (.iload_n 3, 1) := by decide +kernel
theorem dX0_workOf_44 : decode cX0_workOf 44 = .ok (.iload 4, 2) := by decide +kernel
theorem dX0_workOf_46 : decode cX0_workOf 46 = .ok (.iload 5, 2) := by decide +kernel
theorem dX0_workOf_48 : decode cX0_workOf 48 = .ok (.invokevirtual 69, 3) := by decide +kernel
theorem dX0_workOf_51 : decode cX0_workOf 51 = .ok (.ifCond .eq 8, 3) := by decide +kernel
theorem dX0_workOf_54 : decode cX0_workOf 54 = .ok (.iload 5, 2) := by decide +kernel
theorem dX0_workOf_56 : decode cX0_workOf 56 = .ok (.goto 4, 3) := by decide +kernel
theorem dX0_workOf_59 : decode cX0_workOf 59 = .ok (.iconst 5, 1) := by decide +kernel
theorem dX0_workOf_60 : decode cX0_workOf 60 = .ok (.ireturn, 1) := by decide +kernel
theorem dX0_isBreach_0 : decode cX0_isBreach 0 = .ok (.aload_n 0, 1) := by decide +kernel
theorem dX0_isBreach_1 : decode cX0_isBreach 1 = .ok (.iconst 0, 1) := by decide +kernel
theorem dX0_isBreach_2 : decode cX0_isBreach 2 = .ok (.iload_n 2, 1) := by decide +kernel
theorem dX0_isBreach_3 : decode cX0_isBreach 3 = .ok (.invokevirtual 65, 3) := by decide +kernel
theorem dX0_isBreach_6 : decode cX0_isBreach 6 = .ok (.ifCond .ne 12, 3) := by decide +kernel
theorem dX0_isBreach_9 : decode cX0_isBreach 9 = .ok (.aload_n 0, 1) := by decide +kernel
theorem dX0_isBreach_10 : decode cX0_isBreach 10 = .ok (.iconst 1, 1) := by decide +kernel
theorem dX0_isBreach_11 : decode cX0_isBreach 11 = .ok (.iload_n 2, 1) := by decide +kernel
theorem dX0_isBreach_12 : decode cX0_isBreach 12 = .ok (.invokevirtual 65, 3) := by decide +kernel
theorem dX0_isBreach_15 : decode cX0_isBreach 15 = .ok (.ifCond .eq 5, 3) := by decide +kernel
theorem dX0_isBreach_18 : decode cX0_isBreach 18 = .ok (.iconst 0, 1) := by decide +kernel
theorem dX0_isBreach_19 : decode cX0_isBreach 19 = .ok (.ireturn, 1) := by decide +kernel
theorem dX0_isBreach_20 : decode cX0_isBreach 20 = .ok (.aload_n 0, 1) := by decide +kernel
theorem dX0_isBreach_21 : decode cX0_isBreach 21 = .ok (.aload_n 1, 1) := by decide +kernel
theorem dX0_isBreach_22 : decode cX0_isBreach 22 = .ok (.iconst 0, 1) := by decide +kernel
theorem dX0_isBreach_23 : decode cX0_isBreach 23 = .ok (.iload_n 2, 1) := by decide +kernel
theorem dX0_isBreach_24 : decode cX0_isBreach 24 = .ok (.iload_n 3, 1) := by decide +kernel
theorem dX0_isBreach_25 : decode cX0_isBreach 25 = .ok (.invokevirtual 73, 3) := by decide +kernel
theorem dX0_isBreach_28 : decode cX0_isBreach 28 = .ok (.istore 4, 2) := by decide +kernel
theorem dX0_isBreach_30 : decode cX0_isBreach 30 = .ok (.aload_n 0, 1) := by decide +kernel
theorem dX0_isBreach_31 : decode cX0_isBreach 31 = .ok (.aload_n 1, 1) := by decide +kernel
theorem dX0_isBreach_32 : decode cX0_isBreach 32 = .ok (.iconst 1, 1) := by decide +kernel
theorem dX0_isBreach_33 : decode cX0_isBreach 33 = .ok (.iload_n 2, 1) := by decide +kernel
theorem dX0_isBreach_34 : decode cX0_isBreach 34 = .ok (.iload_n 3, 1) := by decide +kernel
theorem dX0_isBreach_35 : decode cX0_isBreach 35 = .ok (.invokevirtual 73, 3) := by decide +kernel
theorem dX0_isBreach_38 : decode cX0_isBreach 38 = .ok (.istore 5, 2) := by decide +kernel
theorem dX0_isBreach_40 : decode cX0_isBreach 40 = .ok (.aload_n 1, 1) := by decide +kernel
theorem dX0_isBreach_41 : decode cX0_isBreach 41 = .ok (.aload_n 0, 1) := by decide +kernel
theorem dX0_isBreach_42 : decode cX0_isBreach 42 = .ok (.invokevirtual 55, 3) := by decide +kernel
theorem dX0_isBreach_45 : decode cX0_isBreach 45 = .ok (.iload_n 2, 1) := by decide +kernel
theorem dX0_isBreach_46 : decode cX0_isBreach 46 = .ok (.iload 4, 2) := by decide +kernel
theorem dX0_isBreach_48 : decode cX0_isBreach 48 = .ok (.iload 5, 2) := by decide +kernel
theorem dX0_isBreach_50 : decode cX0_isBreach 50 = .ok (.invokevirtual 77, 3) := by decide +kernel
theorem dX0_isBreach_53 : decode cX0_isBreach 53 = .ok (.ifCond .ne 7, 3) := by decide +kernel
theorem dX0_isBreach_56 : decode cX0_isBreach 56 = .ok (.iconst 1, 1) := by decide +kernel
theorem dX0_isBreach_57 : decode cX0_isBreach 57 = .ok (.goto 4, 3) := by decide +kernel
theorem dX0_isBreach_60 : decode cX0_isBreach 60 = .ok (.iconst 0, 1) := by decide +kernel
theorem dX0_isBreach_61 : decode cX0_isBreach 61 = .ok (.ireturn, 1) := by decide +kernel
theorem dX0_passOne_0 : decode cX0_passOne 0 = .ok (.iconst 0, 1) := by decide +kernel
theorem dX0_passOne_1 : decode cX0_passOne 1 = .ok (.istore_n 2, 1) := by decide +kernel
theorem dX0_passOne_2 : decode cX0_passOne 2 = .ok (.iload_n 2, 1) := by decide +kernel
theorem dX0_passOne_3 : decode cX0_passOne 3 = .ok (.aload_n 1, 1) := by decide +kernel
theorem dX0_passOne_4 : decode cX0_passOne 4 = .ok (.getfield 80, 3) := by decide +kernel
theorem dX0_passOne_7 : decode cX0_passOne 7 = .ok (.if_icmp .ge 49, 3) := by decide +kernel
theorem dX0_passOne_10 : decode cX0_passOne 10 = .ok (.iconst 0, 1) := by decide +kernel
theorem dX0_passOne_11 : decode cX0_passOne 11 = .ok (.istore_n 3, 1) := by decide +kernel
theorem dX0_passOne_12 : decode cX0_passOne 12 = .ok (.iload_n 3, 1) := by decide +kernel
theorem dX0_passOne_13 : decode cX0_passOne 13 = .ok (.aload_n 1, 1) := by decide +kernel
theorem dX0_passOne_14 : decode cX0_passOne 14 = .ok (.getfield 83, 3) := by decide +kernel
theorem dX0_passOne_17 : decode cX0_passOne 17 = .ok (.if_icmp .ge 33, 3) := by decide +kernel
theorem dX0_passOne_20 : decode cX0_passOne 20 = .ok (.aload_n 0, 1) := by decide +kernel
theorem dX0_passOne_21 : decode cX0_passOne 21 = .ok (.aload_n 1, 1) := by decide +kernel
theorem dX0_passOne_22 : decode cX0_passOne 22 = .ok (.iload_n 2, 1) := by decide +kernel
theorem dX0_passOne_23 : decode cX0_passOne 23 = .ok (.iload_n 3, 1) := by decide +kernel
theorem dX0_passOne_24 : decode cX0_passOne 24 = .ok (.invokevirtual 86, 3) := by decide +kernel
theorem dX0_passOne_27 : decode cX0_passOne 27 = .ok (.aload_n 0, 1) := by decide +kernel
theorem dX0_passOne_28 : decode cX0_passOne 28 = .ok (.aload_n 1, 1) := by decide +kernel
theorem dX0_passOne_29 : decode cX0_passOne 29 = .ok (.iload_n 2, 1) := by decide +kernel
theorem dX0_passOne_30 : decode cX0_passOne 30 = .ok (.iload_n 3, 1) := by decide +kernel
theorem dX0_passOne_31 : decode cX0_passOne 31 = .ok (.invokevirtual 90, 3) := by decide +kernel
theorem dX0_passOne_34 : decode cX0_passOne 34 = .ok (.ifCond .eq 10, 3) := by decide +kernel
theorem dX0_passOne_37 : decode cX0_passOne 37 = .ok (.aload_n 0, 1) := by decide +kernel
theorem dX0_passOne_38 : decode cX0_passOne 38 = .ok (.aload_n 1, 1) := by decide +kernel
theorem dX0_passOne_39 : decode cX0_passOne 39 = .ok (.iload_n 2, 1) := by decide +kernel
theorem dX0_passOne_40 : decode cX0_passOne 40 = .ok (.iload_n 3, 1) := by decide +kernel
theorem dX0_passOne_41 : decode cX0_passOne 41 = .ok (.invokevirtual 94, 3) := by decide +kernel
theorem dX0_passOne_44 : decode cX0_passOne 44 = .ok (.iinc 3 1, 3) := by decide +kernel
theorem dX0_passOne_47 : decode cX0_passOne 47 = .ok (.goto (-35), 3) := by decide +kernel
theorem dX0_passOne_50 : decode cX0_passOne 50 = .ok (.iinc 2 1, 3) := by decide +kernel
theorem dX0_passOne_53 : decode cX0_passOne 53 = .ok (.goto (-51), 3) := by decide +kernel
theorem dX0_passOne_56 : decode cX0_passOne 56 = .ok (.iconst 0, 1) := by decide +kernel
theorem dX0_passOne_57 : decode cX0_passOne 57 = .ok (.istore_n 2, 1) := by decide +kernel
theorem dX0_passOne_58 : decode cX0_passOne 58 = .ok (.iload_n 2, 1) := by decide +kernel
theorem dX0_passOne_59 : decode cX0_passOne 59 = .ok (.iconst 2, 1) := by decide +kernel
theorem dX0_passOne_60 : decode cX0_passOne 60 = .ok (.if_icmp .ge 27, 3) := by decide +kernel
theorem dX0_passOne_63 : decode cX0_passOne 63 = .ok (.aload_n 0, 1) := by decide +kernel
theorem dX0_passOne_64 : decode cX0_passOne 64 = .ok (.getfield 9, 3) := by decide +kernel
theorem dX0_passOne_67 : decode cX0_passOne 67 = .ok (.iload_n 2, 1) := by decide +kernel
theorem dX0_passOne_68 : decode cX0_passOne 68 = .ok (.dup2, 1) := by decide +kernel
theorem dX0_passOne_69 : decode cX0_passOne 69 = .ok (.iaload, 1) := by decide +kernel
theorem dX0_passOne_70 : decode cX0_passOne 70 = .ok (.aload_n 1, 1) := by decide +kernel
theorem dX0_passOne_71 : decode cX0_passOne 71 = .ok (.getfield 97, 3) := by decide +kernel
theorem dX0_passOne_74 : decode cX0_passOne 74 = .ok (.aload_n 1, 1) := by decide +kernel
theorem dX0_passOne_75 : decode cX0_passOne 75 = .ok (.getfield 80, 3) := by decide +kernel
theorem dX0_passOne_78 : decode cX0_passOne 78 = .ok (.imul, 1) := by decide +kernel
theorem dX0_passOne_79 : decode cX0_passOne 79 = .ok (.isub, 1) := by decide +kernel
theorem dX0_passOne_80 : decode cX0_passOne 80 = .ok (.iastore, 1) := by decide +kernel
theorem dX0_passOne_81 : decode cX0_passOne 81 = .ok (.iinc 2 1, 3) := by decide +kernel
theorem dX0_passOne_84 : decode cX0_passOne 84 = .ok (.goto (-26), 3) := by decide +kernel
theorem dX0_passOne_87 : decode cX0_passOne 87 = .ok (.aload_n 0, 1) := by decide +kernel
theorem dX0_passOne_88 : decode cX0_passOne 88 = .ok (.getfield 21, 3) := by decide +kernel
theorem dX0_passOne_91 : decode cX0_passOne 91 = .ok (.iconst (-1), 1) := by decide +kernel
theorem dX0_passOne_92 : decode cX0_passOne 92 = .ok (.invokestatic 34, 3) := by decide +kernel
theorem dX0_passOne_95 : decode cX0_passOne 95 = .ok (.aload_n 0, 1) := by decide +kernel
theorem dX0_passOne_96 : decode cX0_passOne 96 = .ok (.dup, 1) := by decide +kernel
theorem dX0_passOne_97 : decode cX0_passOne 97 = .ok (.getfield 27, 3) := by decide +kernel
theorem dX0_passOne_100 : decode cX0_passOne 100 = .ok (.iconst 1, 1) := by decide +kernel
theorem dX0_passOne_101 : decode cX0_passOne 101 = .ok (.iadd, 1) := by decide +kernel
theorem dX0_passOne_102 : decode cX0_passOne 102 = .ok (.putfield 27, 3) := by decide +kernel
theorem dX0_passOne_105 : decode cX0_passOne 105 = .ok (.return_, 1) := by decide +kernel
theorem dX0_makeBread_0 : decode cX0_makeBread 0 = .ok (.iconst 0, 1) := by decide +kernel
theorem dX0_makeBread_1 : decode cX0_makeBread 1 = .ok (.istore 4, 2) := by decide +kernel
theorem dX0_makeBread_3 : decode cX0_makeBread 3 = .ok (.iload 4, 2) := by decide +kernel
theorem dX0_makeBread_5 : decode cX0_makeBread 5 = .ok (.iconst 2, 1) := by decide +kernel
theorem dX0_makeBread_6 : decode cX0_makeBread 6 = .ok (.if_icmp .ge 35, 3) := by decide +kernel
theorem dX0_makeBread_9 : decode cX0_makeBread 9 = .ok (.aload_n 0, 1) := by decide +kernel
theorem dX0_makeBread_10 : decode cX0_makeBread 10 = .ok (.getfield 9, 3) := by decide +kernel
theorem dX0_makeBread_13 : decode cX0_makeBread 13 = .ok (.iload 4, 2) := by decide +kernel
theorem dX0_makeBread_15 : decode cX0_makeBread 15 = .ok (.dup2, 1) := by decide +kernel
theorem dX0_makeBread_16 : decode cX0_makeBread 16 = .ok (.iaload, 1) := by decide +kernel
theorem dX0_makeBread_17 : decode cX0_makeBread 17 = .ok (.aload_n 1, 1) := by decide +kernel
theorem dX0_makeBread_18 : decode cX0_makeBread 18 = .ok (.iload 4, 2) := by decide +kernel
theorem dX0_makeBread_20 : decode cX0_makeBread 20 = .ok (.iload_n 2, 1) := by decide +kernel
theorem dX0_makeBread_21 : decode cX0_makeBread 21 = .ok (.aload_n 0, 1) := by decide +kernel
theorem dX0_makeBread_22 : decode cX0_makeBread 22 = .ok (.aload_n 1, 1) := by decide +kernel
theorem dX0_makeBread_23 : decode cX0_makeBread 23 = .ok (.iload 4, 2) := by decide +kernel
theorem dX0_makeBread_25 : decode cX0_makeBread 25 = .ok (.iload_n 2, 1) := by decide +kernel
theorem dX0_makeBread_26 : decode cX0_makeBread 26 = .ok (.iload_n 3, 1) := by decide +kernel
theorem dX0_makeBread_27 : decode cX0_makeBread 27 = .ok (.invokevirtual 73, 3) := by decide +kernel
theorem dX0_makeBread_30 : decode cX0_makeBread 30 = .ok (.invokevirtual 100, 3) := by decide +kernel
theorem dX0_makeBread_33 : decode cX0_makeBread 33 = .ok (.iadd, 1) := by decide +kernel
theorem dX0_makeBread_34 : decode cX0_makeBread 34 = .ok (.iastore, 1) := by decide +kernel
theorem dX0_makeBread_35 : decode cX0_makeBread 35 = .ok (.iinc 4 1, 3) := by decide +kernel
theorem dX0_makeBread_38 : decode cX0_makeBread 38 = .ok (.goto (-35), 3) := by decide +kernel
theorem dX0_makeBread_41 : decode cX0_makeBread 41 = .ok (.return_, 1) := by decide +kernel
theorem dX0_blame_0 : decode cX0_blame 0 = .ok (.aload_n 0, 1) := by decide +kernel
theorem dX0_blame_1 : decode cX0_blame 1 = .ok (.aload_n 1, 1) := by decide +kernel
theorem dX0_blame_2 : decode cX0_blame 2 = .ok (.iconst 0, 1) := by decide +kernel
theorem dX0_blame_3 : decode cX0_blame 3 = .ok (.iload_n 2, 1) := by decide +kernel
theorem dX0_blame_4 : decode cX0_blame 4 = .ok (.iload_n 3, 1) := by decide +kernel
theorem dX0_blame_5 : decode cX0_blame 5 = .ok (.invokevirtual 103, 3) := by decide +kernel
theorem dX0_blame_8 : decode cX0_blame 8 = .ok (.istore 4, 2) := by decide +kernel
theorem dX0_blame_10 : decode cX0_blame 10 = .ok (.aload_n 0, 1) := by decide +kernel
theorem dX0_blame_11 : decode cX0_blame 11 = .ok (.aload_n 1, 1) := by decide +kernel
theorem dX0_blame_12 : decode cX0_blame 12 = .ok (.iconst 1, 1) := by decide +kernel
theorem dX0_blame_13 : decode cX0_blame 13 = .ok (.iload_n 2, 1) := by decide +kernel
theorem dX0_blame_14 : decode cX0_blame 14 = .ok (.iload_n 3, 1) := by decide +kernel
theorem dX0_blame_15 : decode cX0_blame 15 = .ok (.invokevirtual 103, 3) := by decide +kernel
theorem dX0_blame_18 : decode cX0_blame 18 = .ok (.istore 5, 2) := by decide +kernel
theorem dX0_blame_20 : decode cX0_blame 20 = .ok (.iload 4, 2) := by decide +kernel
theorem dX0_blame_22 : decode cX0_blame 22 = .ok (.ifCond .ne 8, 3) := by decide +kernel
theorem dX0_blame_25 : decode cX0_blame 25 = .ok (.iload 5, 2) := by decide +kernel
theorem dX0_blame_27 : decode cX0_blame 27 = .ok (.ifCond .ne 13, 3) := by decide +kernel
theorem dX0_blame_30 : decode cX0_blame 30 = .ok (.aload_n 0, 1) := by decide +kernel
theorem dX0_blame_31 : decode cX0_blame 31 = .ok (.iconst 0, 1) := by decide +kernel
theorem dX0_blame_32 : decode cX0_blame 32 = .ok (.iload_n 2, 1) := by decide +kernel
theorem dX0_blame_33 : decode cX0_blame 33 = .ok (.aload_n 1, 1) := by decide +kernel
theorem dX0_blame_34 : decode cX0_blame 34 = .ok (.getfield 107, 3) := by decide +kernel
theorem dX0_blame_37 : decode cX0_blame 37 = .ok (.invokevirtual 110, 3) := by decide +kernel
theorem dX0_blame_40 : decode cX0_blame 40 = .ok (.iload 5, 2) := by decide +kernel
theorem dX0_blame_42 : decode cX0_blame 42 = .ok (.ifCond .ne 8, 3) := by decide +kernel
theorem dX0_blame_45 : decode cX0_blame 45 = .ok (.iload 4, 2) := by decide +kernel
theorem dX0_blame_47 : decode cX0_blame 47 = .ok (.ifCond .ne 13, 3) := by decide +kernel
theorem dX0_blame_50 : decode cX0_blame 50 = .ok (.aload_n 0, 1) := by decide +kernel
theorem dX0_blame_51 : decode cX0_blame 51 = .ok (.iconst 1, 1) := by decide +kernel
theorem dX0_blame_52 : decode cX0_blame 52 = .ok (.iload_n 2, 1) := by decide +kernel
theorem dX0_blame_53 : decode cX0_blame 53 = .ok (.aload_n 1, 1) := by decide +kernel
theorem dX0_blame_54 : decode cX0_blame 54 = .ok (.getfield 107, 3) := by decide +kernel
theorem dX0_blame_57 : decode cX0_blame 57 = .ok (.invokevirtual 110, 3) := by decide +kernel
theorem dX0_blame_60 : decode cX0_blame 60 = .ok (.return_, 1) := by decide +kernel
theorem dX0_addFault_0 : decode cX0_addFault 0 = .ok (.iload_n 1, 1) := by decide +kernel
theorem dX0_addFault_1 : decode cX0_addFault 1 = .ok (.iload_n 2, 1) := by decide +kernel
theorem dX0_addFault_2 : decode cX0_addFault 2 = .ok (.invokestatic 48, 3) := by decide +kernel
theorem dX0_addFault_5 : decode cX0_addFault 5 = .ok (.istore 4, 2) := by decide +kernel
theorem dX0_addFault_7 : decode cX0_addFault 7 = .ok (.iload 4, 2) := by decide +kernel
theorem dX0_addFault_9 : decode cX0_addFault 9 = .ok (.iconst 0, 1) := by decide +kernel
theorem dX0_addFault_10 : decode cX0_addFault 10 = .ok (.bipush 11, 2) := by decide +kernel
theorem dX0_addFault_12 : decode cX0_addFault 12 = .ok (.invokestatic 44, 3) := by decide +kernel
theorem dX0_addFault_15 : decode cX0_addFault 15 = .ok (.ifCond .ne 4, 3) := by decide +kernel
theorem dX0_addFault_18 : decode cX0_addFault 18 = .ok (.return_, 1) := by decide +kernel
theorem dX0_addFault_19 : decode cX0_addFault 19 = .ok (.aload_n 0, 1) := by decide +kernel
theorem dX0_addFault_20 : decode cX0_addFault 20 = .ok (.getfield 15, 3) := by decide +kernel
theorem dX0_addFault_23 : decode cX0_addFault 23 = .ok (.iload 4, 2) := by decide +kernel
theorem dX0_addFault_25 : decode cX0_addFault 25 = .ok (.dup2, 1) := by decide +kernel
theorem dX0_addFault_26 : decode cX0_addFault 26 = .ok (.iaload, 1) := by decide +kernel
theorem dX0_addFault_27 : decode cX0_addFault 27 = .ok (.iconst 1, 1) := by decide +kernel
theorem dX0_addFault_28 : decode cX0_addFault 28 = .ok (.iadd, 1) := by decide +kernel
theorem dX0_addFault_29 : decode cX0_addFault 29 = .ok (.iastore, 1) := by decide +kernel
theorem dX0_addFault_30 : decode cX0_addFault 30 = .ok (.aload_n 0, 1) := by decide +kernel
theorem dX0_addFault_31 : decode cX0_addFault 31 = .ok (.getfield 18, 3) := by decide +kernel
theorem dX0_addFault_34 : decode cX0_addFault 34 = .ok (.iload 4, 2) := by decide +kernel
theorem dX0_addFault_36 : decode cX0_addFault 36 = .ok (.dup2, 1) := by decide +kernel
theorem dX0_addFault_37 : decode cX0_addFault 37 = .ok (.iaload, 1) := by decide +kernel
theorem dX0_addFault_38 : decode cX0_addFault 38 = .ok (.iload_n 3, 1) := by decide +kernel
theorem dX0_addFault_39 : decode cX0_addFault 39 = .ok (.iadd, 1) := by decide +kernel
theorem dX0_addFault_40 : decode cX0_addFault 40 = .ok (.iastore, 1) := by decide +kernel
theorem dX0_addFault_41 : decode cX0_addFault 41 = .ok (.return_, 1) := by decide +kernel
theorem dX1_init_0 : decode cX1_init 0 = .ok (.aload_n 0, 1) := by decide +kernel
theorem dX1_init_1 : decode cX1_init 1 = .ok (.invokespecial 3, 3) := by decide +kernel
theorem dX1_init_4 : decode cX1_init 4 = .ok (.aload_n 0, 1) := by decide +kernel
theorem dX1_init_5 : decode cX1_init 5 = .ok (.new 9, 3) := by decide +kernel
theorem dX1_init_8 : decode cX1_init 8 = .ok (.dup, 1) := by decide +kernel
theorem dX1_init_9 : decode cX1_init 9 = .ok (.aload_n 1, 1) := by decide +kernel
theorem dX1_init_10 : decode cX1_init 10 = .ok (.invokespecial 11, 3) := by decide +kernel
theorem dX1_init_13 : decode cX1_init 13 = .ok (.putfield 14, 3) := by decide +kernel
theorem dX1_init_16 : decode cX1_init 16 = .ok (.return_, 1) := by decide +kernel
theorem dX1_readInto_0 : decode cX1_readInto 0 = .ok (.aload_n 0, 1) := by decide +kernel
theorem dX1_readInto_1 : decode cX1_readInto 1 = .ok (.iconst (-1), 1) := by decide +kernel
theorem dX1_readInto_2 : decode cX1_readInto 2 = .ok (.putfield 20, 3) := by decide +kernel
theorem dX1_readInto_5 : decode cX1_readInto 5 = .ok (.aload_n 0, 1) := by decide +kernel
theorem dX1_readInto_6 : decode cX1_readInto 6 = .ok (.getfield 14, 3) := by decide +kernel
theorem dX1_readInto_9 : decode cX1_readInto 9 = .ok (.invokevirtual 24, 3) := by decide +kernel
theorem dX1_readInto_12 : decode cX1_readInto 12 = .ok (.iconst 1, 1) := by decide +kernel
theorem dX1_readInto_13 : decode cX1_readInto 13 = .ok (.istore_n 2, 1) := by decide +kernel
theorem dX1_readInto_14 : decode cX1_readInto 14 = .ok (.iload_n 2, 1) := by decide +kernel
theorem dX1_readInto_15 : decode cX1_readInto 15 = .ok (.bipush 10, 2) := by decide +kernel
theorem dX1_readInto_17 : decode cX1_readInto 17 = .ok (.if_icmp .gt 75, 3) := by decide +kernel
theorem dX1_readInto_20 : decode cX1_readInto 20 = .ok (.aload_n 0, 1) := by decide +kernel
theorem dX1_readInto_21 : decode cX1_readInto 21 = .ok (.aload_n 1, 1) := by decide +kernel
theorem dX1_readInto_22 : decode cX1_readInto 22 = .ok (.invokevirtual 27, 3) := by decide +kernel
theorem dX1_readInto_25 : decode cX1_readInto 25 = .ok (.aload_n 0, 1) := by decide +kernel
theorem dX1_readInto_26 : decode cX1_readInto 26 = .ok (.iload_n 2, 1) := by decide +kernel
theorem dX1_readInto_27 : decode cX1_readInto 27 = .ok (.putfield 31, 3) := by decide +kernel
theorem dX1_readInto_30 : decode cX1_readInto 30 = .ok (.aload_n 0, 1) := by decide +kernel
theorem dX1_readInto_31 : decode cX1_readInto 31 = .ok (.getfield 20, 3) := by decide +kernel
theorem dX1_readInto_34 : decode cX1_readInto 34 = .ok (.iconst (-1), 1) := by decide +kernel
theorem dX1_readInto_35 : decode cX1_readInto 35 = .ok (.if_icmp .ne 13, 3) := by decide +kernel
theorem dX1_readInto_38 : decode cX1_readInto 38 = .ok (.aload_n 0, 1) := by decide +kernel
theorem dX1_readInto_39 : decode cX1_readInto 39 = .ok (.getfield 14, 3) := by decide +kernel
theorem dX1_readInto_42 : decode cX1_readInto 42 = .ok (.invokevirtual 34, 3) := by decide +kernel
theorem dX1_readInto_45 : decode cX1_readInto 45 = .ok (.ifCond .eq 8, 3) := by decide +kernel
theorem dX1_readInto_48 : decode cX1_readInto 48 = .ok (.aload_n 0, 1) := by decide +kernel
theorem dX1_readInto_49 : decode cX1_readInto 49 = .ok (.getfield 20, 3) := by decide +kernel
theorem dX1_readInto_52 : decode cX1_readInto 52 = .ok (.ireturn, 1) := by decide +kernel
theorem dX1_readInto_53 : decode cX1_readInto 53 = .ok (.iload_n 2, 1) := by decide +kernel
theorem dX1_readInto_54 : decode cX1_readInto 54 = .ok (.bipush 10, 2) := by decide +kernel
theorem dX1_readInto_56 : decode cX1_readInto 56 = .ok (.if_icmp .eq 15, 3) := by decide +kernel
theorem dX1_readInto_59 : decode cX1_readInto 59 = .ok (.aload_n 0, 1) := by decide +kernel
theorem dX1_readInto_60 : decode cX1_readInto 60 = .ok (.getfield 14, 3) := by decide +kernel
theorem dX1_readInto_63 : decode cX1_readInto 63 = .ok (.bipush 59, 2) := by decide +kernel
theorem dX1_readInto_65 : decode cX1_readInto 65 = .ok (.invokevirtual 38, 3) := by decide +kernel
theorem dX1_readInto_68 : decode cX1_readInto 68 = .ok (.ifCond .ne 11, 3) := by decide +kernel
theorem dX1_readInto_71 : decode cX1_readInto 71 = .ok (.aload_n 0, 1) := by decide +kernel
theorem dX1_readInto_72 : decode cX1_readInto 72 = .ok (.getfield 14, 3) := by decide +kernel
theorem dX1_readInto_75 : decode cX1_readInto 75 = .ok (.getfield 42, 3) := by decide +kernel
theorem dX1_readInto_78 : decode cX1_readInto 78 = .ok (.ireturn, 1) := by decide +kernel
theorem dX1_readInto_79 : decode cX1_readInto 79 = .ok (.aload_n 0, 1) := by decide +kernel
theorem dX1_readInto_80 : decode cX1_readInto 80 = .ok (.getfield 14, 3) := by decide +kernel
theorem dX1_readInto_83 : decode cX1_readInto 83 = .ok (.invokevirtual 45, 3) := by decide +kernel
theorem dX1_readInto_86 : decode cX1_readInto 86 = .ok (.iinc 2 1, 3) := by decide +kernel
theorem dX1_readInto_89 : decode cX1_readInto 89 = .ok (.goto (-75), 3) := by decide +kernel
theorem dX1_readInto_92 : decode cX1_readInto 92 = .ok (.aload_n 0, 1) := by decide +kernel
theorem dX1_readInto_93 : decode cX1_readInto 93 = .ok (.getfield 20, 3) := by decide +kernel
theorem dX1_readInto_96 : decode cX1_readInto 96 = .ok (.ireturn, 1) := by decide +kernel
theorem dX1_readLine_0 : decode cX1_readLine 0 = .ok (.aload_n 0, 1) := by decide +kernel
theorem dX1_readLine_1 : decode cX1_readLine 1 = .ok (.getfield 14, 3) := by decide +kernel
theorem dX1_readLine_4 : decode cX1_readLine 4 = .ok (.ldc 48, 2) := by decide +kernel
theorem dX1_readLine_6 : decode cX1_readLine 6 = .ok (.invokevirtual 50, 3) := by decide +kernel
theorem dX1_readLine_9 : decode cX1_readLine 9 = .ok (.ifCond .eq 11, 3) := by decide +kernel
theorem dX1_readLine_12 : decode cX1_readLine 12 = .ok (.aload_n 0, 1) := by decide +kernel
theorem dX1_readLine_13 : decode cX1_readLine 13 = .ok (.aload_n 1, 1) := by decide +kernel
theorem dX1_readLine_14 : decode cX1_readLine 14 = .ok (.invokevirtual 54, 3) := by decide +kernel
theorem dX1_readLine_17 : decode cX1_readLine 17 = .ok (.goto 114, 3) := by decide +kernel
theorem dX1_readLine_20 : decode cX1_readLine 20 = .ok (.aload_n 0, 1) := by decide +kernel
theorem dX1_readLine_21 : decode cX1_readLine 21 = .ok (.getfield 14, 3) := by decide +kernel
theorem dX1_readLine_24 : decode cX1_readLine 24 = .ok (.ldc 57, 2) := by decide +kernel
theorem dX1_readLine_26 : decode cX1_readLine 26 = .ok (.invokevirtual 50, 3) := by decide +kernel
theorem dX1_readLine_29 : decode cX1_readLine 29 = .ok (.ifCond .eq 11, 3) := by decide +kernel
theorem dX1_readLine_32 : decode cX1_readLine 32 = .ok (.aload_n 0, 1) := by decide +kernel
theorem dX1_readLine_33 : decode cX1_readLine 33 = .ok (.aload_n 1, 1) := by decide +kernel
theorem dX1_readLine_34 : decode cX1_readLine 34 = .ok (.invokevirtual 59, 3) := by decide +kernel
theorem dX1_readLine_37 : decode cX1_readLine 37 = .ok (.goto 94, 3) := by decide +kernel
theorem dX1_readLine_40 : decode cX1_readLine 40 = .ok (.aload_n 0, 1) := by decide +kernel
theorem dX1_readLine_41 : decode cX1_readLine 41 = .ok (.getfield 14, 3) := by decide +kernel
theorem dX1_readLine_44 : decode cX1_readLine 44 = .ok (.ldc 62, 2) := by decide +kernel
theorem dX1_readLine_46 : decode cX1_readLine 46 = .ok (.invokevirtual 50, 3) := by decide +kernel
theorem dX1_readLine_49 : decode cX1_readLine 49 = .ok (.ifCond .eq 11, 3) := by decide +kernel
theorem dX1_readLine_52 : decode cX1_readLine 52 = .ok (.aload_n 0, 1) := by decide +kernel
theorem dX1_readLine_53 : decode cX1_readLine 53 = .ok (.aload_n 1, 1) := by decide +kernel
theorem dX1_readLine_54 : decode cX1_readLine 54 = .ok (.invokevirtual 64, 3) := by decide +kernel
theorem dX1_readLine_57 : decode cX1_readLine 57 = .ok (.goto 74, 3) := by decide +kernel
theorem dX1_readLine_60 : decode cX1_readLine 60 = .ok (.aload_n 0, 1) := by decide +kernel
theorem dX1_readLine_61 : decode cX1_readLine 61 = .ok (.getfield 14, 3) := by decide +kernel
theorem dX1_readLine_64 : decode cX1_readLine 64 = .ok (.ldc 67, 2) := by decide +kernel
theorem dX1_readLine_66 : decode cX1_readLine 66 = .ok (.invokevirtual 50, 3) := by decide +kernel
theorem dX1_readLine_69 : decode cX1_readLine 69 = .ok (.ifCond .eq 11, 3) := by decide +kernel
theorem dX1_readLine_72 : decode cX1_readLine 72 = .ok (.aload_n 0, 1) := by decide +kernel
theorem dX1_readLine_73 : decode cX1_readLine 73 = .ok (.aload_n 1, 1) := by decide +kernel
theorem dX1_readLine_74 : decode cX1_readLine 74 = .ok (.invokevirtual 69, 3) := by decide +kernel
theorem dX1_readLine_77 : decode cX1_readLine 77 = .ok (.goto 54, 3) := by decide +kernel
theorem dX1_readLine_80 : decode cX1_readLine 80 = .ok (.aload_n 0, 1) := by decide +kernel
theorem dX1_readLine_81 : decode cX1_readLine 81 = .ok (.getfield 14, 3) := by decide +kernel
theorem dX1_readLine_84 : decode cX1_readLine 84 = .ok (.ldc 72, 2) := by decide +kernel
theorem dX1_readLine_86 : decode cX1_readLine 86 = .ok (.invokevirtual 50, 3) := by decide +kernel
theorem dX1_readLine_89 : decode cX1_readLine 89 = .ok (.ifCond .eq 11, 3) := by decide +kernel
theorem dX1_readLine_92 : decode cX1_readLine 92 = .ok (.aload_n 0, 1) := by decide +kernel
theorem dX1_readLine_93 : decode cX1_readLine 93 = .ok (.aload_n 1, 1) := by decide +kernel
theorem dX1_readLine_94 : decode cX1_readLine 94 = .ok (.invokevirtual 74, 3) := by decide +kernel
theorem dX1_readLine_97 : decode cX1_readLine 97 = .ok (.goto 34, 3) := by decide +kernel
theorem dX1_readLine_100 : decode cX1_readLine 100 = .ok (.aload_n 0, 1) := by decide +kernel
theorem dX1_readLine_101 : decode cX1_readLine 101 = .ok (.getfield 14, 3) := by decide +kernel
theorem dX1_readLine_104 : decode cX1_readLine 104 = .ok (.ldc 77, 2) := by decide +kernel
theorem dX1_readLine_106 : decode cX1_readLine 106 = .ok (.invokevirtual 50, 3) := by decide +kernel
theorem dX1_readLine_109 : decode cX1_readLine 109 = .ok (.ifCond .eq 11, 3) := by decide +kernel
theorem dX1_readLine_112 : decode cX1_readLine 112 = .ok (.aload_n 0, 1) := by decide +kernel
theorem dX1_readLine_113 : decode cX1_readLine 113 = .ok (.aload_n 1, 1) := by decide +kernel
theorem dX1_readLine_114 : decode cX1_readLine 114 = .ok (.invokevirtual 79, 3) := by decide +kernel
theorem dX1_readLine_117 : decode cX1_readLine 117 = .ok (.goto 14, 3) := by decide +kernel
theorem dX1_readLine_120 : decode cX1_readLine 120 = .ok (.aload_n 0, 1) := by decide +kernel
theorem dX1_readLine_121 : decode cX1_readLine 121 = .ok (.aload_n 0, 1) := by decide +kernel
theorem dX1_readLine_122 : decode cX1_readLine 122 = .ok (.getfield 14, 3) := by decide +kernel
theorem dX1_readLine_125 : decode cX1_readLine 125 = .ok (.getfield 42, 3) := by decide +kernel
theorem dX1_readLine_128 : decode cX1_readLine 128 = .ok (.putfield 20, 3) := by decide +kernel
theorem dX1_readLine_131 : decode cX1_readLine 131 = .ok (.return_, 1) := by decide +kernel
theorem dX1_readTreaty_0 : decode cX1_readTreaty 0 = .ok (.aload_n 0, 1) := by decide +kernel
theorem dX1_readTreaty_1 : decode cX1_readTreaty 1 = .ok (.getfield 14, 3) := by decide +kernel
theorem dX1_readTreaty_4 : decode cX1_readTreaty 4 = .ok (.invokevirtual 45, 3) := by decide +kernel
theorem dX1_readTreaty_7 : decode cX1_readTreaty 7 = .ok (.aload_n 0, 1) := by decide +kernel
theorem dX1_readTreaty_8 : decode cX1_readTreaty 8 = .ok (.iconst 1, 1) := by decide +kernel
theorem dX1_readTreaty_9 : decode cX1_readTreaty 9 = .ok (.bipush 6, 2) := by decide +kernel
theorem dX1_readTreaty_11 : decode cX1_readTreaty 11 = .ok (.invokevirtual 82, 3) := by decide +kernel
theorem dX1_readTreaty_14 : decode cX1_readTreaty 14 = .ok (.istore_n 2, 1) := by decide +kernel
theorem dX1_readTreaty_15 : decode cX1_readTreaty 15 = .ok (.aload_n 0, 1) := by decide +kernel
theorem dX1_readTreaty_16 : decode cX1_readTreaty 16 = .ok (.iconst 1, 1) := by decide +kernel
theorem dX1_readTreaty_17 : decode cX1_readTreaty 17 = .ok (.iconst 4, 1) := by decide +kernel
theorem dX1_readTreaty_18 : decode cX1_readTreaty 18 = .ok (.invokevirtual 82, 3) := by decide +kernel
theorem dX1_readTreaty_21 : decode cX1_readTreaty 21 = .ok (.istore_n 3, 1) := by decide +kernel
theorem dX1_readTreaty_22 : decode cX1_readTreaty 22 = .ok (.aload_n 0, 1) := by decide +kernel
theorem dX1_readTreaty_23 : decode cX1_readTreaty 23 = .ok (.getfield 20, 3) := by decide +kernel
theorem dX1_readTreaty_26 : decode cX1_readTreaty 26 = .ok (.iconst (-1), 1) := by decide +kernel
theorem dX1_readTreaty_27 : decode cX1_readTreaty 27 = .ok (.if_icmp .ne 9, 3) := by decide +kernel
theorem dX1_readTreaty_30 : decode cX1_readTreaty 30 = .ok (.aload_n 1, 1) := by decide +kernel
theorem dX1_readTreaty_31 : decode cX1_readTreaty 31 = .ok (.iload_n 2, 1) := by decide +kernel
theorem dX1_readTreaty_32 : decode cX1_readTreaty 32 = .ok (.iload_n 3, 1) := by decide +kernel
theorem dX1_readTreaty_33 : decode cX1_readTreaty 33 = .ok (.invokevirtual 86, 3) := by decide +kernel
theorem dX1_readTreaty_36 : decode cX1_readTreaty 36 = .ok (.return_, 1) := by decide +kernel
theorem dX1_readWork_0 : decode cX1_readWork 0 = .ok (.aload_n 0, 1) := by decide +kernel
theorem dX1_readWork_1 : decode cX1_readWork 1 = .ok (.getfield 14, 3) := by decide +kernel
theorem dX1_readWork_4 : decode cX1_readWork 4 = .ok (.invokevirtual 45, 3) := by decide +kernel
theorem dX1_readWork_7 : decode cX1_readWork 7 = .ok (.aload_n 0, 1) := by decide +kernel
theorem dX1_readWork_8 : decode cX1_readWork 8 = .ok (.iconst 0, 1) := by decide +kernel
theorem dX1_readWork_9 : decode cX1_readWork 9 = .ok (.iconst 4, 1) := by decide +kernel
theorem dX1_readWork_10 : decode cX1_readWork 10 = .ok (.invokevirtual 82, 3) := by decide +kernel
theorem dX1_readWork_13 : decode cX1_readWork 13 = .ok (.istore_n 2, 1) := by decide +kernel
theorem dX1_readWork_14 : decode cX1_readWork 14 = .ok (.aload_n 0, 1) := by decide +kernel
theorem dX1_readWork_15 : decode cX1_readWork 15 = .ok (.iconst 0, 1) := by decide +kernel
theorem dX1_readWork_16 : decode cX1_readWork 16 = .ok (.iconst 3, 1) := by decide +kernel
theorem dX1_readWork_17 : decode cX1_readWork 17 = .ok (.invokevirtual 82, 3) := by decide +kernel
theorem dX1_readWork_20 : decode cX1_readWork 20 = .ok (.istore_n 3, 1) := by decide +kernel
theorem dX1_readWork_21 : decode cX1_readWork 21 = .ok (.aload_n 0, 1) := by decide +kernel
theorem dX1_readWork_22 : decode cX1_readWork 22 = .ok (.iconst (-1), 1) := by decide +kernel
theorem dX1_readWork_23 : decode cX1_readWork 23 = .ok (.bipush 20, 2) := by decide +kernel
theorem dX1_readWork_25 : decode cX1_readWork 25 = .ok (.invokevirtual 82, 3) := by decide +kernel
theorem dX1_readWork_28 : decode cX1_readWork 28 = .ok (.istore 4, 2) := by decide +kernel
theorem dX1_readWork_30 : decode cX1_readWork 30 = .ok (.aload_n 0, 1) := by decide +kernel
theorem dX1_readWork_31 : decode cX1_readWork 31 = .ok (.iconst (-1), 1) := by decide +kernel
theorem dX1_readWork_32 : decode cX1_readWork 32 = .ok (.bipush 20, 2) := by decide +kernel
theorem dX1_readWork_34 : decode cX1_readWork 34 = .ok (.invokevirtual 82, 3) := by decide +kernel
theorem dX1_readWork_37 : decode cX1_readWork 37 = .ok (.istore 5, 2) := by decide +kernel
theorem dX1_readWork_39 : decode cX1_readWork 39 = .ok (.aload_n 0, 1) := by decide +kernel
theorem dX1_readWork_40 : decode cX1_readWork 40 = .ok (.iconst 0, 1) := by decide +kernel
theorem dX1_readWork_41 : decode cX1_readWork 41 = .ok (.bipush 20, 2) := by decide +kernel
theorem dX1_readWork_43 : decode cX1_readWork 43 = .ok (.invokevirtual 82, 3) := by decide +kernel
theorem dX1_readWork_46 : decode cX1_readWork 46 = .ok (.istore 6, 2) := by decide +kernel
theorem dX1_readWork_48 : decode cX1_readWork 48 = .ok (.aload_n 0, 1) := by decide +kernel
theorem dX1_readWork_49 : decode cX1_readWork 49 = .ok (.getfield 20, 3) := by decide +kernel
theorem dX1_readWork_52 : decode cX1_readWork 52 = .ok (.iconst (-1), 1) := by decide +kernel
theorem dX1_readWork_53 : decode cX1_readWork 53 = .ok (.if_icmp .eq 4, 3) := by decide +kernel
theorem dX1_readWork_56 : decode cX1_readWork 56 = .ok (.return_, 1) := by decide +kernel
theorem dX1_readWork_57 : decode cX1_readWork 57 = .ok (.aload_n 1, 1) := by decide +kernel
theorem dX1_readWork_58 : decode cX1_readWork 58 = .ok (.iload_n 2, 1) := by decide +kernel
theorem dX1_readWork_59 : decode cX1_readWork 59 = .ok (.iload_n 3, 1) := by decide +kernel
theorem dX1_readWork_60 : decode cX1_readWork 60 = .ok (.iload 6, 2) := by decide +kernel
theorem dX1_readWork_62 : decode cX1_readWork 62 = .ok (.invokevirtual 92, 3) := by decide +kernel
theorem dX1_readWork_65 : decode cX1_readWork 65 = .ok (.aload_n 1, 1) := by decide +kernel
theorem dX1_readWork_66 : decode cX1_readWork 66 = .ok (.iconst 0, 1) := by decide +kernel
theorem dX1_readWork_67 : decode cX1_readWork 67 = .ok (.iload_n 2, 1) := by decide +kernel
theorem dX1_readWork_68 : decode cX1_readWork 68 = .ok (.iload 4, 2) := by decide +kernel
theorem dX1_readWork_70 : decode cX1_readWork 70 = .ok (.invokevirtual 96, 3) := by decide +kernel
theorem dX1_readWork_73 : decode cX1_readWork 73 = .ok (.aload_n 1, 1) := by decide +kernel
theorem dX1_readWork_74 : decode cX1_readWork 74 = .ok (.iconst 1, 1) := by decide +kernel
theorem dX1_readWork_75 : decode cX1_readWork 75 = .ok (.iload_n 2, 1) := by decide +kernel
theorem dX1_readWork_76 : decode cX1_readWork 76 = .ok (.iload 5, 2) := by decide +kernel
theorem dX1_readWork_78 : decode cX1_readWork 78 = .ok (.invokevirtual 96, 3) := by decide +kernel
theorem dX1_readWork_81 : decode cX1_readWork 81 = .ok (.return_, 1) := by decide +kernel
theorem dX1_readKind_0 : decode cX1_readKind 0 = .ok (.aload_n 0, 1) := by decide +kernel
theorem dX1_readKind_1 : decode cX1_readKind 1 = .ok (.getfield 14, 3) := by decide +kernel
theorem dX1_readKind_4 : decode cX1_readKind 4 = .ok (.invokevirtual 45, 3) := by decide +kernel
theorem dX1_readKind_7 : decode cX1_readKind 7 = .ok (.aload_n 0, 1) := by decide +kernel
theorem dX1_readKind_8 : decode cX1_readKind 8 = .ok (.iconst 0, 1) := by decide +kernel
theorem dX1_readKind_9 : decode cX1_readKind 9 = .ok (.aload_n 1, 1) := by decide +kernel
theorem dX1_readKind_10 : decode cX1_readKind 10 = .ok (.getfield 99, 3) := by decide +kernel
theorem dX1_readKind_13 : decode cX1_readKind 13 = .ok (.iconst 1, 1) := by decide +kernel
theorem dX1_readKind_14 : decode cX1_readKind 14 = .ok (.isub, 1) := by decide +kernel
theorem dX1_readKind_15 : decode cX1_readKind 15 = .ok (.invokevirtual 82, 3) := by decide +kernel
theorem dX1_readKind_18 : decode cX1_readKind 18 = .ok (.istore_n 2, 1) := by decide +kernel
theorem dX1_readKind_19 : decode cX1_readKind 19 = .ok (.aload_n 0, 1) := by decide +kernel
theorem dX1_readKind_20 : decode cX1_readKind 20 = .ok (.iconst 0, 1) := by decide +kernel
theorem dX1_readKind_21 : decode cX1_readKind 21 = .ok (.iconst 3, 1) := by decide +kernel
theorem dX1_readKind_22 : decode cX1_readKind 22 = .ok (.invokevirtual 82, 3) := by decide +kernel
theorem dX1_readKind_25 : decode cX1_readKind 25 = .ok (.istore_n 3, 1) := by decide +kernel
theorem dX1_readKind_26 : decode cX1_readKind 26 = .ok (.aload_n 0, 1) := by decide +kernel
theorem dX1_readKind_27 : decode cX1_readKind 27 = .ok (.getfield 20, 3) := by decide +kernel
theorem dX1_readKind_30 : decode cX1_readKind 30 = .ok (.iconst (-1), 1) := by decide +kernel
theorem dX1_readKind_31 : decode cX1_readKind 31 = .ok (.if_icmp .ne 9, 3) := by decide +kernel
theorem dX1_readKind_34 : decode cX1_readKind 34 = .ok (.aload_n 1, 1) := by decide +kernel
theorem dX1_readKind_35 : decode cX1_readKind 35 = .ok (.iload_n 2, 1) := by decide +kernel
theorem dX1_readKind_36 : decode cX1_readKind 36 = .ok (.iload_n 3, 1) := by decide +kernel
theorem dX1_readKind_37 : decode cX1_readKind 37 = .ok (.invokevirtual 102, 3) := by decide +kernel
theorem dX1_readKind_40 : decode cX1_readKind 40 = .ok (.return_, 1) := by decide +kernel
theorem dX1_readMeant_0 : decode cX1_readMeant 0 = .ok (.aload_n 0, 1) := by decide +kernel
theorem dX1_readMeant_1 : decode cX1_readMeant 1 = .ok (.getfield 14, 3) := by decide +kernel
theorem dX1_readMeant_4 : decode cX1_readMeant 4 = .ok (.invokevirtual 45, 3) := by decide +kernel
theorem dX1_readMeant_7 : decode cX1_readMeant 7 = .ok (.aload_n 0, 1) := by decide +kernel
theorem dX1_readMeant_8 : decode cX1_readMeant 8 = .ok (.iconst 0, 1) := by decide +kernel
theorem dX1_readMeant_9 : decode cX1_readMeant 9 = .ok (.iconst 1, 1) := by decide +kernel
theorem dX1_readMeant_10 : decode cX1_readMeant 10 = .ok (.invokevirtual 82, 3) := by decide +kernel
theorem dX1_readMeant_13 : decode cX1_readMeant 13 = .ok (.istore_n 2, 1) := by decide +kernel
theorem dX1_readMeant_14 : decode cX1_readMeant 14 = .ok (.aload_n 0, 1) := by decide +kernel
theorem dX1_readMeant_15 : decode cX1_readMeant 15 = .ok (.iconst 0, 1) := by decide +kernel
theorem dX1_readMeant_16 : decode cX1_readMeant 16 = .ok (.iconst 1, 1) := by decide +kernel
theorem dX1_readMeant_17 : decode cX1_readMeant 17 = .ok (.invokevirtual 82, 3) := by decide +kernel
theorem dX1_readMeant_20 : decode cX1_readMeant 20 = .ok (.istore_n 3, 1) := by decide +kernel
theorem dX1_readMeant_21 : decode cX1_readMeant 21 = .ok (.aload_n 0, 1) := by decide +kernel
theorem dX1_readMeant_22 : decode cX1_readMeant 22 = .ok (.iconst 0, 1) := by decide +kernel
theorem dX1_readMeant_23 : decode cX1_readMeant 23 = .ok (.aload_n 1, 1) := by decide +kernel
theorem dX1_readMeant_24 : decode cX1_readMeant 24 = .ok (.getfield 99, 3) := by decide +kernel
theorem dX1_readMeant_27 : decode cX1_readMeant 27 = .ok (.iconst 1, 1) := by decide +kernel
theorem dX1_readMeant_28 : decode cX1_readMeant 28 = .ok (.isub, 1) := by decide +kernel
theorem dX1_readMeant_29 : decode cX1_readMeant 29 = .ok (.invokevirtual 82, 3) := by decide +kernel
theorem dX1_readMeant_32 : decode cX1_readMeant 32 = .ok (.istore 4, 2) := by decide +kernel
theorem dX1_readMeant_34 : decode cX1_readMeant 34 = .ok (.aload_n 0, 1) := by decide +kernel
theorem dX1_readMeant_35 : decode cX1_readMeant 35 = .ok (.iconst 0, 1) := by decide +kernel
theorem dX1_readMeant_36 : decode cX1_readMeant 36 = .ok (.aload_n 1, 1) := by decide +kernel
theorem dX1_readMeant_37 : decode cX1_readMeant 37 = .ok (.getfield 105, 3) := by decide +kernel
theorem dX1_readMeant_40 : decode cX1_readMeant 40 = .ok (.iconst 1, 1) := by decide +kernel
theorem dX1_readMeant_41 : decode cX1_readMeant 41 = .ok (.isub, 1) := by decide +kernel
theorem dX1_readMeant_42 : decode cX1_readMeant 42 = .ok (.invokevirtual 82, 3) := by decide +kernel
theorem dX1_readMeant_45 : decode cX1_readMeant 45 = .ok (.istore 5, 2) := by decide +kernel
theorem dX1_readMeant_47 : decode cX1_readMeant 47 = .ok (.aload_n 0, 1) := by decide +kernel
theorem dX1_readMeant_48 : decode cX1_readMeant 48 = .ok (.getfield 14, 3) := by decide +kernel
theorem dX1_readMeant_51 : decode cX1_readMeant 51 = .ok (.getfield 42, 3) := by decide +kernel
theorem dX1_readMeant_54 : decode cX1_readMeant 54 = .ok (.istore 6, 2) := by decide +kernel
theorem dX1_readMeant_56 : decode cX1_readMeant 56 = .ok (.aload_n 0, 1) := by decide +kernel
theorem dX1_readMeant_57 : decode cX1_readMeant 57 = .ok (.iconst 0, 1) := by decide +kernel
theorem dX1_readMeant_58 : decode cX1_readMeant 58 = .ok (.iconst 5, 1) := by decide +kernel
theorem dX1_readMeant_59 : decode cX1_readMeant 59 = .ok (.invokevirtual 82, 3) := by decide +kernel
theorem dX1_readMeant_62 : decode cX1_readMeant 62 = .ok (.istore 7, 2) := by decide +kernel
theorem dX1_readMeant_64 : decode cX1_readMeant 64 = .ok (.aload_n 0, 1) := by decide +kernel
theorem dX1_readMeant_65 : decode cX1_readMeant 65 = .ok (.getfield 20, 3) := by decide +kernel
theorem dX1_readMeant_68 : decode cX1_readMeant 68 = .ok (.iconst (-1), 1) := by decide +kernel
theorem dX1_readMeant_69 : decode cX1_readMeant 69 = .ok (.if_icmp .eq 4, 3) := by decide +kernel
theorem dX1_readMeant_72 : decode cX1_readMeant 72 = .ok (.return_, 1) := by decide +kernel
theorem dX1_readMeant_73 : decode cX1_readMeant 73 = .ok (.aload_n 1, 1) := by decide +kernel
theorem dX1_readMeant_74 : decode cX1_readMeant 74 = .ok (.iload_n 3, 1) := by decide +kernel
theorem dX1_readMeant_75 : decode cX1_readMeant 75 = .ok (.iload 7, 2) := by decide +kernel
theorem dX1_readMeant_77 : decode cX1_readMeant 77 = .ok (.invokevirtual 108, 3) := by decide +kernel
theorem dX1_readMeant_80 : decode cX1_readMeant 80 = .ok (.ifCond .eq 21, 3) := by decide +kernel
theorem dX1_readMeant_83 : decode cX1_readMeant 83 = .ok (.aload_n 1, 1) := by decide +kernel
theorem dX1_readMeant_84 : decode cX1_readMeant 84 = .ok (.iload_n 2, 1) := by decide +kernel
theorem dX1_readMeant_85 : decode cX1_readMeant 85 = .ok (.iload_n 3, 1) := by decide +kernel
theorem dX1_readMeant_86 : decode cX1_readMeant 86 = .ok (.iload 4, 2) := by decide +kernel
theorem dX1_readMeant_88 : decode cX1_readMeant 88 = .ok (.iload 5, 2) := by decide +kernel
theorem dX1_readMeant_90 : decode cX1_readMeant 90 = .ok (.invokestatic 112, 3) := by decide +kernel
theorem dX1_readMeant_93 : decode cX1_readMeant 93 = .ok (.iload 7, 2) := by decide +kernel
theorem dX1_readMeant_95 : decode cX1_readMeant 95 = .ok (.invokevirtual 116, 3) := by decide +kernel
theorem dX1_readMeant_98 : decode cX1_readMeant 98 = .ok (.goto 9, 3) := by decide +kernel
theorem dX1_readMeant_101 : decode cX1_readMeant 101 = .ok (.aload_n 0, 1) := by decide +kernel
theorem dX1_readMeant_102 : decode cX1_readMeant 102 = .ok (.iload 6, 2) := by decide +kernel
theorem dX1_readMeant_104 : decode cX1_readMeant 104 = .ok (.putfield 20, 3) := by decide +kernel
theorem dX1_readMeant_107 : decode cX1_readMeant 107 = .ok (.return_, 1) := by decide +kernel
theorem dX1_readEats_0 : decode cX1_readEats 0 = .ok (.aload_n 0, 1) := by decide +kernel
theorem dX1_readEats_1 : decode cX1_readEats 1 = .ok (.getfield 14, 3) := by decide +kernel
theorem dX1_readEats_4 : decode cX1_readEats 4 = .ok (.invokevirtual 45, 3) := by decide +kernel
theorem dX1_readEats_7 : decode cX1_readEats 7 = .ok (.aload_n 0, 1) := by decide +kernel
theorem dX1_readEats_8 : decode cX1_readEats 8 = .ok (.iconst 0, 1) := by decide +kernel
theorem dX1_readEats_9 : decode cX1_readEats 9 = .ok (.bipush 20, 2) := by decide +kernel
theorem dX1_readEats_11 : decode cX1_readEats 11 = .ok (.invokevirtual 82, 3) := by decide +kernel
theorem dX1_readEats_14 : decode cX1_readEats 14 = .ok (.istore_n 2, 1) := by decide +kernel
theorem dX1_readEats_15 : decode cX1_readEats 15 = .ok (.aload_n 0, 1) := by decide +kernel
theorem dX1_readEats_16 : decode cX1_readEats 16 = .ok (.getfield 20, 3) := by decide +kernel
theorem dX1_readEats_19 : decode cX1_readEats 19 = .ok (.iconst (-1), 1) := by decide +kernel
theorem dX1_readEats_20 : decode cX1_readEats 20 = .ok (.if_icmp .ne 8, 3) := by decide +kernel
theorem dX1_readEats_23 : decode cX1_readEats 23 = .ok (.aload_n 1, 1) := by decide +kernel
theorem dX1_readEats_24 : decode cX1_readEats 24 = .ok (.iload_n 2, 1) := by decide +kernel
theorem dX1_readEats_25 : decode cX1_readEats 25 = .ok (.putfield 119, 3) := by decide +kernel
theorem dX1_readEats_28 : decode cX1_readEats 28 = .ok (.return_, 1) := by decide +kernel
theorem dX1_readFine_0 : decode cX1_readFine 0 = .ok (.aload_n 0, 1) := by decide +kernel
theorem dX1_readFine_1 : decode cX1_readFine 1 = .ok (.getfield 14, 3) := by decide +kernel
theorem dX1_readFine_4 : decode cX1_readFine 4 = .ok (.invokevirtual 45, 3) := by decide +kernel
theorem dX1_readFine_7 : decode cX1_readFine 7 = .ok (.aload_n 0, 1) := by decide +kernel
theorem dX1_readFine_8 : decode cX1_readFine 8 = .ok (.iconst 0, 1) := by decide +kernel
theorem dX1_readFine_9 : decode cX1_readFine 9 = .ok (.bipush 99, 2) := by decide +kernel
theorem dX1_readFine_11 : decode cX1_readFine 11 = .ok (.invokevirtual 82, 3) := by decide +kernel
theorem dX1_readFine_14 : decode cX1_readFine 14 = .ok (.istore_n 2, 1) := by decide +kernel
theorem dX1_readFine_15 : decode cX1_readFine 15 = .ok (.aload_n 0, 1) := by decide +kernel
theorem dX1_readFine_16 : decode cX1_readFine 16 = .ok (.getfield 20, 3) := by decide +kernel
theorem dX1_readFine_19 : decode cX1_readFine 19 = .ok (.iconst (-1), 1) := by decide +kernel
theorem dX1_readFine_20 : decode cX1_readFine 20 = .ok (.if_icmp .ne 8, 3) := by decide +kernel
theorem dX1_readFine_23 : decode cX1_readFine 23 = .ok (.aload_n 1, 1) := by decide +kernel
theorem dX1_readFine_24 : decode cX1_readFine 24 = .ok (.iload_n 2, 1) := by decide +kernel
theorem dX1_readFine_25 : decode cX1_readFine 25 = .ok (.putfield 121, 3) := by decide +kernel
theorem dX1_readFine_28 : decode cX1_readFine 28 = .ok (.return_, 1) := by decide +kernel
theorem dX1_takeNumber_0 : decode cX1_takeNumber 0 = .ok (.aload_n 0, 1) := by decide +kernel
theorem dX1_takeNumber_1 : decode cX1_takeNumber 1 = .ok (.getfield 20, 3) := by decide +kernel
theorem dX1_takeNumber_4 : decode cX1_takeNumber 4 = .ok (.iconst (-1), 1) := by decide +kernel
theorem dX1_takeNumber_5 : decode cX1_takeNumber 5 = .ok (.if_icmp .eq 5, 3) := by decide +kernel
theorem dX1_takeNumber_8 : decode cX1_takeNumber 8 = .ok (.iconst (-1), 1) := by decide +kernel
theorem dX1_takeNumber_9 : decode cX1_takeNumber 9 = .ok (.ireturn, 1) := by decide +kernel
theorem dX1_takeNumber_10 : decode cX1_takeNumber 10 = .ok (.aload_n 0, 1) := by decide +kernel
theorem dX1_takeNumber_11 : decode cX1_takeNumber 11 = .ok (.getfield 14, 3) := by decide +kernel
theorem dX1_takeNumber_14 : decode cX1_takeNumber 14 = .ok (.invokevirtual 123, 3) := by decide +kernel
theorem dX1_takeNumber_17 : decode cX1_takeNumber 17 = .ok (.istore_n 3, 1) := by decide +kernel
theorem dX1_takeNumber_18 : decode cX1_takeNumber 18 = .ok (.iload_n 3, 1) := by decide +kernel
theorem dX1_takeNumber_19 : decode cX1_takeNumber 19 = .ok (.iload_n 1, 1) := by decide +kernel
theorem dX1_takeNumber_20 : decode cX1_takeNumber 20 = .ok (.iload_n 2, 1) := by decide +kernel
theorem dX1_takeNumber_21 : decode cX1_takeNumber 21 = .ok (.invokestatic 127, 3) := by decide +kernel
theorem dX1_takeNumber_24 : decode cX1_takeNumber 24 = .ok (.ifCond .eq 13, 3) := by decide +kernel
theorem dX1_takeNumber_27 : decode cX1_takeNumber 27 = .ok (.aload_n 0, 1) := by decide +kernel
theorem dX1_takeNumber_28 : decode cX1_takeNumber 28 = .ok (.getfield 14, 3) := by decide +kernel
theorem dX1_takeNumber_31 : decode cX1_takeNumber 31 = .ok (.invokevirtual 45, 3) := by decide +kernel
theorem dX1_takeNumber_34 : decode cX1_takeNumber 34 = .ok (.goto 14, 3) := by decide +kernel
theorem dX1_takeNumber_37 : decode cX1_takeNumber 37 = .ok (.aload_n 0, 1) := by decide +kernel
theorem dX1_takeNumber_38 : decode cX1_takeNumber 38 = .ok (.aload_n 0, 1) := by decide +kernel
theorem dX1_takeNumber_39 : decode cX1_takeNumber 39 = .ok (.getfield 14, 3) := by decide +kernel
theorem dX1_takeNumber_42 : decode cX1_takeNumber 42 = .ok (.getfield 42, 3) := by decide +kernel
theorem dX1_takeNumber_45 : decode cX1_takeNumber 45 = .ok (.putfield 20, 3) := by decide +kernel
theorem dX1_takeNumber_48 : decode cX1_takeNumber 48 = .ok (.iload_n 3, 1) := by decide +kernel
theorem dX1_takeNumber_49 : decode cX1_takeNumber 49 = .ok (.ireturn, 1) := by decide +kernel
theorem dX2_init_0 : decode cX2_init 0 = .ok (.aload_n 0, 1) := by decide +kernel
theorem dX2_init_1 : decode cX2_init 1 = .ok (.invokespecial 3, 3) := by decide +kernel
theorem dX2_init_4 : decode cX2_init 4 = .ok (.aload_n 0, 1) := by decide +kernel
theorem dX2_init_5 : decode cX2_init 5 = .ok (.bipush 72, 2) := by decide +kernel
theorem dX2_init_7 : decode cX2_init 7 = .ok (.newarray .int, 2) := by decide +kernel
theorem dX2_init_9 : decode cX2_init 9 = .ok (.putfield 9, 3) := by decide +kernel
theorem dX2_init_12 : decode cX2_init 12 = .ok (.aload_n 0, 1) := by decide +kernel
theorem dX2_init_13 : decode cX2_init 13 = .ok (.bipush 64, 2) := by decide +kernel
theorem dX2_init_15 : decode cX2_init 15 = .ok (.newarray .int, 2) := by decide +kernel
theorem dX2_init_17 : decode cX2_init 17 = .ok (.putfield 15, 3) := by decide +kernel
theorem dX2_init_20 : decode cX2_init 20 = .ok (.return_, 1) := by decide +kernel
theorem dX2_indexOf_0 : decode cX2_indexOf 0 = .ok (.iload_n 0, 1) := by decide +kernel
theorem dX2_indexOf_1 : decode cX2_indexOf 1 = .ok (.bipush 6, 2) := by decide +kernel
theorem dX2_indexOf_3 : decode cX2_indexOf 3 = .ok (.imul, 1) := by decide +kernel
theorem dX2_indexOf_4 : decode cX2_indexOf 4 = .ok (.iload_n 1, 1) := by decide +kernel
theorem dX2_indexOf_5 : decode cX2_indexOf 5 = .ok (.iload_n 2, 1) := by decide +kernel
theorem dX2_indexOf_6 : decode cX2_indexOf 6 = .ok (.invokestatic 18, 3) := by decide +kernel
theorem dX2_indexOf_9 : decode cX2_indexOf 9 = .ok (.iadd, 1) := by decide +kernel
theorem dX2_indexOf_10 : decode cX2_indexOf 10 = .ok (.bipush 6, 2) := by decide +kernel
theorem dX2_indexOf_12 : decode cX2_indexOf 12 = .ok (.imul, 1) := by decide +kernel
theorem dX2_indexOf_13 : decode cX2_indexOf 13 = .ok (.iload_n 1, 1) := by decide +kernel
theorem dX2_indexOf_14 : decode cX2_indexOf 14 = .ok (.iload_n 2, 1) := by decide +kernel
theorem dX2_indexOf_15 : decode cX2_indexOf 15 = .ok (.invokestatic 24, 3) := by decide +kernel
theorem dX2_indexOf_18 : decode cX2_indexOf 18 = .ok (.iadd, 1) := by decide +kernel
theorem dX2_indexOf_19 : decode cX2_indexOf 19 = .ok (.ireturn, 1) := by decide +kernel
theorem dX2_changeLiking_0 : decode cX2_changeLiking 0 = .ok (.iload_n 1, 1) := by decide +kernel
theorem dX2_changeLiking_1 : decode cX2_changeLiking 1 = .ok (.iload_n 2, 1) := by decide +kernel
theorem dX2_changeLiking_2 : decode cX2_changeLiking 2 = .ok (.iload_n 3, 1) := by decide +kernel
theorem dX2_changeLiking_3 : decode cX2_changeLiking 3 = .ok (.invokestatic 27, 3) := by decide +kernel
theorem dX2_changeLiking_6 : decode cX2_changeLiking 6 = .ok (.istore 5, 2) := by decide +kernel
theorem dX2_changeLiking_8 : decode cX2_changeLiking 8 = .ok (.iload 5, 2) := by decide +kernel
theorem dX2_changeLiking_10 : decode cX2_changeLiking 10 = .ok (.iconst 0, 1) := by decide +kernel
theorem dX2_changeLiking_11 : decode cX2_changeLiking 11 = .ok (.aload_n 0, 1) := by decide +kernel
theorem dX2_changeLiking_12 : decode cX2_changeLiking 12 = .ok (.getfield 9, 3) := by decide +kernel
theorem dX2_changeLiking_15 : decode cX2_changeLiking 15 = .ok (.arraylength, 1) := by decide +kernel
theorem dX2_changeLiking_16 : decode cX2_changeLiking 16 = .ok (.iconst 1, 1) := by decide +kernel
theorem dX2_changeLiking_17 : decode cX2_changeLiking 17 = .ok (.isub, 1) := by decide +kernel
theorem dX2_changeLiking_18 : decode cX2_changeLiking 18 = .ok (.invokestatic 31, 3) := by decide +kernel
theorem dX2_changeLiking_21 : decode cX2_changeLiking 21 = .ok (.ifCond .ne 5, 3) := by decide +kernel
theorem dX2_changeLiking_24 : decode cX2_changeLiking 24 = .ok (.iconst 0, 1) := by decide +kernel
theorem dX2_changeLiking_25 : decode cX2_changeLiking 25 = .ok (.ireturn, 1) := by decide +kernel
theorem dX2_changeLiking_26 : decode cX2_changeLiking 26 = .ok (.aload_n 0, 1) := by decide +kernel
theorem dX2_changeLiking_27 : decode cX2_changeLiking 27 = .ok (.getfield 9, 3) := by decide +kernel
theorem dX2_changeLiking_30 : decode cX2_changeLiking 30 = .ok (.iload 5, 2) := by decide +kernel
theorem dX2_changeLiking_32 : decode cX2_changeLiking 32 = .ok (.iaload, 1) := by decide +kernel
theorem dX2_changeLiking_33 : decode cX2_changeLiking 33 = .ok (.istore 6, 2) := by decide +kernel
theorem dX2_changeLiking_35 : decode cX2_changeLiking 35 = .ok (.aload_n 0, 1) := by decide +kernel
theorem dX2_changeLiking_36 : decode cX2_changeLiking 36 = .ok (.getfield 9, 3) := by decide +kernel
theorem dX2_changeLiking_39 : decode cX2_changeLiking 39 = .ok (.iload 5, 2) := by decide +kernel
theorem dX2_changeLiking_41 : decode cX2_changeLiking 41 = .ok (.iload 4, 2) := by decide +kernel
theorem dX2_changeLiking_43 : decode cX2_changeLiking 43 = .ok (.iastore, 1) := by decide +kernel
theorem dX2_changeLiking_44 : decode cX2_changeLiking 44 = .ok (.iload 6, 2) := by decide +kernel
theorem dX2_changeLiking_46 : decode cX2_changeLiking 46 = .ok (.ireturn, 1) := by decide +kernel
theorem dX2_greatestSum_0 : decode cX2_greatestSum 0 = .ok (.aload_n 0, 1) := by decide +kernel
theorem dX2_greatestSum_1 : decode cX2_greatestSum 1 = .ok (.iload_n 1, 1) := by decide +kernel
theorem dX2_greatestSum_2 : decode cX2_greatestSum 2 = .ok (.invokevirtual 35, 3) := by decide +kernel
theorem dX2_greatestSum_5 : decode cX2_greatestSum 5 = .ok (.iconst 4, 1) := by decide +kernel
theorem dX2_greatestSum_6 : decode cX2_greatestSum 6 = .ok (.idiv, 1) := by decide +kernel
theorem dX2_greatestSum_7 : decode cX2_greatestSum 7 = .ok (.ireturn, 1) := by decide +kernel
theorem dX2_mostFours_0 : decode cX2_mostFours 0 = .ok (.aload_n 0, 1) := by decide +kernel
theorem dX2_mostFours_1 : decode cX2_mostFours 1 = .ok (.iload_n 1, 1) := by decide +kernel
theorem dX2_mostFours_2 : decode cX2_mostFours 2 = .ok (.invokevirtual 35, 3) := by decide +kernel
theorem dX2_mostFours_5 : decode cX2_mostFours 5 = .ok (.iconst 4, 1) := by decide +kernel
theorem dX2_mostFours_6 : decode cX2_mostFours 6 = .ok (.irem, 1) := by decide +kernel
theorem dX2_mostFours_7 : decode cX2_mostFours 7 = .ok (.ireturn, 1) := by decide +kernel
theorem dX2_greatestOf_0 : decode cX2_greatestOf 0 = .ok (.iconst 1, 1) := by decide +kernel
theorem dX2_greatestOf_1 : decode cX2_greatestOf 1 = .ok (.iload_n 1, 1) := by decide +kernel
theorem dX2_greatestOf_2 : decode cX2_greatestOf 2 = .ok (.ishl, 1) := by decide +kernel
theorem dX2_greatestOf_3 : decode cX2_greatestOf 3 = .ok (.bipush 64, 2) := by decide +kernel
theorem dX2_greatestOf_5 : decode cX2_greatestOf 5 = .ok (.invokestatic 18, 3) := by decide +kernel
theorem dX2_greatestOf_8 : decode cX2_greatestOf 8 = .ok (.iconst 1, 1) := by decide +kernel
theorem dX2_greatestOf_9 : decode cX2_greatestOf 9 = .ok (.isub, 1) := by decide +kernel
theorem dX2_greatestOf_10 : decode cX2_greatestOf 10 = .ok (.istore_n 2, 1) := by decide +kernel
theorem dX2_greatestOf_11 : decode cX2_greatestOf 11 = .ok (.aload_n 0, 1) := by decide +kernel
theorem dX2_greatestOf_12 : decode cX2_greatestOf 12 = .ok (.getfield 15, 3) := by decide +kernel
theorem dX2_greatestOf_15 : decode cX2_greatestOf 15 = .ok (.iconst 0, 1) := by decide +kernel
theorem dX2_greatestOf_16 : decode cX2_greatestOf 16 = .ok (.iconst 0, 1) := by decide +kernel
theorem dX2_greatestOf_17 : decode cX2_greatestOf 17 = .ok (.iastore, 1) := by decide +kernel
theorem dX2_greatestOf_18 : decode cX2_greatestOf 18 = .ok (.iconst 1, 1) := by decide +kernel
theorem dX2_greatestOf_19 : decode cX2_greatestOf 19 = .ok (.istore_n 3, 1) := by decide +kernel
theorem dX2_greatestOf_20 : decode cX2_greatestOf 20 = .ok (.iload_n 3, 1) := by decide +kernel
theorem dX2_greatestOf_21 : decode cX2_greatestOf 21 = .ok (.iload_n 2, 1) := by decide +kernel
theorem dX2_greatestOf_22 : decode cX2_greatestOf 22 = .ok (.if_icmp .gt 21, 3) := by decide +kernel
theorem dX2_greatestOf_25 : decode cX2_greatestOf 25 = .ok (.aload_n 0, 1) := by decide +kernel
theorem dX2_greatestOf_26 : decode cX2_greatestOf 26 = .ok (.getfield 15, 3) := by decide +kernel
theorem dX2_greatestOf_29 : decode cX2_greatestOf 29 = .ok (.iload_n 3, 1) := by decide +kernel
theorem dX2_greatestOf_30 : decode cX2_greatestOf 30 = .ok (.aload_n 0, 1) := by decide +kernel
theorem dX2_greatestOf_31 : decode cX2_greatestOf 31 = .ok (.iload_n 3, 1) := by decide +kernel
theorem dX2_greatestOf_32 : decode cX2_greatestOf 32 = .ok (.iload_n 1, 1) := by decide +kernel
theorem dX2_greatestOf_33 : decode cX2_greatestOf 33 = .ok (.invokevirtual 39, 3) := by decide +kernel
theorem dX2_greatestOf_36 : decode cX2_greatestOf 36 = .ok (.iastore, 1) := by decide +kernel
theorem dX2_greatestOf_37 : decode cX2_greatestOf 37 = .ok (.iinc 3 1, 3) := by decide +kernel
theorem dX2_greatestOf_40 : decode cX2_greatestOf 40 = .ok (.goto (-20), 3) := by decide +kernel
theorem dX2_greatestOf_43 : decode cX2_greatestOf 43 = .ok (.iload_n 2, 1) := by decide +kernel
theorem dX2_greatestOf_44 : decode cX2_greatestOf 44 = .ok (.ifCond .lt 12, 3) := by decide +kernel
theorem dX2_greatestOf_47 : decode cX2_greatestOf 47 = .ok (.aload_n 0, 1) := by decide +kernel
theorem dX2_greatestOf_48 : decode cX2_greatestOf 48 = .ok (.getfield 15, 3) := by decide +kernel
theorem dX2_greatestOf_51 : decode cX2_greatestOf 51 = .ok (.iload_n 2, 1) := by decide +kernel
theorem dX2_greatestOf_52 : decode cX2_greatestOf 52 = .ok (.iaload, 1) := by decide +kernel
theorem dX2_greatestOf_53 : decode cX2_greatestOf 53 = .ok (.goto 4, 3) := by decide +kernel
theorem dX2_greatestOf_56 : decode cX2_greatestOf 56 = .ok (.iconst 0, 1) := by decide +kernel
theorem dX2_greatestOf_57 : decode cX2_greatestOf 57 = .ok (.ireturn, 1) := by decide +kernel
theorem dX2_greatestOfSet_0 : decode cX2_greatestOfSet 0 = .ok (.iload_n 1, 1) := by decide +kernel
theorem dX2_greatestOfSet_1 : decode cX2_greatestOfSet 1 = .ok (.iload_n 1, 1) := by decide +kernel
theorem dX2_greatestOfSet_2 : decode cX2_greatestOfSet 2 = .ok (.iconst 1, 1) := by decide +kernel
theorem dX2_greatestOfSet_3 : decode cX2_greatestOfSet 3 = .ok (.isub, 1) := by decide +kernel
theorem dX2_greatestOfSet_4 : decode cX2_greatestOfSet 4 = .ok (.iand, 1) := by decide +kernel
theorem dX2_greatestOfSet_5 : decode cX2_greatestOfSet 5 = .ok (.istore_n 3, 1) := by decide +kernel
theorem dX2_greatestOfSet_6 : decode cX2_greatestOfSet 6 = .ok (.iload_n 1, 1) := by decide +kernel
theorem dX2_greatestOfSet_7 : decode cX2_greatestOfSet 7 = .ok (.iload_n 1, 1) := by decide +kernel
theorem dX2_greatestOfSet_8 : decode cX2_greatestOfSet 8 = .ok (.ineg, 1) := by decide +kernel
theorem dX2_greatestOfSet_9 : decode cX2_greatestOfSet 9 = .ok (.iand, 1) := by decide +kernel
theorem dX2_greatestOfSet_10 : decode cX2_greatestOfSet 10 = .ok (.iconst 1, 1) := by decide +kernel
theorem dX2_greatestOfSet_11 : decode cX2_greatestOfSet 11 = .ok (.isub, 1) := by decide +kernel
theorem dX2_greatestOfSet_12 : decode cX2_greatestOfSet 12 = .ok (.invokestatic 42, 3) := by decide +kernel
theorem dX2_greatestOfSet_15 : decode cX2_greatestOfSet 15 = .ok (.istore 4, 2) := by decide +kernel
theorem dX2_greatestOfSet_17 : decode cX2_greatestOfSet 17 = .ok (.aload_n 0, 1) := by decide +kernel
theorem dX2_greatestOfSet_18 : decode cX2_greatestOfSet 18 = .ok (.getfield 15, 3) := by decide +kernel
theorem dX2_greatestOfSet_21 : decode cX2_greatestOfSet 21 = .ok (.iload_n 3, 1) := by decide +kernel
theorem dX2_greatestOfSet_22 : decode cX2_greatestOfSet 22 = .ok (.iaload, 1) := by decide +kernel
theorem dX2_greatestOfSet_23 : decode cX2_greatestOfSet 23 = .ok (.istore 5, 2) := by decide +kernel
theorem dX2_greatestOfSet_25 : decode cX2_greatestOfSet 25 = .ok (.iconst 0, 1) := by decide +kernel
theorem dX2_greatestOfSet_26 : decode cX2_greatestOfSet 26 = .ok (.istore 6, 2) := by decide +kernel
theorem dX2_greatestOfSet_28 : decode cX2_greatestOfSet 28 = .ok (.iload 6, 2) := by decide +kernel
theorem dX2_greatestOfSet_30 : decode cX2_greatestOfSet 30 = .ok (.iload_n 2, 1) := by decide +kernel
theorem dX2_greatestOfSet_31 : decode cX2_greatestOfSet 31 = .ok (.if_icmp .ge 48, 3) := by decide +kernel
theorem dX2_greatestOfSet_34 : decode cX2_greatestOfSet 34 = .ok (.iload_n 3, 1) := by decide +kernel
theorem dX2_greatestOfSet_35 : decode cX2_greatestOfSet 35 = .ok (.iconst 1, 1) := by decide +kernel
theorem dX2_greatestOfSet_36 : decode cX2_greatestOfSet 36 = .ok (.iload 6, 2) := by decide +kernel
theorem dX2_greatestOfSet_38 : decode cX2_greatestOfSet 38 = .ok (.ishl, 1) := by decide +kernel
theorem dX2_greatestOfSet_39 : decode cX2_greatestOfSet 39 = .ok (.iconst (-1), 1) := by decide +kernel
theorem dX2_greatestOfSet_40 : decode cX2_greatestOfSet 40 = .ok (.ixor, 1) := by decide +kernel
theorem dX2_greatestOfSet_41 : decode cX2_greatestOfSet 41 = .ok (.iand, 1) := by decide +kernel
theorem dX2_greatestOfSet_42 : decode cX2_greatestOfSet 42 = .ok (.istore 7, 2) := by decide +kernel
theorem dX2_greatestOfSet_44 : decode cX2_greatestOfSet 44 = .ok (.iload 7, 2) := by decide +kernel
theorem dX2_greatestOfSet_46 : decode cX2_greatestOfSet 46 = .ok (.iload_n 3, 1) := by decide +kernel
theorem dX2_greatestOfSet_47 : decode cX2_greatestOfSet 47 = .ok (.if_icmp .eq 26, 3) := by decide +kernel
theorem dX2_greatestOfSet_50 : decode cX2_greatestOfSet 50 = .ok (.iload 5, 2) := by decide +kernel
theorem dX2_greatestOfSet_52 : decode cX2_greatestOfSet 52 = .ok (.aload_n 0, 1) := by decide +kernel
theorem dX2_greatestOfSet_53 : decode cX2_greatestOfSet 53 = .ok (.getfield 15, 3) := by decide +kernel
theorem dX2_greatestOfSet_56 : decode cX2_greatestOfSet 56 = .ok (.iload 7, 2) := by decide +kernel
theorem dX2_greatestOfSet_58 : decode cX2_greatestOfSet 58 = .ok (.iaload, 1) := by decide +kernel
theorem dX2_greatestOfSet_59 : decode cX2_greatestOfSet 59 = .ok (.aload_n 0, 1) := by decide +kernel
theorem dX2_greatestOfSet_60 : decode cX2_greatestOfSet 60 = .ok (.iload 4, 2) := by decide +kernel
theorem dX2_greatestOfSet_62 : decode cX2_greatestOfSet 62 = .ok (.iload 6, 2) := by decide +kernel
theorem dX2_greatestOfSet_64 : decode cX2_greatestOfSet 64 = .ok (.invokevirtual 47, 3) := by decide +kernel
theorem dX2_greatestOfSet_67 : decode cX2_greatestOfSet 67 = .ok (.iadd, 1) := by decide +kernel
theorem dX2_greatestOfSet_68 : decode cX2_greatestOfSet 68 = .ok (.invokestatic 24, 3) := by decide +kernel
theorem dX2_greatestOfSet_71 : decode cX2_greatestOfSet 71 = .ok (.istore 5, 2) := by decide +kernel
theorem dX2_greatestOfSet_73 : decode cX2_greatestOfSet 73 = .ok (.iinc 6 1, 3) := by decide +kernel
theorem dX2_greatestOfSet_76 : decode cX2_greatestOfSet 76 = .ok (.goto (-48), 3) := by decide +kernel
theorem dX2_greatestOfSet_79 : decode cX2_greatestOfSet 79 = .ok (.iload 5, 2) := by decide +kernel
theorem dX2_greatestOfSet_81 : decode cX2_greatestOfSet 81 = .ok (.ireturn, 1) := by decide +kernel
theorem dX2_valueOf_0 : decode cX2_valueOf 0 = .ok (.iconst 0, 1) := by decide +kernel
theorem dX2_valueOf_1 : decode cX2_valueOf 1 = .ok (.iload_n 1, 1) := by decide +kernel
theorem dX2_valueOf_2 : decode cX2_valueOf 2 = .ok (.iload_n 2, 1) := by decide +kernel
theorem dX2_valueOf_3 : decode cX2_valueOf 3 = .ok (.invokestatic 27, 3) := by decide +kernel
theorem dX2_valueOf_6 : decode cX2_valueOf 6 = .ok (.istore_n 3, 1) := by decide +kernel
theorem dX2_valueOf_7 : decode cX2_valueOf 7 = .ok (.iconst 1, 1) := by decide +kernel
theorem dX2_valueOf_8 : decode cX2_valueOf 8 = .ok (.iload_n 1, 1) := by decide +kernel
theorem dX2_valueOf_9 : decode cX2_valueOf 9 = .ok (.iload_n 2, 1) := by decide +kernel
theorem dX2_valueOf_10 : decode cX2_valueOf 10 = .ok (.invokestatic 27, 3) := by decide +kernel
theorem dX2_valueOf_13 : decode cX2_valueOf 13 = .ok (.istore 4, 2) := by decide +kernel
theorem dX2_valueOf_15 : decode cX2_valueOf 15 = .ok (.iload_n 3, 1) := by decide +kernel
theorem dX2_valueOf_16 : decode cX2_valueOf 16 = .ok (.iconst 0, 1) := by decide +kernel
theorem dX2_valueOf_17 : decode cX2_valueOf 17 = .ok (.aload_n 0, 1) := by decide +kernel
theorem dX2_valueOf_18 : decode cX2_valueOf 18 = .ok (.getfield 9, 3) := by decide +kernel
theorem dX2_valueOf_21 : decode cX2_valueOf 21 = .ok (.arraylength, 1) := by decide +kernel
theorem dX2_valueOf_22 : decode cX2_valueOf 22 = .ok (.iconst 1, 1) := by decide +kernel
theorem dX2_valueOf_23 : decode cX2_valueOf 23 = .ok (.isub, 1) := by decide +kernel
theorem dX2_valueOf_24 : decode cX2_valueOf 24 = .ok (.invokestatic 31, 3) := by decide +kernel
theorem dX2_valueOf_27 : decode cX2_valueOf 27 = .ok (.ifCond .eq 23, 3) := by decide +kernel
theorem dX2_valueOf_30 : decode cX2_valueOf 30 = .ok (.iload 4, 2) := by decide +kernel
theorem dX2_valueOf_32 : decode cX2_valueOf 32 = .ok (.iconst 0, 1) := by decide +kernel
theorem dX2_valueOf_33 : decode cX2_valueOf 33 = .ok (.aload_n 0, 1) := by decide +kernel
theorem dX2_valueOf_34 : decode cX2_valueOf 34 = .ok (.getfield 9, 3) := by decide +kernel
theorem dX2_valueOf_37 : decode cX2_valueOf 37 = .ok (.arraylength, 1) := by decide +kernel
theorem dX2_valueOf_38 : decode cX2_valueOf 38 = .ok (.iconst 1, 1) := by decide +kernel
theorem dX2_valueOf_39 : decode cX2_valueOf 39 = .ok (.isub, 1) := by decide +kernel
theorem dX2_valueOf_40 : decode cX2_valueOf 40 = .ok (.invokestatic 31, 3) := by decide +kernel
theorem dX2_valueOf_43 : decode cX2_valueOf 43 = .ok (.ifCond .eq 7, 3) := by decide +kernel
theorem dX2_valueOf_46 : decode cX2_valueOf 46 = .ok (.iconst 1, 1) := by decide +kernel
theorem dX2_valueOf_47 : decode cX2_valueOf 47 = .ok (.goto 4, 3) := by decide +kernel
theorem dX2_valueOf_50 : decode cX2_valueOf 50 = .ok (.iconst 0, 1) := by decide +kernel
theorem dX2_valueOf_51 : decode cX2_valueOf 51 = .ok (.istore 5, 2) := by decide +kernel
theorem dX2_valueOf_53 : decode cX2_valueOf 53 = .ok (.iload 5, 2) := by decide +kernel
theorem dX2_valueOf_55 : decode cX2_valueOf 55 = .ok (.ifCond .eq 26, 3) := by decide +kernel
theorem dX2_valueOf_58 : decode cX2_valueOf 58 = .ok (.aload_n 0, 1) := by decide +kernel
theorem dX2_valueOf_59 : decode cX2_valueOf 59 = .ok (.getfield 9, 3) := by decide +kernel
theorem dX2_valueOf_62 : decode cX2_valueOf 62 = .ok (.iload_n 3, 1) := by decide +kernel
theorem dX2_valueOf_63 : decode cX2_valueOf 63 = .ok (.iaload, 1) := by decide +kernel
theorem dX2_valueOf_64 : decode cX2_valueOf 64 = .ok (.aload_n 0, 1) := by decide +kernel
theorem dX2_valueOf_65 : decode cX2_valueOf 65 = .ok (.getfield 9, 3) := by decide +kernel
theorem dX2_valueOf_68 : decode cX2_valueOf 68 = .ok (.iload 4, 2) := by decide +kernel
theorem dX2_valueOf_70 : decode cX2_valueOf 70 = .ok (.iaload, 1) := by decide +kernel
theorem dX2_valueOf_71 : decode cX2_valueOf 71 = .ok (.invokestatic 18, 3) := by decide +kernel
theorem dX2_valueOf_74 : decode cX2_valueOf 74 = .ok (.iconst 4, 1) := by decide +kernel
theorem dX2_valueOf_75 : decode cX2_valueOf 75 = .ok (.imul, 1) := by decide +kernel
theorem dX2_valueOf_76 : decode cX2_valueOf 76 = .ok (.iconst 1, 1) := by decide +kernel
theorem dX2_valueOf_77 : decode cX2_valueOf 77 = .ok (.iadd, 1) := by decide +kernel
theorem dX2_valueOf_78 : decode cX2_valueOf 78 = .ok (.goto 4, 3) := by decide +kernel
theorem dX2_valueOf_81 : decode cX2_valueOf 81 = .ok (.iconst 1, 1) := by decide +kernel
theorem dX2_valueOf_82 : decode cX2_valueOf 82 = .ok (.ireturn, 1) := by decide +kernel
theorem dX3_init_0 : decode cX3_init 0 = .ok (.aload_n 0, 1) := by decide +kernel
theorem dX3_init_1 : decode cX3_init 1 = .ok (.invokespecial 3, 3) := by decide +kernel
theorem dX3_init_4 : decode cX3_init 4 = .ok (.aload_n 0, 1) := by decide +kernel
theorem dX3_init_5 : decode cX3_init 5 = .ok (.iconst 4, 1) := by decide +kernel
theorem dX3_init_6 : decode cX3_init 6 = .ok (.newarray .int, 2) := by decide +kernel
theorem dX3_init_8 : decode cX3_init 8 = .ok (.putfield 9, 3) := by decide +kernel
theorem dX3_init_11 : decode cX3_init 11 = .ok (.return_, 1) := by decide +kernel
theorem dX3_classIn_0 : decode cX3_classIn 0 = .ok (.iload_n 0, 1) := by decide +kernel
theorem dX3_classIn_1 : decode cX3_classIn 1 = .ok (.iconst 2, 1) := by decide +kernel
theorem dX3_classIn_2 : decode cX3_classIn 2 = .ok (.iload_n 1, 1) := by decide +kernel
theorem dX3_classIn_3 : decode cX3_classIn 3 = .ok (.imul, 1) := by decide +kernel
theorem dX3_classIn_4 : decode cX3_classIn 4 = .ok (.ishr, 1) := by decide +kernel
theorem dX3_classIn_5 : decode cX3_classIn 5 = .ok (.iconst 3, 1) := by decide +kernel
theorem dX3_classIn_6 : decode cX3_classIn 6 = .ok (.iand, 1) := by decide +kernel
theorem dX3_classIn_7 : decode cX3_classIn 7 = .ok (.ireturn, 1) := by decide +kernel
theorem dX3_toBeAlike_0 : decode cX3_toBeAlike 0 = .ok (.iconst 0, 1) := by decide +kernel
theorem dX3_toBeAlike_1 : decode cX3_toBeAlike 1 = .ok (.istore 4, 2) := by decide +kernel
theorem dX3_toBeAlike_3 : decode cX3_toBeAlike 3 = .ok (.iconst 0, 1) := by decide +kernel
theorem dX3_toBeAlike_4 : decode cX3_toBeAlike 4 = .ok (.istore 5, 2) := by decide +kernel
theorem dX3_toBeAlike_6 : decode cX3_toBeAlike 6 = .ok (.iconst 0, 1) := by decide +kernel
theorem dX3_toBeAlike_7 : decode cX3_toBeAlike 7 = .ok (.istore 6, 2) := by decide +kernel
theorem dX3_toBeAlike_9 : decode cX3_toBeAlike 9 = .ok (.iload 6, 2) := by decide +kernel
theorem dX3_toBeAlike_11 : decode cX3_toBeAlike 11 = .ok (.iload_n 2, 1) := by decide +kernel
theorem dX3_toBeAlike_12 : decode cX3_toBeAlike 12 = .ok (.if_icmp .ge 42, 3) := by decide +kernel
theorem dX3_toBeAlike_15 : decode cX3_toBeAlike 15 = .ok (.iload_n 1, 1) := by decide +kernel
theorem dX3_toBeAlike_16 : decode cX3_toBeAlike 16 = .ok (.iload 6, 2) := by decide +kernel
theorem dX3_toBeAlike_18 : decode cX3_toBeAlike 18 = .ok (.invokestatic 15, 3) := by decide +kernel
theorem dX3_toBeAlike_21 : decode cX3_toBeAlike 21 = .ok (.istore 7, 2) := by decide +kernel
theorem dX3_toBeAlike_23 : decode cX3_toBeAlike 23 = .ok (.iload 7, 2) := by decide +kernel
theorem dX3_toBeAlike_25 : decode cX3_toBeAlike 25 = .ok (.iload 5, 2) := by decide +kernel
theorem dX3_toBeAlike_27 : decode cX3_toBeAlike 27 = .ok (.if_icmp .ne 6, 3) := by decide +kernel
theorem dX3_toBeAlike_30 : decode cX3_toBeAlike 30 = .ok (.goto 18, 3) := by decide +kernel
theorem dX3_toBeAlike_33 : decode cX3_toBeAlike 33 = .ok (.iload 6, 2) := by decide +kernel
theorem dX3_toBeAlike_35 : decode cX3_toBeAlike 35 = .ok (.iload_n 3, 1) := by decide +kernel
theorem dX3_toBeAlike_36 : decode cX3_toBeAlike 36 = .ok (.if_icmp .ge 5, 3) := by decide +kernel
theorem dX3_toBeAlike_39 : decode cX3_toBeAlike 39 = .ok (.iconst (-1), 1) := by decide +kernel
theorem dX3_toBeAlike_40 : decode cX3_toBeAlike 40 = .ok (.ireturn, 1) := by decide +kernel
theorem dX3_toBeAlike_41 : decode cX3_toBeAlike 41 = .ok (.iload 7, 2) := by decide +kernel
theorem dX3_toBeAlike_43 : decode cX3_toBeAlike 43 = .ok (.istore 5, 2) := by decide +kernel
theorem dX3_toBeAlike_45 : decode cX3_toBeAlike 45 = .ok (.iinc 4 1, 3) := by decide +kernel
theorem dX3_toBeAlike_48 : decode cX3_toBeAlike 48 = .ok (.iinc 6 1, 3) := by decide +kernel
theorem dX3_toBeAlike_51 : decode cX3_toBeAlike 51 = .ok (.goto (-42), 3) := by decide +kernel
theorem dX3_toBeAlike_54 : decode cX3_toBeAlike 54 = .ok (.iload 4, 2) := by decide +kernel
theorem dX3_toBeAlike_56 : decode cX3_toBeAlike 56 = .ok (.ireturn, 1) := by decide +kernel
theorem dX3_toBeNeverAlike_0 : decode cX3_toBeNeverAlike 0 = .ok (.iconst 0, 1) := by decide +kernel
theorem dX3_toBeNeverAlike_1 : decode cX3_toBeNeverAlike 1 = .ok (.istore 4, 2) := by decide +kernel
theorem dX3_toBeNeverAlike_3 : decode cX3_toBeNeverAlike 3 = .ok (.iload 4, 2) := by decide +kernel
theorem dX3_toBeNeverAlike_5 : decode cX3_toBeNeverAlike 5 = .ok (.iconst 4, 1) := by decide +kernel
theorem dX3_toBeNeverAlike_6 : decode cX3_toBeNeverAlike 6 = .ok (.if_icmp .ge 27, 3) := by decide +kernel
theorem dX3_toBeNeverAlike_9 : decode cX3_toBeNeverAlike 9 = .ok (.aload_n 0, 1) := by decide +kernel
theorem dX3_toBeNeverAlike_10 : decode cX3_toBeNeverAlike 10 = .ok (.getfield 9, 3) := by decide +kernel
theorem dX3_toBeNeverAlike_13 : decode cX3_toBeNeverAlike 13 = .ok (.iload 4, 2) := by decide +kernel
theorem dX3_toBeNeverAlike_15 : decode cX3_toBeNeverAlike 15 = .ok (.iload 4, 2) := by decide +kernel
theorem dX3_toBeNeverAlike_17 : decode cX3_toBeNeverAlike 17 = .ok (.ifCond .ne 7, 3) := by decide +kernel
theorem dX3_toBeNeverAlike_20 : decode cX3_toBeNeverAlike 20 = .ok (.iconst 0, 1) := by decide +kernel
theorem dX3_toBeNeverAlike_21 : decode cX3_toBeNeverAlike 21 = .ok (.goto 5, 3) := by decide +kernel
theorem dX3_toBeNeverAlike_24 : decode cX3_toBeNeverAlike 24 = .ok (.ldc 19, 2) := by decide +kernel
theorem dX3_toBeNeverAlike_26 : decode cX3_toBeNeverAlike 26 = .ok (.iastore, 1) := by decide +kernel
theorem dX3_toBeNeverAlike_27 : decode cX3_toBeNeverAlike 27 = .ok (.iinc 4 1, 3) := by decide +kernel
theorem dX3_toBeNeverAlike_30 : decode cX3_toBeNeverAlike 30 = .ok (.goto (-27), 3) := by decide +kernel
theorem dX3_toBeNeverAlike_33 : decode cX3_toBeNeverAlike 33 = .ok (.iconst 0, 1) := by decide +kernel
theorem dX3_toBeNeverAlike_34 : decode cX3_toBeNeverAlike 34 = .ok (.istore 4, 2) := by decide +kernel
theorem dX3_toBeNeverAlike_36 : decode cX3_toBeNeverAlike 36 = .ok (.iload 4, 2) := by decide +kernel
theorem dX3_toBeNeverAlike_38 : decode cX3_toBeNeverAlike 38 = .ok (.iload_n 2, 1) := by decide +kernel
theorem dX3_toBeNeverAlike_39 : decode cX3_toBeNeverAlike 39 = .ok (.if_icmp .ge 90, 3) := by decide +kernel
theorem dX3_toBeNeverAlike_42 : decode cX3_toBeNeverAlike 42 = .ok (.iload 4, 2) := by decide +kernel
theorem dX3_toBeNeverAlike_44 : decode cX3_toBeNeverAlike 44 = .ok (.iload_n 3, 1) := by decide +kernel
theorem dX3_toBeNeverAlike_45 : decode cX3_toBeNeverAlike 45 = .ok (.if_icmp .ge 8, 3) := by decide +kernel
theorem dX3_toBeNeverAlike_48 : decode cX3_toBeNeverAlike 48 = .ok (.ldc 19, 2) := by decide +kernel
theorem dX3_toBeNeverAlike_50 : decode cX3_toBeNeverAlike 50 = .ok (.goto 9, 3) := by decide +kernel
theorem dX3_toBeNeverAlike_53 : decode cX3_toBeNeverAlike 53 = .ok (.aload_n 0, 1) := by decide +kernel
theorem dX3_toBeNeverAlike_54 : decode cX3_toBeNeverAlike 54 = .ok (.invokevirtual 20, 3) := by decide +kernel
theorem dX3_toBeNeverAlike_57 : decode cX3_toBeNeverAlike 57 = .ok (.iconst 1, 1) := by decide +kernel
theorem dX3_toBeNeverAlike_58 : decode cX3_toBeNeverAlike 58 = .ok (.iadd, 1) := by decide +kernel
theorem dX3_toBeNeverAlike_59 : decode cX3_toBeNeverAlike 59 = .ok (.istore 5, 2) := by decide +kernel
theorem dX3_toBeNeverAlike_61 : decode cX3_toBeNeverAlike 61 = .ok (.iconst 0, 1) := by decide +kernel
theorem dX3_toBeNeverAlike_62 : decode cX3_toBeNeverAlike 62 = .ok (.istore 6, 2) := by decide +kernel
theorem dX3_toBeNeverAlike_64 : decode cX3_toBeNeverAlike 64 = .ok (.iload 6, 2) := by decide +kernel
theorem dX3_toBeNeverAlike_66 : decode cX3_toBeNeverAlike 66 = .ok (.iconst 4, 1) := by decide +kernel
theorem dX3_toBeNeverAlike_67 : decode cX3_toBeNeverAlike 67 = .ok (.if_icmp .ge 56, 3) := by decide +kernel
theorem dX3_toBeNeverAlike_70 : decode cX3_toBeNeverAlike 70 = .ok (.iload 6, 2) := by decide +kernel
theorem dX3_toBeNeverAlike_72 : decode cX3_toBeNeverAlike 72 = .ok (.iload_n 1, 1) := by decide +kernel
theorem dX3_toBeNeverAlike_73 : decode cX3_toBeNeverAlike 73 = .ok (.iload 4, 2) := by decide +kernel
theorem dX3_toBeNeverAlike_75 : decode cX3_toBeNeverAlike 75 = .ok (.invokestatic 15, 3) := by decide +kernel
theorem dX3_toBeNeverAlike_78 : decode cX3_toBeNeverAlike 78 = .ok (.if_icmp .ne 7, 3) := by decide +kernel
theorem dX3_toBeNeverAlike_81 : decode cX3_toBeNeverAlike 81 = .ok (.iconst 1, 1) := by decide +kernel
theorem dX3_toBeNeverAlike_82 : decode cX3_toBeNeverAlike 82 = .ok (.goto 4, 3) := by decide +kernel
theorem dX3_toBeNeverAlike_85 : decode cX3_toBeNeverAlike 85 = .ok (.iconst 0, 1) := by decide +kernel
theorem dX3_toBeNeverAlike_86 : decode cX3_toBeNeverAlike 86 = .ok (.istore 7, 2) := by decide +kernel
theorem dX3_toBeNeverAlike_88 : decode cX3_toBeNeverAlike 88 = .ok (.aload_n 0, 1) := by decide +kernel
theorem dX3_toBeNeverAlike_89 : decode cX3_toBeNeverAlike 89 = .ok (.getfield 9, 3) := by decide +kernel
theorem dX3_toBeNeverAlike_92 : decode cX3_toBeNeverAlike 92 = .ok (.iload 6, 2) := by decide +kernel
theorem dX3_toBeNeverAlike_94 : decode cX3_toBeNeverAlike 94 = .ok (.iload 7, 2) := by decide +kernel
theorem dX3_toBeNeverAlike_96 : decode cX3_toBeNeverAlike 96 = .ok (.ifCond .eq 8, 3) := by decide +kernel
theorem dX3_toBeNeverAlike_99 : decode cX3_toBeNeverAlike 99 = .ok (.ldc 19, 2) := by decide +kernel
theorem dX3_toBeNeverAlike_101 : decode cX3_toBeNeverAlike 101 = .ok (.goto 15, 3) := by decide +kernel
theorem dX3_toBeNeverAlike_104 : decode cX3_toBeNeverAlike 104 = .ok (.aload_n 0, 1) := by decide +kernel
theorem dX3_toBeNeverAlike_105 : decode cX3_toBeNeverAlike 105 = .ok (.getfield 9, 3) := by decide +kernel
theorem dX3_toBeNeverAlike_108 : decode cX3_toBeNeverAlike 108 = .ok (.iload 6, 2) := by decide +kernel
theorem dX3_toBeNeverAlike_110 : decode cX3_toBeNeverAlike 110 = .ok (.iaload, 1) := by decide +kernel
theorem dX3_toBeNeverAlike_111 : decode cX3_toBeNeverAlike 111 = .ok (.iload 5, 2) := by decide +kernel
theorem dX3_toBeNeverAlike_113 : decode cX3_toBeNeverAlike 113 = .ok (.invokestatic 24, 3) := by decide +kernel
theorem dX3_toBeNeverAlike_116 : decode cX3_toBeNeverAlike 116 = .ok (.iastore, 1) := by decide +kernel
theorem dX3_toBeNeverAlike_117 : decode cX3_toBeNeverAlike 117 = .ok (.iinc 6 1, 3) := by decide +kernel
theorem dX3_toBeNeverAlike_120 : decode cX3_toBeNeverAlike 120 = .ok (.goto (-56), 3) := by decide +kernel
theorem dX3_toBeNeverAlike_123 : decode cX3_toBeNeverAlike 123 = .ok (.iinc 4 1, 3) := by decide +kernel
theorem dX3_toBeNeverAlike_126 : decode cX3_toBeNeverAlike 126 = .ok (.goto (-90), 3) := by decide +kernel
theorem dX3_toBeNeverAlike_129 : decode cX3_toBeNeverAlike 129 = .ok (.aload_n 0, 1) := by decide +kernel
theorem dX3_toBeNeverAlike_130 : decode cX3_toBeNeverAlike 130 = .ok (.invokevirtual 20, 3) := by decide +kernel
theorem dX3_toBeNeverAlike_133 : decode cX3_toBeNeverAlike 133 = .ok (.istore 4, 2) := by decide +kernel
theorem dX3_toBeNeverAlike_135 : decode cX3_toBeNeverAlike 135 = .ok (.iload 4, 2) := by decide +kernel
theorem dX3_toBeNeverAlike_137 : decode cX3_toBeNeverAlike 137 = .ok (.ldc 19, 2) := by decide +kernel
theorem dX3_toBeNeverAlike_139 : decode cX3_toBeNeverAlike 139 = .ok (.if_icmp .ge 8, 3) := by decide +kernel
theorem dX3_toBeNeverAlike_142 : decode cX3_toBeNeverAlike 142 = .ok (.iload 4, 2) := by decide +kernel
theorem dX3_toBeNeverAlike_144 : decode cX3_toBeNeverAlike 144 = .ok (.goto 4, 3) := by decide +kernel
theorem dX3_toBeNeverAlike_147 : decode cX3_toBeNeverAlike 147 = .ok (.iconst (-1), 1) := by decide +kernel
theorem dX3_toBeNeverAlike_148 : decode cX3_toBeNeverAlike 148 = .ok (.ireturn, 1) := by decide +kernel
theorem dX3_leastOfAll_0 : decode cX3_leastOfAll 0 = .ok (.ldc 19, 2) := by decide +kernel
theorem dX3_leastOfAll_2 : decode cX3_leastOfAll 2 = .ok (.istore_n 1, 1) := by decide +kernel
theorem dX3_leastOfAll_3 : decode cX3_leastOfAll 3 = .ok (.iconst 0, 1) := by decide +kernel
theorem dX3_leastOfAll_4 : decode cX3_leastOfAll 4 = .ok (.istore_n 2, 1) := by decide +kernel
theorem dX3_leastOfAll_5 : decode cX3_leastOfAll 5 = .ok (.iload_n 2, 1) := by decide +kernel
theorem dX3_leastOfAll_6 : decode cX3_leastOfAll 6 = .ok (.iconst 4, 1) := by decide +kernel
theorem dX3_leastOfAll_7 : decode cX3_leastOfAll 7 = .ok (.if_icmp .ge 20, 3) := by decide +kernel
theorem dX3_leastOfAll_10 : decode cX3_leastOfAll 10 = .ok (.iload_n 1, 1) := by decide +kernel
theorem dX3_leastOfAll_11 : decode cX3_leastOfAll 11 = .ok (.aload_n 0, 1) := by decide +kernel
theorem dX3_leastOfAll_12 : decode cX3_leastOfAll 12 = .ok (.getfield 9, 3) := by decide +kernel
theorem dX3_leastOfAll_15 : decode cX3_leastOfAll 15 = .ok (.iload_n 2, 1) := by decide +kernel
theorem dX3_leastOfAll_16 : decode cX3_leastOfAll 16 = .ok (.iaload, 1) := by decide +kernel
theorem dX3_leastOfAll_17 : decode cX3_leastOfAll 17 = .ok (.invokestatic 24, 3) := by decide +kernel
theorem dX3_leastOfAll_20 : decode cX3_leastOfAll 20 = .ok (.istore_n 1, 1) := by decide +kernel
theorem dX3_leastOfAll_21 : decode cX3_leastOfAll 21 = .ok (.iinc 2 1, 3) := by decide +kernel
theorem dX3_leastOfAll_24 : decode cX3_leastOfAll 24 = .ok (.goto (-19), 3) := by decide +kernel
theorem dX3_leastOfAll_27 : decode cX3_leastOfAll 27 = .ok (.iload_n 1, 1) := by decide +kernel
theorem dX3_leastOfAll_28 : decode cX3_leastOfAll 28 = .ok (.ireturn, 1) := by decide +kernel
theorem dX4_init_0 : decode cX4_init 0 = .ok (.aload_n 0, 1) := by decide +kernel
theorem dX4_init_1 : decode cX4_init 1 = .ok (.invokespecial 3, 3) := by decide +kernel
theorem dX4_init_4 : decode cX4_init 4 = .ok (.aload_n 0, 1) := by decide +kernel
theorem dX4_init_5 : decode cX4_init 5 = .ok (.bipush 36, 2) := by decide +kernel
theorem dX4_init_7 : decode cX4_init 7 = .ok (.newarray .int, 2) := by decide +kernel
theorem dX4_init_9 : decode cX4_init 9 = .ok (.putfield 9, 3) := by decide +kernel
theorem dX4_init_12 : decode cX4_init 12 = .ok (.aload_n 0, 1) := by decide +kernel
theorem dX4_init_13 : decode cX4_init 13 = .ok (.bipush 64, 2) := by decide +kernel
theorem dX4_init_15 : decode cX4_init 15 = .ok (.newarray .int, 2) := by decide +kernel
theorem dX4_init_17 : decode cX4_init 17 = .ok (.putfield 15, 3) := by decide +kernel
theorem dX4_init_20 : decode cX4_init 20 = .ok (.return_, 1) := by decide +kernel
theorem dX4_changeHarm_0 : decode cX4_changeHarm 0 = .ok (.iload_n 1, 1) := by decide +kernel
theorem dX4_changeHarm_1 : decode cX4_changeHarm 1 = .ok (.bipush 6, 2) := by decide +kernel
theorem dX4_changeHarm_3 : decode cX4_changeHarm 3 = .ok (.imul, 1) := by decide +kernel
theorem dX4_changeHarm_4 : decode cX4_changeHarm 4 = .ok (.iload_n 2, 1) := by decide +kernel
theorem dX4_changeHarm_5 : decode cX4_changeHarm 5 = .ok (.iadd, 1) := by decide +kernel
theorem dX4_changeHarm_6 : decode cX4_changeHarm 6 = .ok (.istore 4, 2) := by decide +kernel
theorem dX4_changeHarm_8 : decode cX4_changeHarm 8 = .ok (.iload 4, 2) := by decide +kernel
theorem dX4_changeHarm_10 : decode cX4_changeHarm 10 = .ok (.iconst 0, 1) := by decide +kernel
theorem dX4_changeHarm_11 : decode cX4_changeHarm 11 = .ok (.aload_n 0, 1) := by decide +kernel
theorem dX4_changeHarm_12 : decode cX4_changeHarm 12 = .ok (.getfield 9, 3) := by decide +kernel
theorem dX4_changeHarm_15 : decode cX4_changeHarm 15 = .ok (.arraylength, 1) := by decide +kernel
theorem dX4_changeHarm_16 : decode cX4_changeHarm 16 = .ok (.iconst 1, 1) := by decide +kernel
theorem dX4_changeHarm_17 : decode cX4_changeHarm 17 = .ok (.isub, 1) := by decide +kernel
theorem dX4_changeHarm_18 : decode cX4_changeHarm 18 = .ok (.invokestatic 18, 3) := by decide +kernel
theorem dX4_changeHarm_21 : decode cX4_changeHarm 21 = .ok (.ifCond .ne 5, 3) := by decide +kernel
theorem dX4_changeHarm_24 : decode cX4_changeHarm 24 = .ok (.iconst 0, 1) := by decide +kernel
theorem dX4_changeHarm_25 : decode cX4_changeHarm 25 = .ok (.ireturn, 1) := by decide +kernel
theorem dX4_changeHarm_26 : decode cX4_changeHarm 26 = .ok (.aload_n 0, 1) := by decide +kernel
theorem dX4_changeHarm_27 : decode cX4_changeHarm 27 = .ok (.getfield 9, 3) := by decide +kernel
theorem dX4_changeHarm_30 : decode cX4_changeHarm 30 = .ok (.iload 4, 2) := by decide +kernel
theorem dX4_changeHarm_32 : decode cX4_changeHarm 32 = .ok (.iaload, 1) := by decide +kernel
theorem dX4_changeHarm_33 : decode cX4_changeHarm 33 = .ok (.istore 5, 2) := by decide +kernel
theorem dX4_changeHarm_35 : decode cX4_changeHarm 35 = .ok (.aload_n 0, 1) := by decide +kernel
theorem dX4_changeHarm_36 : decode cX4_changeHarm 36 = .ok (.getfield 9, 3) := by decide +kernel
theorem dX4_changeHarm_39 : decode cX4_changeHarm 39 = .ok (.iload 4, 2) := by decide +kernel
theorem dX4_changeHarm_41 : decode cX4_changeHarm 41 = .ok (.iload_n 3, 1) := by decide +kernel
theorem dX4_changeHarm_42 : decode cX4_changeHarm 42 = .ok (.iastore, 1) := by decide +kernel
theorem dX4_changeHarm_43 : decode cX4_changeHarm 43 = .ok (.iload 5, 2) := by decide +kernel
theorem dX4_changeHarm_45 : decode cX4_changeHarm 45 = .ok (.ireturn, 1) := by decide +kernel
theorem dX4_leastHarm_0 : decode cX4_leastHarm 0 = .ok (.iconst 1, 1) := by decide +kernel
theorem dX4_leastHarm_1 : decode cX4_leastHarm 1 = .ok (.iload_n 1, 1) := by decide +kernel
theorem dX4_leastHarm_2 : decode cX4_leastHarm 2 = .ok (.ishl, 1) := by decide +kernel
theorem dX4_leastHarm_3 : decode cX4_leastHarm 3 = .ok (.iconst 1, 1) := by decide +kernel
theorem dX4_leastHarm_4 : decode cX4_leastHarm 4 = .ok (.isub, 1) := by decide +kernel
theorem dX4_leastHarm_5 : decode cX4_leastHarm 5 = .ok (.istore 4, 2) := by decide +kernel
theorem dX4_leastHarm_7 : decode cX4_leastHarm 7 = .ok (.iload 4, 2) := by decide +kernel
theorem dX4_leastHarm_9 : decode cX4_leastHarm 9 = .ok (.bipush 63, 2) := by decide +kernel
theorem dX4_leastHarm_11 : decode cX4_leastHarm 11 = .ok (.invokestatic 22, 3) := by decide +kernel
theorem dX4_leastHarm_14 : decode cX4_leastHarm 14 = .ok (.istore 5, 2) := by decide +kernel
theorem dX4_leastHarm_16 : decode cX4_leastHarm 16 = .ok (.iload 5, 2) := by decide +kernel
theorem dX4_leastHarm_18 : decode cX4_leastHarm 18 = .ok (.ifCond .lt 105, 3) := by decide +kernel
theorem dX4_leastHarm_21 : decode cX4_leastHarm 21 = .ok (.iload 5, 2) := by decide +kernel
theorem dX4_leastHarm_23 : decode cX4_leastHarm 23 = .ok (.invokestatic 28, 3) := by decide +kernel
theorem dX4_leastHarm_26 : decode cX4_leastHarm 26 = .ok (.istore 6, 2) := by decide +kernel
theorem dX4_leastHarm_28 : decode cX4_leastHarm 28 = .ok (.iload 5, 2) := by decide +kernel
theorem dX4_leastHarm_30 : decode cX4_leastHarm 30 = .ok (.iload 4, 2) := by decide +kernel
theorem dX4_leastHarm_32 : decode cX4_leastHarm 32 = .ok (.if_icmp .ne 7, 3) := by decide +kernel
theorem dX4_leastHarm_35 : decode cX4_leastHarm 35 = .ok (.iconst 0, 1) := by decide +kernel
theorem dX4_leastHarm_36 : decode cX4_leastHarm 36 = .ok (.goto 5, 3) := by decide +kernel
theorem dX4_leastHarm_39 : decode cX4_leastHarm 39 = .ok (.ldc 34, 2) := by decide +kernel
theorem dX4_leastHarm_41 : decode cX4_leastHarm 41 = .ok (.istore 7, 2) := by decide +kernel
theorem dX4_leastHarm_43 : decode cX4_leastHarm 43 = .ok (.iconst 0, 1) := by decide +kernel
theorem dX4_leastHarm_44 : decode cX4_leastHarm 44 = .ok (.istore 8, 2) := by decide +kernel
theorem dX4_leastHarm_46 : decode cX4_leastHarm 46 = .ok (.iload 8, 2) := by decide +kernel
theorem dX4_leastHarm_48 : decode cX4_leastHarm 48 = .ok (.iload_n 1, 1) := by decide +kernel
theorem dX4_leastHarm_49 : decode cX4_leastHarm 49 = .ok (.if_icmp .ge 59, 3) := by decide +kernel
theorem dX4_leastHarm_52 : decode cX4_leastHarm 52 = .ok (.iload 6, 2) := by decide +kernel
theorem dX4_leastHarm_54 : decode cX4_leastHarm 54 = .ok (.iload_n 2, 1) := by decide +kernel
theorem dX4_leastHarm_55 : decode cX4_leastHarm 55 = .ok (.if_icmp .ne 7, 3) := by decide +kernel
theorem dX4_leastHarm_58 : decode cX4_leastHarm 58 = .ok (.iconst 1, 1) := by decide +kernel
theorem dX4_leastHarm_59 : decode cX4_leastHarm 59 = .ok (.goto 4, 3) := by decide +kernel
theorem dX4_leastHarm_62 : decode cX4_leastHarm 62 = .ok (.iconst 0, 1) := by decide +kernel
theorem dX4_leastHarm_63 : decode cX4_leastHarm 63 = .ok (.istore 9, 2) := by decide +kernel
theorem dX4_leastHarm_65 : decode cX4_leastHarm 65 = .ok (.iload 8, 2) := by decide +kernel
theorem dX4_leastHarm_67 : decode cX4_leastHarm 67 = .ok (.iload_n 3, 1) := by decide +kernel
theorem dX4_leastHarm_68 : decode cX4_leastHarm 68 = .ok (.if_icmp .ne 7, 3) := by decide +kernel
theorem dX4_leastHarm_71 : decode cX4_leastHarm 71 = .ok (.iconst 1, 1) := by decide +kernel
theorem dX4_leastHarm_72 : decode cX4_leastHarm 72 = .ok (.goto 4, 3) := by decide +kernel
theorem dX4_leastHarm_75 : decode cX4_leastHarm 75 = .ok (.iconst 0, 1) := by decide +kernel
theorem dX4_leastHarm_76 : decode cX4_leastHarm 76 = .ok (.istore 10, 2) := by decide +kernel
theorem dX4_leastHarm_78 : decode cX4_leastHarm 78 = .ok (.iload 9, 2) := by decide +kernel
theorem dX4_leastHarm_80 : decode cX4_leastHarm 80 = .ok (.iload 10, 2) := by decide +kernel
theorem dX4_leastHarm_82 : decode cX4_leastHarm 82 = .ok (.if_icmp .ne 20, 3) := by decide +kernel
theorem dX4_leastHarm_85 : decode cX4_leastHarm 85 = .ok (.iload 7, 2) := by decide +kernel
theorem dX4_leastHarm_87 : decode cX4_leastHarm 87 = .ok (.aload_n 0, 1) := by decide +kernel
theorem dX4_leastHarm_88 : decode cX4_leastHarm 88 = .ok (.iload 5, 2) := by decide +kernel
theorem dX4_leastHarm_90 : decode cX4_leastHarm 90 = .ok (.iload 6, 2) := by decide +kernel
theorem dX4_leastHarm_92 : decode cX4_leastHarm 92 = .ok (.iload 8, 2) := by decide +kernel
theorem dX4_leastHarm_94 : decode cX4_leastHarm 94 = .ok (.invokevirtual 35, 3) := by decide +kernel
theorem dX4_leastHarm_97 : decode cX4_leastHarm 97 = .ok (.invokestatic 22, 3) := by decide +kernel
theorem dX4_leastHarm_100 : decode cX4_leastHarm 100 = .ok (.istore 7, 2) := by decide +kernel
theorem dX4_leastHarm_102 : decode cX4_leastHarm 102 = .ok (.iinc 8 1, 3) := by decide +kernel
theorem dX4_leastHarm_105 : decode cX4_leastHarm 105 = .ok (.goto (-59), 3) := by decide +kernel
theorem dX4_leastHarm_108 : decode cX4_leastHarm 108 = .ok (.aload_n 0, 1) := by decide +kernel
theorem dX4_leastHarm_109 : decode cX4_leastHarm 109 = .ok (.getfield 15, 3) := by decide +kernel
theorem dX4_leastHarm_112 : decode cX4_leastHarm 112 = .ok (.iload 5, 2) := by decide +kernel
theorem dX4_leastHarm_114 : decode cX4_leastHarm 114 = .ok (.iload 7, 2) := by decide +kernel
theorem dX4_leastHarm_116 : decode cX4_leastHarm 116 = .ok (.iastore, 1) := by decide +kernel
theorem dX4_leastHarm_117 : decode cX4_leastHarm 117 = .ok (.iinc 5 (-1), 3) := by decide +kernel
theorem dX4_leastHarm_120 : decode cX4_leastHarm 120 = .ok (.goto (-104), 3) := by decide +kernel
theorem dX4_leastHarm_123 : decode cX4_leastHarm 123 = .ok (.aload_n 0, 1) := by decide +kernel
theorem dX4_leastHarm_124 : decode cX4_leastHarm 124 = .ok (.getfield 15, 3) := by decide +kernel
theorem dX4_leastHarm_127 : decode cX4_leastHarm 127 = .ok (.iconst 0, 1) := by decide +kernel
theorem dX4_leastHarm_128 : decode cX4_leastHarm 128 = .ok (.iaload, 1) := by decide +kernel
theorem dX4_leastHarm_129 : decode cX4_leastHarm 129 = .ok (.ireturn, 1) := by decide +kernel
theorem dX4_leastWith_0 : decode cX4_leastWith 0 = .ok (.iload_n 2, 1) := by decide +kernel
theorem dX4_leastWith_1 : decode cX4_leastWith 1 = .ok (.bipush 6, 2) := by decide +kernel
theorem dX4_leastWith_3 : decode cX4_leastWith 3 = .ok (.imul, 1) := by decide +kernel
theorem dX4_leastWith_4 : decode cX4_leastWith 4 = .ok (.iload_n 3, 1) := by decide +kernel
theorem dX4_leastWith_5 : decode cX4_leastWith 5 = .ok (.iadd, 1) := by decide +kernel
theorem dX4_leastWith_6 : decode cX4_leastWith 6 = .ok (.istore 4, 2) := by decide +kernel
theorem dX4_leastWith_8 : decode cX4_leastWith 8 = .ok (.iload_n 1, 1) := by decide +kernel
theorem dX4_leastWith_9 : decode cX4_leastWith 9 = .ok (.iconst 1, 1) := by decide +kernel
theorem dX4_leastWith_10 : decode cX4_leastWith 10 = .ok (.iload_n 3, 1) := by decide +kernel
theorem dX4_leastWith_11 : decode cX4_leastWith 11 = .ok (.ishl, 1) := by decide +kernel
theorem dX4_leastWith_12 : decode cX4_leastWith 12 = .ok (.ior, 1) := by decide +kernel
theorem dX4_leastWith_13 : decode cX4_leastWith 13 = .ok (.istore 5, 2) := by decide +kernel
theorem dX4_leastWith_15 : decode cX4_leastWith 15 = .ok (.iload 5, 2) := by decide +kernel
theorem dX4_leastWith_17 : decode cX4_leastWith 17 = .ok (.iload_n 1, 1) := by decide +kernel
theorem dX4_leastWith_18 : decode cX4_leastWith 18 = .ok (.if_icmp .eq 14, 3) := by decide +kernel
theorem dX4_leastWith_21 : decode cX4_leastWith 21 = .ok (.iload 5, 2) := by decide +kernel
theorem dX4_leastWith_23 : decode cX4_leastWith 23 = .ok (.iconst 0, 1) := by decide +kernel
theorem dX4_leastWith_24 : decode cX4_leastWith 24 = .ok (.bipush 63, 2) := by decide +kernel
theorem dX4_leastWith_26 : decode cX4_leastWith 26 = .ok (.invokestatic 18, 3) := by decide +kernel
theorem dX4_leastWith_29 : decode cX4_leastWith 29 = .ok (.ifCond .ne 6, 3) := by decide +kernel
theorem dX4_leastWith_32 : decode cX4_leastWith 32 = .ok (.ldc 34, 2) := by decide +kernel
theorem dX4_leastWith_34 : decode cX4_leastWith 34 = .ok (.ireturn, 1) := by decide +kernel
theorem dX4_leastWith_35 : decode cX4_leastWith 35 = .ok (.iload 4, 2) := by decide +kernel
theorem dX4_leastWith_37 : decode cX4_leastWith 37 = .ok (.iconst 0, 1) := by decide +kernel
theorem dX4_leastWith_38 : decode cX4_leastWith 38 = .ok (.aload_n 0, 1) := by decide +kernel
theorem dX4_leastWith_39 : decode cX4_leastWith 39 = .ok (.getfield 9, 3) := by decide +kernel
theorem dX4_leastWith_42 : decode cX4_leastWith 42 = .ok (.arraylength, 1) := by decide +kernel
theorem dX4_leastWith_43 : decode cX4_leastWith 43 = .ok (.iconst 1, 1) := by decide +kernel
theorem dX4_leastWith_44 : decode cX4_leastWith 44 = .ok (.isub, 1) := by decide +kernel
theorem dX4_leastWith_45 : decode cX4_leastWith 45 = .ok (.invokestatic 18, 3) := by decide +kernel
theorem dX4_leastWith_48 : decode cX4_leastWith 48 = .ok (.ifCond .ne 6, 3) := by decide +kernel
theorem dX4_leastWith_51 : decode cX4_leastWith 51 = .ok (.ldc 34, 2) := by decide +kernel
theorem dX4_leastWith_53 : decode cX4_leastWith 53 = .ok (.ireturn, 1) := by decide +kernel
theorem dX4_leastWith_54 : decode cX4_leastWith 54 = .ok (.aload_n 0, 1) := by decide +kernel
theorem dX4_leastWith_55 : decode cX4_leastWith 55 = .ok (.getfield 9, 3) := by decide +kernel
theorem dX4_leastWith_58 : decode cX4_leastWith 58 = .ok (.iload 4, 2) := by decide +kernel
theorem dX4_leastWith_60 : decode cX4_leastWith 60 = .ok (.iaload, 1) := by decide +kernel
theorem dX4_leastWith_61 : decode cX4_leastWith 61 = .ok (.aload_n 0, 1) := by decide +kernel
theorem dX4_leastWith_62 : decode cX4_leastWith 62 = .ok (.getfield 15, 3) := by decide +kernel
theorem dX4_leastWith_65 : decode cX4_leastWith 65 = .ok (.iload 5, 2) := by decide +kernel
theorem dX4_leastWith_67 : decode cX4_leastWith 67 = .ok (.iaload, 1) := by decide +kernel
theorem dX4_leastWith_68 : decode cX4_leastWith 68 = .ok (.iadd, 1) := by decide +kernel
theorem dX4_leastWith_69 : decode cX4_leastWith 69 = .ok (.ldc 34, 2) := by decide +kernel
theorem dX4_leastWith_71 : decode cX4_leastWith 71 = .ok (.invokestatic 22, 3) := by decide +kernel
theorem dX4_leastWith_74 : decode cX4_leastWith 74 = .ok (.ireturn, 1) := by decide +kernel
theorem dX4_partnerOf_0 : decode cX4_partnerOf 0 = .ok (.aload_n 0, 1) := by decide +kernel
theorem dX4_partnerOf_1 : decode cX4_partnerOf 1 = .ok (.iload_n 1, 1) := by decide +kernel
theorem dX4_partnerOf_2 : decode cX4_partnerOf 2 = .ok (.iconst (-1), 1) := by decide +kernel
theorem dX4_partnerOf_3 : decode cX4_partnerOf 3 = .ok (.iconst (-1), 1) := by decide +kernel
theorem dX4_partnerOf_4 : decode cX4_partnerOf 4 = .ok (.invokevirtual 39, 3) := by decide +kernel
theorem dX4_partnerOf_7 : decode cX4_partnerOf 7 = .ok (.pop, 1) := by decide +kernel
theorem dX4_partnerOf_8 : decode cX4_partnerOf 8 = .ok (.iconst 0, 1) := by decide +kernel
theorem dX4_partnerOf_9 : decode cX4_partnerOf 9 = .ok (.istore_n 3, 1) := by decide +kernel
theorem dX4_partnerOf_10 : decode cX4_partnerOf 10 = .ok (.iconst (-1), 1) := by decide +kernel
theorem dX4_partnerOf_11 : decode cX4_partnerOf 11 = .ok (.istore 4, 2) := by decide +kernel
theorem dX4_partnerOf_13 : decode cX4_partnerOf 13 = .ok (.iconst 0, 1) := by decide +kernel
theorem dX4_partnerOf_14 : decode cX4_partnerOf 14 = .ok (.istore 5, 2) := by decide +kernel
theorem dX4_partnerOf_16 : decode cX4_partnerOf 16 = .ok (.iload 5, 2) := by decide +kernel
theorem dX4_partnerOf_18 : decode cX4_partnerOf 18 = .ok (.iload_n 2, 1) := by decide +kernel
theorem dX4_partnerOf_19 : decode cX4_partnerOf 19 = .ok (.if_icmp .gt 26, 3) := by decide +kernel
theorem dX4_partnerOf_22 : decode cX4_partnerOf 22 = .ok (.aload_n 0, 1) := by decide +kernel
theorem dX4_partnerOf_23 : decode cX4_partnerOf 23 = .ok (.iload_n 1, 1) := by decide +kernel
theorem dX4_partnerOf_24 : decode cX4_partnerOf 24 = .ok (.iload_n 3, 1) := by decide +kernel
theorem dX4_partnerOf_25 : decode cX4_partnerOf 25 = .ok (.iload 5, 2) := by decide +kernel
theorem dX4_partnerOf_27 : decode cX4_partnerOf 27 = .ok (.invokevirtual 42, 3) := by decide +kernel
theorem dX4_partnerOf_30 : decode cX4_partnerOf 30 = .ok (.istore 4, 2) := by decide +kernel
theorem dX4_partnerOf_32 : decode cX4_partnerOf 32 = .ok (.iload_n 3, 1) := by decide +kernel
theorem dX4_partnerOf_33 : decode cX4_partnerOf 33 = .ok (.iconst 1, 1) := by decide +kernel
theorem dX4_partnerOf_34 : decode cX4_partnerOf 34 = .ok (.iload 4, 2) := by decide +kernel
theorem dX4_partnerOf_36 : decode cX4_partnerOf 36 = .ok (.ishl, 1) := by decide +kernel
theorem dX4_partnerOf_37 : decode cX4_partnerOf 37 = .ok (.ior, 1) := by decide +kernel
theorem dX4_partnerOf_38 : decode cX4_partnerOf 38 = .ok (.istore_n 3, 1) := by decide +kernel
theorem dX4_partnerOf_39 : decode cX4_partnerOf 39 = .ok (.iinc 5 1, 3) := by decide +kernel
theorem dX4_partnerOf_42 : decode cX4_partnerOf 42 = .ok (.goto (-26), 3) := by decide +kernel
theorem dX4_partnerOf_45 : decode cX4_partnerOf 45 = .ok (.iload 4, 2) := by decide +kernel
theorem dX4_partnerOf_47 : decode cX4_partnerOf 47 = .ok (.ireturn, 1) := by decide +kernel
theorem dX4_firstBest_0 : decode cX4_firstBest 0 = .ok (.iconst 0, 1) := by decide +kernel
theorem dX4_firstBest_1 : decode cX4_firstBest 1 = .ok (.istore 4, 2) := by decide +kernel
theorem dX4_firstBest_3 : decode cX4_firstBest 3 = .ok (.iload 4, 2) := by decide +kernel
theorem dX4_firstBest_5 : decode cX4_firstBest 5 = .ok (.iload_n 1, 1) := by decide +kernel
theorem dX4_firstBest_6 : decode cX4_firstBest 6 = .ok (.if_icmp .ge 43, 3) := by decide +kernel
theorem dX4_firstBest_9 : decode cX4_firstBest 9 = .ok (.iload_n 2, 1) := by decide +kernel
theorem dX4_firstBest_10 : decode cX4_firstBest 10 = .ok (.iconst 0, 1) := by decide +kernel
theorem dX4_firstBest_11 : decode cX4_firstBest 11 = .ok (.bipush 63, 2) := by decide +kernel
theorem dX4_firstBest_13 : decode cX4_firstBest 13 = .ok (.invokestatic 18, 3) := by decide +kernel
theorem dX4_firstBest_16 : decode cX4_firstBest 16 = .ok (.istore 5, 2) := by decide +kernel
theorem dX4_firstBest_18 : decode cX4_firstBest 18 = .ok (.iload 5, 2) := by decide +kernel
theorem dX4_firstBest_20 : decode cX4_firstBest 20 = .ok (.ifCond .eq 23, 3) := by decide +kernel
theorem dX4_firstBest_23 : decode cX4_firstBest 23 = .ok (.aload_n 0, 1) := by decide +kernel
theorem dX4_firstBest_24 : decode cX4_firstBest 24 = .ok (.iload_n 2, 1) := by decide +kernel
theorem dX4_firstBest_25 : decode cX4_firstBest 25 = .ok (.iload_n 3, 1) := by decide +kernel
theorem dX4_firstBest_26 : decode cX4_firstBest 26 = .ok (.iload 4, 2) := by decide +kernel
theorem dX4_firstBest_28 : decode cX4_firstBest 28 = .ok (.invokevirtual 35, 3) := by decide +kernel
theorem dX4_firstBest_31 : decode cX4_firstBest 31 = .ok (.aload_n 0, 1) := by decide +kernel
theorem dX4_firstBest_32 : decode cX4_firstBest 32 = .ok (.getfield 15, 3) := by decide +kernel
theorem dX4_firstBest_35 : decode cX4_firstBest 35 = .ok (.iload_n 2, 1) := by decide +kernel
theorem dX4_firstBest_36 : decode cX4_firstBest 36 = .ok (.iaload, 1) := by decide +kernel
theorem dX4_firstBest_37 : decode cX4_firstBest 37 = .ok (.if_icmp .ne 6, 3) := by decide +kernel
theorem dX4_firstBest_40 : decode cX4_firstBest 40 = .ok (.iload 4, 2) := by decide +kernel
theorem dX4_firstBest_42 : decode cX4_firstBest 42 = .ok (.ireturn, 1) := by decide +kernel
theorem dX4_firstBest_43 : decode cX4_firstBest 43 = .ok (.iinc 4 1, 3) := by decide +kernel
theorem dX4_firstBest_46 : decode cX4_firstBest 46 = .ok (.goto (-43), 3) := by decide +kernel
theorem dX4_firstBest_49 : decode cX4_firstBest 49 = .ok (.iconst 0, 1) := by decide +kernel
theorem dX4_firstBest_50 : decode cX4_firstBest 50 = .ok (.ireturn, 1) := by decide +kernel
theorem dX5_init_0 : decode cX5_init 0 = .ok (.aload_n 0, 1) := by decide +kernel
theorem dX5_init_1 : decode cX5_init 1 = .ok (.invokespecial 3, 3) := by decide +kernel
theorem dX5_init_4 : decode cX5_init 4 = .ok (.aload_n 0, 1) := by decide +kernel
theorem dX5_init_5 : decode cX5_init 5 = .ok (.sipush 10050, 3) := by decide +kernel
theorem dX5_init_8 : decode cX5_init 8 = .ok (.newarray .int, 2) := by decide +kernel
theorem dX5_init_10 : decode cX5_init 10 = .ok (.putfield 11, 3) := by decide +kernel
theorem dX5_init_13 : decode cX5_init 13 = .ok (.aload_n 0, 1) := by decide +kernel
theorem dX5_init_14 : decode cX5_init 14 = .ok (.bipush 41, 2) := by decide +kernel
theorem dX5_init_16 : decode cX5_init 16 = .ok (.newarray .int, 2) := by decide +kernel
theorem dX5_init_18 : decode cX5_init 18 = .ok (.putfield 15, 3) := by decide +kernel
theorem dX5_init_21 : decode cX5_init 21 = .ok (.aload_n 0, 1) := by decide +kernel
theorem dX5_init_22 : decode cX5_init 22 = .ok (.iconst 2, 1) := by decide +kernel
theorem dX5_init_23 : decode cX5_init 23 = .ok (.newarray .boolean, 2) := by decide +kernel
theorem dX5_init_25 : decode cX5_init 25 = .ok (.putfield 18, 3) := by decide +kernel
theorem dX5_init_28 : decode cX5_init 28 = .ok (.aload_n 0, 1) := by decide +kernel
theorem dX5_init_29 : decode cX5_init 29 = .ok (.aload_n 1, 1) := by decide +kernel
theorem dX5_init_30 : decode cX5_init 30 = .ok (.putfield 22, 3) := by decide +kernel
theorem dX5_init_33 : decode cX5_init 33 = .ok (.return_, 1) := by decide +kernel
theorem dX5_forget_0 : decode cX5_forget 0 = .ok (.aload_n 0, 1) := by decide +kernel
theorem dX5_forget_1 : decode cX5_forget 1 = .ok (.getfield 18, 3) := by decide +kernel
theorem dX5_forget_4 : decode cX5_forget 4 = .ok (.iconst 0, 1) := by decide +kernel
theorem dX5_forget_5 : decode cX5_forget 5 = .ok (.iconst 0, 1) := by decide +kernel
theorem dX5_forget_6 : decode cX5_forget 6 = .ok (.bastore, 1) := by decide +kernel
theorem dX5_forget_7 : decode cX5_forget 7 = .ok (.aload_n 0, 1) := by decide +kernel
theorem dX5_forget_8 : decode cX5_forget 8 = .ok (.getfield 18, 3) := by decide +kernel
theorem dX5_forget_11 : decode cX5_forget 11 = .ok (.iconst 1, 1) := by decide +kernel
theorem dX5_forget_12 : decode cX5_forget 12 = .ok (.iconst 0, 1) := by decide +kernel
theorem dX5_forget_13 : decode cX5_forget 13 = .ok (.bastore, 1) := by decide +kernel
theorem dX5_forget_14 : decode cX5_forget 14 = .ok (.return_, 1) := by decide +kernel
theorem dX5_greatestWorth_0 : decode cX5_greatestWorth 0 = .ok (.iload_n 1, 1) := by decide +kernel
theorem dX5_greatestWorth_1 : decode cX5_greatestWorth 1 = .ok (.iconst 0, 1) := by decide +kernel
theorem dX5_greatestWorth_2 : decode cX5_greatestWorth 2 = .ok (.iconst 1, 1) := by decide +kernel
theorem dX5_greatestWorth_3 : decode cX5_greatestWorth 3 = .ok (.invokestatic 26, 3) := by decide +kernel
theorem dX5_greatestWorth_6 : decode cX5_greatestWorth 6 = .ok (.ifCond .ne 5, 3) := by decide +kernel
theorem dX5_greatestWorth_9 : decode cX5_greatestWorth 9 = .ok (.iconst (-1), 1) := by decide +kernel
theorem dX5_greatestWorth_10 : decode cX5_greatestWorth 10 = .ok (.ireturn, 1) := by decide +kernel
theorem dX5_greatestWorth_11 : decode cX5_greatestWorth 11 = .ok (.aload_n 0, 1) := by decide +kernel
theorem dX5_greatestWorth_12 : decode cX5_greatestWorth 12 = .ok (.getfield 18, 3) := by decide +kernel
theorem dX5_greatestWorth_15 : decode cX5_greatestWorth 15 = .ok (.iload_n 1, 1) := by decide +kernel
theorem dX5_greatestWorth_16 : decode cX5_greatestWorth 16 = .ok (.baload, 1) := by decide +kernel
theorem dX5_greatestWorth_17 : decode cX5_greatestWorth 17 = .ok (.ifCond .ne 8, 3) := by decide +kernel
theorem dX5_greatestWorth_20 : decode cX5_greatestWorth 20 = .ok (.aload_n 0, 1) := by decide +kernel
theorem dX5_greatestWorth_21 : decode cX5_greatestWorth 21 = .ok (.iload_n 1, 1) := by decide +kernel
theorem dX5_greatestWorth_22 : decode cX5_greatestWorth 22 = .ok (.invokevirtual 30, 3) := by decide +kernel
theorem dX5_greatestWorth_25 : decode cX5_greatestWorth 25 = .ok (.aload_n 0, 1) := by decide +kernel
theorem dX5_greatestWorth_26 : decode cX5_greatestWorth 26 = .ok (.getfield 18, 3) := by decide +kernel
theorem dX5_greatestWorth_29 : decode cX5_greatestWorth 29 = .ok (.iload_n 1, 1) := by decide +kernel
theorem dX5_greatestWorth_30 : decode cX5_greatestWorth 30 = .ok (.iconst 1, 1) := by decide +kernel
theorem dX5_greatestWorth_31 : decode cX5_greatestWorth 31 = .ok (.bastore, 1) := by decide +kernel
theorem dX5_greatestWorth_32 : decode cX5_greatestWorth 32 = .ok (.aload_n 0, 1) := by decide +kernel
theorem dX5_greatestWorth_33 : decode cX5_greatestWorth 33 = .ok (.aload_n 0, 1) := by decide +kernel
theorem dX5_greatestWorth_34 : decode cX5_greatestWorth 34 = .ok (.iload_n 1, 1) := by decide +kernel
theorem dX5_greatestWorth_35 : decode cX5_greatestWorth 35 = .ok (.iconst 0, 1) := by decide +kernel
theorem dX5_greatestWorth_36 : decode cX5_greatestWorth 36 = .ok (.iconst 0, 1) := by decide +kernel
theorem dX5_greatestWorth_37 : decode cX5_greatestWorth 37 = .ok (.invokevirtual 34, 3) := by decide +kernel
theorem dX5_greatestWorth_40 : decode cX5_greatestWorth 40 = .ok (.iload_n 2, 1) := by decide +kernel
theorem dX5_greatestWorth_41 : decode cX5_greatestWorth 41 = .ok (.invokevirtual 38, 3) := by decide +kernel
theorem dX5_greatestWorth_44 : decode cX5_greatestWorth 44 = .ok (.ireturn, 1) := by decide +kernel
theorem dX5_rowOf_0 : decode cX5_rowOf 0 = .ok (.iload_n 1, 1) := by decide +kernel
theorem dX5_rowOf_1 : decode cX5_rowOf 1 = .ok (.bipush 25, 2) := by decide +kernel
theorem dX5_rowOf_3 : decode cX5_rowOf 3 = .ok (.imul, 1) := by decide +kernel
theorem dX5_rowOf_4 : decode cX5_rowOf 4 = .ok (.iload_n 2, 1) := by decide +kernel
theorem dX5_rowOf_5 : decode cX5_rowOf 5 = .ok (.aload_n 0, 1) := by decide +kernel
theorem dX5_rowOf_6 : decode cX5_rowOf 6 = .ok (.getfield 22, 3) := by decide +kernel
theorem dX5_rowOf_9 : decode cX5_rowOf 9 = .ok (.getfield 42, 3) := by decide +kernel
theorem dX5_rowOf_12 : decode cX5_rowOf 12 = .ok (.imul, 1) := by decide +kernel
theorem dX5_rowOf_13 : decode cX5_rowOf 13 = .ok (.iadd, 1) := by decide +kernel
theorem dX5_rowOf_14 : decode cX5_rowOf 14 = .ok (.iload_n 3, 1) := by decide +kernel
theorem dX5_rowOf_15 : decode cX5_rowOf 15 = .ok (.iadd, 1) := by decide +kernel
theorem dX5_rowOf_16 : decode cX5_rowOf 16 = .ok (.sipush 201, 3) := by decide +kernel
theorem dX5_rowOf_19 : decode cX5_rowOf 19 = .ok (.imul, 1) := by decide +kernel
theorem dX5_rowOf_20 : decode cX5_rowOf 20 = .ok (.ireturn, 1) := by decide +kernel
theorem dX5_bestFrom_0 : decode cX5_bestFrom 0 = .ok (.iload_n 1, 1) := by decide +kernel
theorem dX5_bestFrom_1 : decode cX5_bestFrom 1 = .ok (.iload_n 2, 1) := by decide +kernel
theorem dX5_bestFrom_2 : decode cX5_bestFrom 2 = .ok (.iconst 0, 1) := by decide +kernel
theorem dX5_bestFrom_3 : decode cX5_bestFrom 3 = .ok (.invokestatic 48, 3) := by decide +kernel
theorem dX5_bestFrom_6 : decode cX5_bestFrom 6 = .ok (.iadd, 1) := by decide +kernel
theorem dX5_bestFrom_7 : decode cX5_bestFrom 7 = .ok (.istore_n 3, 1) := by decide +kernel
theorem dX5_bestFrom_8 : decode cX5_bestFrom 8 = .ok (.iload_n 3, 1) := by decide +kernel
theorem dX5_bestFrom_9 : decode cX5_bestFrom 9 = .ok (.iconst 0, 1) := by decide +kernel
theorem dX5_bestFrom_10 : decode cX5_bestFrom 10 = .ok (.aload_n 0, 1) := by decide +kernel
theorem dX5_bestFrom_11 : decode cX5_bestFrom 11 = .ok (.getfield 11, 3) := by decide +kernel
theorem dX5_bestFrom_14 : decode cX5_bestFrom 14 = .ok (.arraylength, 1) := by decide +kernel
theorem dX5_bestFrom_15 : decode cX5_bestFrom 15 = .ok (.iconst 1, 1) := by decide +kernel
theorem dX5_bestFrom_16 : decode cX5_bestFrom 16 = .ok (.isub, 1) := by decide +kernel
theorem dX5_bestFrom_17 : decode cX5_bestFrom 17 = .ok (.invokestatic 26, 3) := by decide +kernel
theorem dX5_bestFrom_20 : decode cX5_bestFrom 20 = .ok (.ifCond .eq 12, 3) := by decide +kernel
theorem dX5_bestFrom_23 : decode cX5_bestFrom 23 = .ok (.aload_n 0, 1) := by decide +kernel
theorem dX5_bestFrom_24 : decode cX5_bestFrom 24 = .ok (.getfield 11, 3) := by decide +kernel
theorem dX5_bestFrom_27 : decode cX5_bestFrom 27 = .ok (.iload_n 3, 1) := by decide +kernel
theorem dX5_bestFrom_28 : decode cX5_bestFrom 28 = .ok (.iaload, 1) := by decide +kernel
theorem dX5_bestFrom_29 : decode cX5_bestFrom 29 = .ok (.goto 4, 3) := by decide +kernel
theorem dX5_bestFrom_32 : decode cX5_bestFrom 32 = .ok (.iconst (-1), 1) := by decide +kernel
theorem dX5_bestFrom_33 : decode cX5_bestFrom 33 = .ok (.ireturn, 1) := by decide +kernel
theorem dX5_reckon_0 : decode cX5_reckon 0 = .ok (.aload_n 0, 1) := by decide +kernel
theorem dX5_reckon_1 : decode cX5_reckon 1 = .ok (.aload_n 0, 1) := by decide +kernel
theorem dX5_reckon_2 : decode cX5_reckon 2 = .ok (.iload_n 1, 1) := by decide +kernel
theorem dX5_reckon_3 : decode cX5_reckon 3 = .ok (.aload_n 0, 1) := by decide +kernel
theorem dX5_reckon_4 : decode cX5_reckon 4 = .ok (.getfield 22, 3) := by decide +kernel
theorem dX5_reckon_7 : decode cX5_reckon 7 = .ok (.getfield 53, 3) := by decide +kernel
theorem dX5_reckon_10 : decode cX5_reckon 10 = .ok (.iconst 0, 1) := by decide +kernel
theorem dX5_reckon_11 : decode cX5_reckon 11 = .ok (.invokevirtual 34, 3) := by decide +kernel
theorem dX5_reckon_14 : decode cX5_reckon 14 = .ok (.invokevirtual 56, 3) := by decide +kernel
theorem dX5_reckon_17 : decode cX5_reckon 17 = .ok (.aload_n 0, 1) := by decide +kernel
theorem dX5_reckon_18 : decode cX5_reckon 18 = .ok (.aload_n 0, 1) := by decide +kernel
theorem dX5_reckon_19 : decode cX5_reckon 19 = .ok (.iload_n 1, 1) := by decide +kernel
theorem dX5_reckon_20 : decode cX5_reckon 20 = .ok (.aload_n 0, 1) := by decide +kernel
theorem dX5_reckon_21 : decode cX5_reckon 21 = .ok (.getfield 22, 3) := by decide +kernel
theorem dX5_reckon_24 : decode cX5_reckon 24 = .ok (.getfield 53, 3) := by decide +kernel
theorem dX5_reckon_27 : decode cX5_reckon 27 = .ok (.iconst 0, 1) := by decide +kernel
theorem dX5_reckon_28 : decode cX5_reckon 28 = .ok (.invokevirtual 34, 3) := by decide +kernel
theorem dX5_reckon_31 : decode cX5_reckon 31 = .ok (.iconst 0, 1) := by decide +kernel
theorem dX5_reckon_32 : decode cX5_reckon 32 = .ok (.iconst 0, 1) := by decide +kernel
theorem dX5_reckon_33 : decode cX5_reckon 33 = .ok (.invokevirtual 59, 3) := by decide +kernel
theorem dX5_reckon_36 : decode cX5_reckon 36 = .ok (.aload_n 0, 1) := by decide +kernel
theorem dX5_reckon_37 : decode cX5_reckon 37 = .ok (.getfield 22, 3) := by decide +kernel
theorem dX5_reckon_40 : decode cX5_reckon 40 = .ok (.getfield 53, 3) := by decide +kernel
theorem dX5_reckon_43 : decode cX5_reckon 43 = .ok (.iconst 1, 1) := by decide +kernel
theorem dX5_reckon_44 : decode cX5_reckon 44 = .ok (.isub, 1) := by decide +kernel
theorem dX5_reckon_45 : decode cX5_reckon 45 = .ok (.istore_n 2, 1) := by decide +kernel
theorem dX5_reckon_46 : decode cX5_reckon 46 = .ok (.iload_n 2, 1) := by decide +kernel
theorem dX5_reckon_47 : decode cX5_reckon 47 = .ok (.ifCond .lt 47, 3) := by decide +kernel
theorem dX5_reckon_50 : decode cX5_reckon 50 = .ok (.aload_n 0, 1) := by decide +kernel
theorem dX5_reckon_51 : decode cX5_reckon 51 = .ok (.getfield 22, 3) := by decide +kernel
theorem dX5_reckon_54 : decode cX5_reckon 54 = .ok (.getfield 42, 3) := by decide +kernel
theorem dX5_reckon_57 : decode cX5_reckon 57 = .ok (.iconst 1, 1) := by decide +kernel
theorem dX5_reckon_58 : decode cX5_reckon 58 = .ok (.isub, 1) := by decide +kernel
theorem dX5_reckon_59 : decode cX5_reckon 59 = .ok (.istore_n 3, 1) := by decide +kernel
theorem dX5_reckon_60 : decode cX5_reckon 60 = .ok (.iload_n 3, 1) := by decide +kernel
theorem dX5_reckon_61 : decode cX5_reckon 61 = .ok (.ifCond .lt 27, 3) := by decide +kernel
theorem dX5_reckon_64 : decode cX5_reckon 64 = .ok (.aload_n 0, 1) := by decide +kernel
theorem dX5_reckon_65 : decode cX5_reckon 65 = .ok (.iload_n 1, 1) := by decide +kernel
theorem dX5_reckon_66 : decode cX5_reckon 66 = .ok (.iload_n 2, 1) := by decide +kernel
theorem dX5_reckon_67 : decode cX5_reckon 67 = .ok (.iload_n 3, 1) := by decide +kernel
theorem dX5_reckon_68 : decode cX5_reckon 68 = .ok (.invokevirtual 63, 3) := by decide +kernel
theorem dX5_reckon_71 : decode cX5_reckon 71 = .ok (.aload_n 0, 1) := by decide +kernel
theorem dX5_reckon_72 : decode cX5_reckon 72 = .ok (.aload_n 0, 1) := by decide +kernel
theorem dX5_reckon_73 : decode cX5_reckon 73 = .ok (.iload_n 1, 1) := by decide +kernel
theorem dX5_reckon_74 : decode cX5_reckon 74 = .ok (.iload_n 2, 1) := by decide +kernel
theorem dX5_reckon_75 : decode cX5_reckon 75 = .ok (.iload_n 3, 1) := by decide +kernel
theorem dX5_reckon_76 : decode cX5_reckon 76 = .ok (.invokevirtual 34, 3) := by decide +kernel
theorem dX5_reckon_79 : decode cX5_reckon 79 = .ok (.invokevirtual 66, 3) := by decide +kernel
theorem dX5_reckon_82 : decode cX5_reckon 82 = .ok (.iinc 3 (-1), 3) := by decide +kernel
theorem dX5_reckon_85 : decode cX5_reckon 85 = .ok (.goto (-25), 3) := by decide +kernel
theorem dX5_reckon_88 : decode cX5_reckon 88 = .ok (.iinc 2 (-1), 3) := by decide +kernel
theorem dX5_reckon_91 : decode cX5_reckon 91 = .ok (.goto (-45), 3) := by decide +kernel
theorem dX5_reckon_94 : decode cX5_reckon 94 = .ok (.return_, 1) := by decide +kernel
theorem dX5_reckonRow_0 : decode cX5_reckonRow 0 = .ok (.iconst (-1), 1) := by decide +kernel
theorem dX5_reckonRow_1 : decode cX5_reckonRow 1 = .ok (.istore_n 2, 1) := by decide +kernel
theorem dX5_reckonRow_2 : decode cX5_reckonRow 2 = .ok (.aload_n 0, 1) := by decide +kernel
theorem dX5_reckonRow_3 : decode cX5_reckonRow 3 = .ok (.iload_n 1, 1) := by decide +kernel
theorem dX5_reckonRow_4 : decode cX5_reckonRow 4 = .ok (.invokevirtual 56, 3) := by decide +kernel
theorem dX5_reckonRow_7 : decode cX5_reckonRow 7 = .ok (.bipush 40, 2) := by decide +kernel
theorem dX5_reckonRow_9 : decode cX5_reckonRow 9 = .ok (.istore_n 3, 1) := by decide +kernel
theorem dX5_reckonRow_10 : decode cX5_reckonRow 10 = .ok (.iload_n 3, 1) := by decide +kernel
theorem dX5_reckonRow_11 : decode cX5_reckonRow 11 = .ok (.ifCond .lt 36, 3) := by decide +kernel
theorem dX5_reckonRow_14 : decode cX5_reckonRow 14 = .ok (.aload_n 0, 1) := by decide +kernel
theorem dX5_reckonRow_15 : decode cX5_reckonRow 15 = .ok (.getfield 15, 3) := by decide +kernel
theorem dX5_reckonRow_18 : decode cX5_reckonRow 18 = .ok (.iload_n 3, 1) := by decide +kernel
theorem dX5_reckonRow_19 : decode cX5_reckonRow 19 = .ok (.iaload, 1) := by decide +kernel
theorem dX5_reckonRow_20 : decode cX5_reckonRow 20 = .ok (.iload_n 2, 1) := by decide +kernel
theorem dX5_reckonRow_21 : decode cX5_reckonRow 21 = .ok (.if_icmp .gt 6, 3) := by decide +kernel
theorem dX5_reckonRow_24 : decode cX5_reckonRow 24 = .ok (.goto 17, 3) := by decide +kernel
theorem dX5_reckonRow_27 : decode cX5_reckonRow 27 = .ok (.aload_n 0, 1) := by decide +kernel
theorem dX5_reckonRow_28 : decode cX5_reckonRow 28 = .ok (.getfield 15, 3) := by decide +kernel
theorem dX5_reckonRow_31 : decode cX5_reckonRow 31 = .ok (.iload_n 3, 1) := by decide +kernel
theorem dX5_reckonRow_32 : decode cX5_reckonRow 32 = .ok (.iaload, 1) := by decide +kernel
theorem dX5_reckonRow_33 : decode cX5_reckonRow 33 = .ok (.istore_n 2, 1) := by decide +kernel
theorem dX5_reckonRow_34 : decode cX5_reckonRow 34 = .ok (.aload_n 0, 1) := by decide +kernel
theorem dX5_reckonRow_35 : decode cX5_reckonRow 35 = .ok (.iload_n 1, 1) := by decide +kernel
theorem dX5_reckonRow_36 : decode cX5_reckonRow 36 = .ok (.iload_n 3, 1) := by decide +kernel
theorem dX5_reckonRow_37 : decode cX5_reckonRow 37 = .ok (.iload_n 2, 1) := by decide +kernel
theorem dX5_reckonRow_38 : decode cX5_reckonRow 38 = .ok (.invokevirtual 69, 3) := by decide +kernel
theorem dX5_reckonRow_41 : decode cX5_reckonRow 41 = .ok (.iinc 3 (-1), 3) := by decide +kernel
theorem dX5_reckonRow_44 : decode cX5_reckonRow 44 = .ok (.goto (-34), 3) := by decide +kernel
theorem dX5_reckonRow_47 : decode cX5_reckonRow 47 = .ok (.return_, 1) := by decide +kernel
theorem dX5_findWorths_0 : decode cX5_findWorths 0 = .ok (.aload_n 0, 1) := by decide +kernel
theorem dX5_findWorths_1 : decode cX5_findWorths 1 = .ok (.getfield 15, 3) := by decide +kernel
theorem dX5_findWorths_4 : decode cX5_findWorths 4 = .ok (.iconst (-1), 1) := by decide +kernel
theorem dX5_findWorths_5 : decode cX5_findWorths 5 = .ok (.invokestatic 72, 3) := by decide +kernel
theorem dX5_findWorths_8 : decode cX5_findWorths 8 = .ok (.iconst 0, 1) := by decide +kernel
theorem dX5_findWorths_9 : decode cX5_findWorths 9 = .ok (.istore 4, 2) := by decide +kernel
theorem dX5_findWorths_11 : decode cX5_findWorths 11 = .ok (.iload 4, 2) := by decide +kernel
theorem dX5_findWorths_13 : decode cX5_findWorths 13 = .ok (.iconst 5, 1) := by decide +kernel
theorem dX5_findWorths_14 : decode cX5_findWorths 14 = .ok (.if_icmp .gt 91, 3) := by decide +kernel
theorem dX5_findWorths_17 : decode cX5_findWorths 17 = .ok (.iconst 0, 1) := by decide +kernel
theorem dX5_findWorths_18 : decode cX5_findWorths 18 = .ok (.istore 5, 2) := by decide +kernel
theorem dX5_findWorths_20 : decode cX5_findWorths 20 = .ok (.iload 5, 2) := by decide +kernel
theorem dX5_findWorths_22 : decode cX5_findWorths 22 = .ok (.iconst 5, 1) := by decide +kernel
theorem dX5_findWorths_23 : decode cX5_findWorths 23 = .ok (.if_icmp .gt 76, 3) := by decide +kernel
theorem dX5_findWorths_26 : decode cX5_findWorths 26 = .ok (.aload_n 0, 1) := by decide +kernel
theorem dX5_findWorths_27 : decode cX5_findWorths 27 = .ok (.iload_n 1, 1) := by decide +kernel
theorem dX5_findWorths_28 : decode cX5_findWorths 28 = .ok (.iload_n 2, 1) := by decide +kernel
theorem dX5_findWorths_29 : decode cX5_findWorths 29 = .ok (.iload_n 3, 1) := by decide +kernel
theorem dX5_findWorths_30 : decode cX5_findWorths 30 = .ok (.iload 4, 2) := by decide +kernel
theorem dX5_findWorths_32 : decode cX5_findWorths 32 = .ok (.iload 5, 2) := by decide +kernel
theorem dX5_findWorths_34 : decode cX5_findWorths 34 = .ok (.invokevirtual 78, 3) := by decide +kernel
theorem dX5_findWorths_37 : decode cX5_findWorths 37 = .ok (.ifCond .ne 6, 3) := by decide +kernel
theorem dX5_findWorths_40 : decode cX5_findWorths 40 = .ok (.goto 53, 3) := by decide +kernel
theorem dX5_findWorths_43 : decode cX5_findWorths 43 = .ok (.aload_n 0, 1) := by decide +kernel
theorem dX5_findWorths_44 : decode cX5_findWorths 44 = .ok (.iload_n 2, 1) := by decide +kernel
theorem dX5_findWorths_45 : decode cX5_findWorths 45 = .ok (.iload 4, 2) := by decide +kernel
theorem dX5_findWorths_47 : decode cX5_findWorths 47 = .ok (.iload 5, 2) := by decide +kernel
theorem dX5_findWorths_49 : decode cX5_findWorths 49 = .ok (.invokevirtual 82, 3) := by decide +kernel
theorem dX5_findWorths_52 : decode cX5_findWorths 52 = .ok (.istore 6, 2) := by decide +kernel
theorem dX5_findWorths_54 : decode cX5_findWorths 54 = .ok (.iload 6, 2) := by decide +kernel
theorem dX5_findWorths_56 : decode cX5_findWorths 56 = .ok (.iconst 0, 1) := by decide +kernel
theorem dX5_findWorths_57 : decode cX5_findWorths 57 = .ok (.bipush 40, 2) := by decide +kernel
theorem dX5_findWorths_59 : decode cX5_findWorths 59 = .ok (.invokestatic 26, 3) := by decide +kernel
theorem dX5_findWorths_62 : decode cX5_findWorths 62 = .ok (.ifCond .ne 6, 3) := by decide +kernel
theorem dX5_findWorths_65 : decode cX5_findWorths 65 = .ok (.goto 28, 3) := by decide +kernel
theorem dX5_findWorths_68 : decode cX5_findWorths 68 = .ok (.aload_n 0, 1) := by decide +kernel
theorem dX5_findWorths_69 : decode cX5_findWorths 69 = .ok (.getfield 15, 3) := by decide +kernel
theorem dX5_findWorths_72 : decode cX5_findWorths 72 = .ok (.iload 6, 2) := by decide +kernel
theorem dX5_findWorths_74 : decode cX5_findWorths 74 = .ok (.aload_n 0, 1) := by decide +kernel
theorem dX5_findWorths_75 : decode cX5_findWorths 75 = .ok (.getfield 15, 3) := by decide +kernel
theorem dX5_findWorths_78 : decode cX5_findWorths 78 = .ok (.iload 6, 2) := by decide +kernel
theorem dX5_findWorths_80 : decode cX5_findWorths 80 = .ok (.iaload, 1) := by decide +kernel
theorem dX5_findWorths_81 : decode cX5_findWorths 81 = .ok (.aload_n 0, 1) := by decide +kernel
theorem dX5_findWorths_82 : decode cX5_findWorths 82 = .ok (.iload 4, 2) := by decide +kernel
theorem dX5_findWorths_84 : decode cX5_findWorths 84 = .ok (.iload 5, 2) := by decide +kernel
theorem dX5_findWorths_86 : decode cX5_findWorths 86 = .ok (.invokevirtual 85, 3) := by decide +kernel
theorem dX5_findWorths_89 : decode cX5_findWorths 89 = .ok (.invokestatic 48, 3) := by decide +kernel
theorem dX5_findWorths_92 : decode cX5_findWorths 92 = .ok (.iastore, 1) := by decide +kernel
theorem dX5_findWorths_93 : decode cX5_findWorths 93 = .ok (.iinc 5 1, 3) := by decide +kernel
theorem dX5_findWorths_96 : decode cX5_findWorths 96 = .ok (.goto (-76), 3) := by decide +kernel
theorem dX5_findWorths_99 : decode cX5_findWorths 99 = .ok (.iinc 4 1, 3) := by decide +kernel
theorem dX5_findWorths_102 : decode cX5_findWorths 102 = .ok (.goto (-91), 3) := by decide +kernel
theorem dX5_findWorths_105 : decode cX5_findWorths 105 = .ok (.return_, 1) := by decide +kernel
theorem dX5_offerAll_0 : decode cX5_offerAll 0 = .ok (.iconst 0, 1) := by decide +kernel
theorem dX5_offerAll_1 : decode cX5_offerAll 1 = .ok (.istore 4, 2) := by decide +kernel
theorem dX5_offerAll_3 : decode cX5_offerAll 3 = .ok (.iload 4, 2) := by decide +kernel
theorem dX5_offerAll_5 : decode cX5_offerAll 5 = .ok (.sipush 201, 3) := by decide +kernel
theorem dX5_offerAll_8 : decode cX5_offerAll 8 = .ok (.if_icmp .ge 42, 3) := by decide +kernel
theorem dX5_offerAll_11 : decode cX5_offerAll 11 = .ok (.aload_n 0, 1) := by decide +kernel
theorem dX5_offerAll_12 : decode cX5_offerAll 12 = .ok (.iload_n 1, 1) := by decide +kernel
theorem dX5_offerAll_13 : decode cX5_offerAll 13 = .ok (.sipush 201, 3) := by decide +kernel
theorem dX5_offerAll_16 : decode cX5_offerAll 16 = .ok (.iadd, 1) := by decide +kernel
theorem dX5_offerAll_17 : decode cX5_offerAll 17 = .ok (.iload 4, 2) := by decide +kernel
theorem dX5_offerAll_19 : decode cX5_offerAll 19 = .ok (.iload_n 2, 1) := by decide +kernel
theorem dX5_offerAll_20 : decode cX5_offerAll 20 = .ok (.isub, 1) := by decide +kernel
theorem dX5_offerAll_21 : decode cX5_offerAll 21 = .ok (.invokevirtual 38, 3) := by decide +kernel
theorem dX5_offerAll_24 : decode cX5_offerAll 24 = .ok (.istore 5, 2) := by decide +kernel
theorem dX5_offerAll_26 : decode cX5_offerAll 26 = .ok (.iload 5, 2) := by decide +kernel
theorem dX5_offerAll_28 : decode cX5_offerAll 28 = .ok (.iconst (-1), 1) := by decide +kernel
theorem dX5_offerAll_29 : decode cX5_offerAll 29 = .ok (.if_icmp .ne 4, 3) := by decide +kernel
theorem dX5_offerAll_32 : decode cX5_offerAll 32 = .ok (.return_, 1) := by decide +kernel
theorem dX5_offerAll_33 : decode cX5_offerAll 33 = .ok (.aload_n 0, 1) := by decide +kernel
theorem dX5_offerAll_34 : decode cX5_offerAll 34 = .ok (.iload_n 1, 1) := by decide +kernel
theorem dX5_offerAll_35 : decode cX5_offerAll 35 = .ok (.iload 4, 2) := by decide +kernel
theorem dX5_offerAll_37 : decode cX5_offerAll 37 = .ok (.iload 5, 2) := by decide +kernel
theorem dX5_offerAll_39 : decode cX5_offerAll 39 = .ok (.iload_n 3, 1) := by decide +kernel
theorem dX5_offerAll_40 : decode cX5_offerAll 40 = .ok (.iadd, 1) := by decide +kernel
theorem dX5_offerAll_41 : decode cX5_offerAll 41 = .ok (.invokevirtual 59, 3) := by decide +kernel
theorem dX5_offerAll_44 : decode cX5_offerAll 44 = .ok (.iinc 4 1, 3) := by decide +kernel
theorem dX5_offerAll_47 : decode cX5_offerAll 47 = .ok (.goto (-44), 3) := by decide +kernel
theorem dX5_offerAll_50 : decode cX5_offerAll 50 = .ok (.return_, 1) := by decide +kernel
theorem dX5_clearRow_0 : decode cX5_clearRow 0 = .ok (.iconst 0, 1) := by decide +kernel
theorem dX5_clearRow_1 : decode cX5_clearRow 1 = .ok (.istore_n 2, 1) := by decide +kernel
theorem dX5_clearRow_2 : decode cX5_clearRow 2 = .ok (.iload_n 2, 1) := by decide +kernel
theorem dX5_clearRow_3 : decode cX5_clearRow 3 = .ok (.sipush 201, 3) := by decide +kernel
theorem dX5_clearRow_6 : decode cX5_clearRow 6 = .ok (.if_icmp .ge 35, 3) := by decide +kernel
theorem dX5_clearRow_9 : decode cX5_clearRow 9 = .ok (.iload_n 1, 1) := by decide +kernel
theorem dX5_clearRow_10 : decode cX5_clearRow 10 = .ok (.iload_n 2, 1) := by decide +kernel
theorem dX5_clearRow_11 : decode cX5_clearRow 11 = .ok (.iadd, 1) := by decide +kernel
theorem dX5_clearRow_12 : decode cX5_clearRow 12 = .ok (.istore_n 3, 1) := by decide +kernel
theorem dX5_clearRow_13 : decode cX5_clearRow 13 = .ok (.iload_n 3, 1) := by decide +kernel
theorem dX5_clearRow_14 : decode cX5_clearRow 14 = .ok (.iconst 0, 1) := by decide +kernel
theorem dX5_clearRow_15 : decode cX5_clearRow 15 = .ok (.aload_n 0, 1) := by decide +kernel
theorem dX5_clearRow_16 : decode cX5_clearRow 16 = .ok (.getfield 11, 3) := by decide +kernel
theorem dX5_clearRow_19 : decode cX5_clearRow 19 = .ok (.arraylength, 1) := by decide +kernel
theorem dX5_clearRow_20 : decode cX5_clearRow 20 = .ok (.iconst 1, 1) := by decide +kernel
theorem dX5_clearRow_21 : decode cX5_clearRow 21 = .ok (.isub, 1) := by decide +kernel
theorem dX5_clearRow_22 : decode cX5_clearRow 22 = .ok (.invokestatic 26, 3) := by decide +kernel
theorem dX5_clearRow_25 : decode cX5_clearRow 25 = .ok (.ifCond .eq 10, 3) := by decide +kernel
theorem dX5_clearRow_28 : decode cX5_clearRow 28 = .ok (.aload_n 0, 1) := by decide +kernel
theorem dX5_clearRow_29 : decode cX5_clearRow 29 = .ok (.getfield 11, 3) := by decide +kernel
theorem dX5_clearRow_32 : decode cX5_clearRow 32 = .ok (.iload_n 3, 1) := by decide +kernel
theorem dX5_clearRow_33 : decode cX5_clearRow 33 = .ok (.iconst (-1), 1) := by decide +kernel
theorem dX5_clearRow_34 : decode cX5_clearRow 34 = .ok (.iastore, 1) := by decide +kernel
theorem dX5_clearRow_35 : decode cX5_clearRow 35 = .ok (.iinc 2 1, 3) := by decide +kernel
theorem dX5_clearRow_38 : decode cX5_clearRow 38 = .ok (.goto (-36), 3) := by decide +kernel
theorem dX5_clearRow_41 : decode cX5_clearRow 41 = .ok (.return_, 1) := by decide +kernel
theorem dX5_offer_0 : decode cX5_offer 0 = .ok (.iload_n 1, 1) := by decide +kernel
theorem dX5_offer_1 : decode cX5_offer 1 = .ok (.iload_n 2, 1) := by decide +kernel
theorem dX5_offer_2 : decode cX5_offer 2 = .ok (.iadd, 1) := by decide +kernel
theorem dX5_offer_3 : decode cX5_offer 3 = .ok (.istore 4, 2) := by decide +kernel
theorem dX5_offer_5 : decode cX5_offer 5 = .ok (.iload 4, 2) := by decide +kernel
theorem dX5_offer_7 : decode cX5_offer 7 = .ok (.iconst 0, 1) := by decide +kernel
theorem dX5_offer_8 : decode cX5_offer 8 = .ok (.aload_n 0, 1) := by decide +kernel
theorem dX5_offer_9 : decode cX5_offer 9 = .ok (.getfield 11, 3) := by decide +kernel
theorem dX5_offer_12 : decode cX5_offer 12 = .ok (.arraylength, 1) := by decide +kernel
theorem dX5_offer_13 : decode cX5_offer 13 = .ok (.iconst 1, 1) := by decide +kernel
theorem dX5_offer_14 : decode cX5_offer 14 = .ok (.isub, 1) := by decide +kernel
theorem dX5_offer_15 : decode cX5_offer 15 = .ok (.invokestatic 26, 3) := by decide +kernel
theorem dX5_offer_18 : decode cX5_offer 18 = .ok (.ifCond .eq 22, 3) := by decide +kernel
theorem dX5_offer_21 : decode cX5_offer 21 = .ok (.aload_n 0, 1) := by decide +kernel
theorem dX5_offer_22 : decode cX5_offer 22 = .ok (.getfield 11, 3) := by decide +kernel
theorem dX5_offer_25 : decode cX5_offer 25 = .ok (.iload 4, 2) := by decide +kernel
theorem dX5_offer_27 : decode cX5_offer 27 = .ok (.iaload, 1) := by decide +kernel
theorem dX5_offer_28 : decode cX5_offer 28 = .ok (.iload_n 3, 1) := by decide +kernel
theorem dX5_offer_29 : decode cX5_offer 29 = .ok (.if_icmp .ge 11, 3) := by decide +kernel
theorem dX5_offer_32 : decode cX5_offer 32 = .ok (.aload_n 0, 1) := by decide +kernel
theorem dX5_offer_33 : decode cX5_offer 33 = .ok (.getfield 11, 3) := by decide +kernel
theorem dX5_offer_36 : decode cX5_offer 36 = .ok (.iload 4, 2) := by decide +kernel
theorem dX5_offer_38 : decode cX5_offer 38 = .ok (.iload_n 3, 1) := by decide +kernel
theorem dX5_offer_39 : decode cX5_offer 39 = .ok (.iastore, 1) := by decide +kernel
theorem dX5_offer_40 : decode cX5_offer 40 = .ok (.return_, 1) := by decide +kernel
theorem dX5_isAllowed_0 : decode cX5_isAllowed 0 = .ok (.aload_n 0, 1) := by decide +kernel
theorem dX5_isAllowed_1 : decode cX5_isAllowed 1 = .ok (.getfield 22, 3) := by decide +kernel
theorem dX5_isAllowed_4 : decode cX5_isAllowed 4 = .ok (.iconst 0, 1) := by decide +kernel
theorem dX5_isAllowed_5 : decode cX5_isAllowed 5 = .ok (.iload_n 2, 1) := by decide +kernel
theorem dX5_isAllowed_6 : decode cX5_isAllowed 6 = .ok (.iload_n 3, 1) := by decide +kernel
theorem dX5_isAllowed_7 : decode cX5_isAllowed 7 = .ok (.iload 4, 2) := by decide +kernel
theorem dX5_isAllowed_9 : decode cX5_isAllowed 9 = .ok (.invokevirtual 88, 3) := by decide +kernel
theorem dX5_isAllowed_12 : decode cX5_isAllowed 12 = .ok (.ifCond .eq 38, 3) := by decide +kernel
theorem dX5_isAllowed_15 : decode cX5_isAllowed 15 = .ok (.aload_n 0, 1) := by decide +kernel
theorem dX5_isAllowed_16 : decode cX5_isAllowed 16 = .ok (.getfield 22, 3) := by decide +kernel
theorem dX5_isAllowed_19 : decode cX5_isAllowed 19 = .ok (.iconst 1, 1) := by decide +kernel
theorem dX5_isAllowed_20 : decode cX5_isAllowed 20 = .ok (.iload_n 2, 1) := by decide +kernel
theorem dX5_isAllowed_21 : decode cX5_isAllowed 21 = .ok (.iload_n 3, 1) := by decide +kernel
theorem dX5_isAllowed_22 : decode cX5_isAllowed 22 = .ok (.iload 5, 2) := by decide +kernel
theorem dX5_isAllowed_24 : decode cX5_isAllowed 24 = .ok (.invokevirtual 88, 3) := by decide +kernel
theorem dX5_isAllowed_27 : decode cX5_isAllowed 27 = .ok (.ifCond .eq 23, 3) := by decide +kernel
theorem dX5_isAllowed_30 : decode cX5_isAllowed 30 = .ok (.aload_n 0, 1) := by decide +kernel
theorem dX5_isAllowed_31 : decode cX5_isAllowed 31 = .ok (.getfield 22, 3) := by decide +kernel
theorem dX5_isAllowed_34 : decode cX5_isAllowed 34 = .ok (.iload_n 1, 1) := by decide +kernel
theorem dX5_isAllowed_35 : decode cX5_isAllowed 35 = .ok (.iload_n 2, 1) := by decide +kernel
theorem dX5_isAllowed_36 : decode cX5_isAllowed 36 = .ok (.iload 4, 2) := by decide +kernel
theorem dX5_isAllowed_38 : decode cX5_isAllowed 38 = .ok (.iload 5, 2) := by decide +kernel
theorem dX5_isAllowed_40 : decode cX5_isAllowed 40 = .ok (.invokevirtual 92, 3) := by decide +kernel
theorem dX5_isAllowed_43 : decode cX5_isAllowed 43 = .ok (.ifCond .eq 7, 3) := by decide +kernel
theorem dX5_isAllowed_46 : decode cX5_isAllowed 46 = .ok (.iconst 1, 1) := by decide +kernel
theorem dX5_isAllowed_47 : decode cX5_isAllowed 47 = .ok (.goto 4, 3) := by decide +kernel
theorem dX5_isAllowed_50 : decode cX5_isAllowed 50 = .ok (.iconst 0, 1) := by decide +kernel
theorem dX5_isAllowed_51 : decode cX5_isAllowed 51 = .ok (.ireturn, 1) := by decide +kernel
theorem dX5_madeBy_0 : decode cX5_madeBy 0 = .ok (.aload_n 0, 1) := by decide +kernel
theorem dX5_madeBy_1 : decode cX5_madeBy 1 = .ok (.getfield 22, 3) := by decide +kernel
theorem dX5_madeBy_4 : decode cX5_madeBy 4 = .ok (.iconst 0, 1) := by decide +kernel
theorem dX5_madeBy_5 : decode cX5_madeBy 5 = .ok (.iload_n 1, 1) := by decide +kernel
theorem dX5_madeBy_6 : decode cX5_madeBy 6 = .ok (.iload_n 2, 1) := by decide +kernel
theorem dX5_madeBy_7 : decode cX5_madeBy 7 = .ok (.invokevirtual 95, 3) := by decide +kernel
theorem dX5_madeBy_10 : decode cX5_madeBy 10 = .ok (.aload_n 0, 1) := by decide +kernel
theorem dX5_madeBy_11 : decode cX5_madeBy 11 = .ok (.getfield 22, 3) := by decide +kernel
theorem dX5_madeBy_14 : decode cX5_madeBy 14 = .ok (.iconst 1, 1) := by decide +kernel
theorem dX5_madeBy_15 : decode cX5_madeBy 15 = .ok (.iload_n 1, 1) := by decide +kernel
theorem dX5_madeBy_16 : decode cX5_madeBy 16 = .ok (.iload_n 3, 1) := by decide +kernel
theorem dX5_madeBy_17 : decode cX5_madeBy 17 = .ok (.invokevirtual 95, 3) := by decide +kernel
theorem dX5_madeBy_20 : decode cX5_madeBy 20 = .ok (.iadd, 1) := by decide +kernel
theorem dX5_madeBy_21 : decode cX5_madeBy 21 = .ok (.ireturn, 1) := by decide +kernel
theorem dX5_worthOf_0 : decode cX5_worthOf 0 = .ok (.aload_n 0, 1) := by decide +kernel
theorem dX5_worthOf_1 : decode cX5_worthOf 1 = .ok (.getfield 22, 3) := by decide +kernel
theorem dX5_worthOf_4 : decode cX5_worthOf 4 = .ok (.iload_n 1, 1) := by decide +kernel
theorem dX5_worthOf_5 : decode cX5_worthOf 5 = .ok (.invokevirtual 98, 3) := by decide +kernel
theorem dX5_worthOf_8 : decode cX5_worthOf 8 = .ok (.aload_n 0, 1) := by decide +kernel
theorem dX5_worthOf_9 : decode cX5_worthOf 9 = .ok (.getfield 22, 3) := by decide +kernel
theorem dX5_worthOf_12 : decode cX5_worthOf 12 = .ok (.iload_n 2, 1) := by decide +kernel
theorem dX5_worthOf_13 : decode cX5_worthOf 13 = .ok (.invokevirtual 98, 3) := by decide +kernel
theorem dX5_worthOf_16 : decode cX5_worthOf 16 = .ok (.iadd, 1) := by decide +kernel
theorem dX5_worthOf_17 : decode cX5_worthOf 17 = .ok (.ireturn, 1) := by decide +kernel
theorem dX5_follow_0 : decode cX5_follow 0 = .ok (.iconst 0, 1) := by decide +kernel
theorem dX5_follow_1 : decode cX5_follow 1 = .ok (.istore 5, 2) := by decide +kernel
theorem dX5_follow_3 : decode cX5_follow 3 = .ok (.iconst 0, 1) := by decide +kernel
theorem dX5_follow_4 : decode cX5_follow 4 = .ok (.istore 6, 2) := by decide +kernel
theorem dX5_follow_6 : decode cX5_follow 6 = .ok (.iload 6, 2) := by decide +kernel
theorem dX5_follow_8 : decode cX5_follow 8 = .ok (.iload_n 3, 1) := by decide +kernel
theorem dX5_follow_9 : decode cX5_follow 9 = .ok (.if_icmp .gt 83, 3) := by decide +kernel
theorem dX5_follow_12 : decode cX5_follow 12 = .ok (.iload 6, 2) := by decide +kernel
theorem dX5_follow_14 : decode cX5_follow 14 = .ok (.iload_n 3, 1) := by decide +kernel
theorem dX5_follow_15 : decode cX5_follow 15 = .ok (.if_icmp .ne 10, 3) := by decide +kernel
theorem dX5_follow_18 : decode cX5_follow 18 = .ok (.iload 4, 2) := by decide +kernel
theorem dX5_follow_20 : decode cX5_follow 20 = .ok (.iconst 1, 1) := by decide +kernel
theorem dX5_follow_21 : decode cX5_follow 21 = .ok (.iadd, 1) := by decide +kernel
theorem dX5_follow_22 : decode cX5_follow 22 = .ok (.goto 10, 3) := by decide +kernel
theorem dX5_follow_25 : decode cX5_follow 25 = .ok (.aload_n 0, 1) := by decide +kernel
theorem dX5_follow_26 : decode cX5_follow 26 = .ok (.getfield 22, 3) := by decide +kernel
theorem dX5_follow_29 : decode cX5_follow 29 = .ok (.getfield 42, 3) := by decide +kernel
theorem dX5_follow_32 : decode cX5_follow 32 = .ok (.istore 7, 2) := by decide +kernel
theorem dX5_follow_34 : decode cX5_follow 34 = .ok (.iconst 0, 1) := by decide +kernel
theorem dX5_follow_35 : decode cX5_follow 35 = .ok (.istore 8, 2) := by decide +kernel
theorem dX5_follow_37 : decode cX5_follow 37 = .ok (.iload 8, 2) := by decide +kernel
theorem dX5_follow_39 : decode cX5_follow 39 = .ok (.iload 7, 2) := by decide +kernel
theorem dX5_follow_41 : decode cX5_follow 41 = .ok (.if_icmp .ge 45, 3) := by decide +kernel
theorem dX5_follow_44 : decode cX5_follow 44 = .ok (.aload_n 0, 1) := by decide +kernel
theorem dX5_follow_45 : decode cX5_follow 45 = .ok (.iload_n 1, 1) := by decide +kernel
theorem dX5_follow_46 : decode cX5_follow 46 = .ok (.iload 6, 2) := by decide +kernel
theorem dX5_follow_48 : decode cX5_follow 48 = .ok (.iload 8, 2) := by decide +kernel
theorem dX5_follow_50 : decode cX5_follow 50 = .ok (.iload_n 2, 1) := by decide +kernel
theorem dX5_follow_51 : decode cX5_follow 51 = .ok (.iload 5, 2) := by decide +kernel
theorem dX5_follow_53 : decode cX5_follow 53 = .ok (.isub, 1) := by decide +kernel
theorem dX5_follow_54 : decode cX5_follow 54 = .ok (.iconst 0, 1) := by decide +kernel
theorem dX5_follow_55 : decode cX5_follow 55 = .ok (.invokestatic 48, 3) := by decide +kernel
theorem dX5_follow_58 : decode cX5_follow 58 = .ok (.invokevirtual 101, 3) := by decide +kernel
theorem dX5_follow_61 : decode cX5_follow 61 = .ok (.iload 5, 2) := by decide +kernel
theorem dX5_follow_63 : decode cX5_follow 63 = .ok (.aload_n 0, 1) := by decide +kernel
theorem dX5_follow_64 : decode cX5_follow 64 = .ok (.iload 6, 2) := by decide +kernel
theorem dX5_follow_66 : decode cX5_follow 66 = .ok (.aload_n 0, 1) := by decide +kernel
theorem dX5_follow_67 : decode cX5_follow 67 = .ok (.getfield 105, 3) := by decide +kernel
theorem dX5_follow_70 : decode cX5_follow 70 = .ok (.aload_n 0, 1) := by decide +kernel
theorem dX5_follow_71 : decode cX5_follow 71 = .ok (.getfield 108, 3) := by decide +kernel
theorem dX5_follow_74 : decode cX5_follow 74 = .ok (.invokevirtual 82, 3) := by decide +kernel
theorem dX5_follow_77 : decode cX5_follow 77 = .ok (.iadd, 1) := by decide +kernel
theorem dX5_follow_78 : decode cX5_follow 78 = .ok (.istore 5, 2) := by decide +kernel
theorem dX5_follow_80 : decode cX5_follow 80 = .ok (.iinc 8 1, 3) := by decide +kernel
theorem dX5_follow_83 : decode cX5_follow 83 = .ok (.goto (-46), 3) := by decide +kernel
theorem dX5_follow_86 : decode cX5_follow 86 = .ok (.iinc 6 1, 3) := by decide +kernel
theorem dX5_follow_89 : decode cX5_follow 89 = .ok (.goto (-83), 3) := by decide +kernel
theorem dX5_follow_92 : decode cX5_follow 92 = .ok (.iload 5, 2) := by decide +kernel
theorem dX5_follow_94 : decode cX5_follow 94 = .ok (.ireturn, 1) := by decide +kernel
theorem dX5_choose_0 : decode cX5_choose 0 = .ok (.aload_n 0, 1) := by decide +kernel
theorem dX5_choose_1 : decode cX5_choose 1 = .ok (.iload_n 1, 1) := by decide +kernel
theorem dX5_choose_2 : decode cX5_choose 2 = .ok (.iload_n 2, 1) := by decide +kernel
theorem dX5_choose_3 : decode cX5_choose 3 = .ok (.iload_n 3, 1) := by decide +kernel
theorem dX5_choose_4 : decode cX5_choose 4 = .ok (.invokevirtual 34, 3) := by decide +kernel
theorem dX5_choose_7 : decode cX5_choose 7 = .ok (.istore 5, 2) := by decide +kernel
theorem dX5_choose_9 : decode cX5_choose 9 = .ok (.aload_n 0, 1) := by decide +kernel
theorem dX5_choose_10 : decode cX5_choose 10 = .ok (.iload 5, 2) := by decide +kernel
theorem dX5_choose_12 : decode cX5_choose 12 = .ok (.iload 4, 2) := by decide +kernel
theorem dX5_choose_14 : decode cX5_choose 14 = .ok (.invokevirtual 38, 3) := by decide +kernel
theorem dX5_choose_17 : decode cX5_choose 17 = .ok (.istore 6, 2) := by decide +kernel
theorem dX5_choose_19 : decode cX5_choose 19 = .ok (.iconst 0, 1) := by decide +kernel
theorem dX5_choose_20 : decode cX5_choose 20 = .ok (.istore 7, 2) := by decide +kernel
theorem dX5_choose_22 : decode cX5_choose 22 = .ok (.iload 7, 2) := by decide +kernel
theorem dX5_choose_24 : decode cX5_choose 24 = .ok (.iconst 5, 1) := by decide +kernel
theorem dX5_choose_25 : decode cX5_choose 25 = .ok (.if_icmp .gt 103, 3) := by decide +kernel
theorem dX5_choose_28 : decode cX5_choose 28 = .ok (.iconst 0, 1) := by decide +kernel
theorem dX5_choose_29 : decode cX5_choose 29 = .ok (.istore 8, 2) := by decide +kernel
theorem dX5_choose_31 : decode cX5_choose 31 = .ok (.iload 8, 2) := by decide +kernel
theorem dX5_choose_33 : decode cX5_choose 33 = .ok (.iconst 5, 1) := by decide +kernel
theorem dX5_choose_34 : decode cX5_choose 34 = .ok (.if_icmp .gt 88, 3) := by decide +kernel
theorem dX5_choose_37 : decode cX5_choose 37 = .ok (.aload_n 0, 1) := by decide +kernel
theorem dX5_choose_38 : decode cX5_choose 38 = .ok (.iload_n 1, 1) := by decide +kernel
theorem dX5_choose_39 : decode cX5_choose 39 = .ok (.iload_n 2, 1) := by decide +kernel
theorem dX5_choose_40 : decode cX5_choose 40 = .ok (.iload_n 3, 1) := by decide +kernel
theorem dX5_choose_41 : decode cX5_choose 41 = .ok (.iload 7, 2) := by decide +kernel
theorem dX5_choose_43 : decode cX5_choose 43 = .ok (.iload 8, 2) := by decide +kernel
theorem dX5_choose_45 : decode cX5_choose 45 = .ok (.invokevirtual 78, 3) := by decide +kernel
theorem dX5_choose_48 : decode cX5_choose 48 = .ok (.ifCond .ne 6, 3) := by decide +kernel
theorem dX5_choose_51 : decode cX5_choose 51 = .ok (.goto 65, 3) := by decide +kernel
theorem dX5_choose_54 : decode cX5_choose 54 = .ok (.aload_n 0, 1) := by decide +kernel
theorem dX5_choose_55 : decode cX5_choose 55 = .ok (.iload 5, 2) := by decide +kernel
theorem dX5_choose_57 : decode cX5_choose 57 = .ok (.sipush 201, 3) := by decide +kernel
theorem dX5_choose_60 : decode cX5_choose 60 = .ok (.iadd, 1) := by decide +kernel
theorem dX5_choose_61 : decode cX5_choose 61 = .ok (.iload 4, 2) := by decide +kernel
theorem dX5_choose_63 : decode cX5_choose 63 = .ok (.aload_n 0, 1) := by decide +kernel
theorem dX5_choose_64 : decode cX5_choose 64 = .ok (.iload_n 2, 1) := by decide +kernel
theorem dX5_choose_65 : decode cX5_choose 65 = .ok (.iload 7, 2) := by decide +kernel
theorem dX5_choose_67 : decode cX5_choose 67 = .ok (.iload 8, 2) := by decide +kernel
theorem dX5_choose_69 : decode cX5_choose 69 = .ok (.invokevirtual 82, 3) := by decide +kernel
theorem dX5_choose_72 : decode cX5_choose 72 = .ok (.isub, 1) := by decide +kernel
theorem dX5_choose_73 : decode cX5_choose 73 = .ok (.invokevirtual 38, 3) := by decide +kernel
theorem dX5_choose_76 : decode cX5_choose 76 = .ok (.istore 9, 2) := by decide +kernel
theorem dX5_choose_78 : decode cX5_choose 78 = .ok (.iload 9, 2) := by decide +kernel
theorem dX5_choose_80 : decode cX5_choose 80 = .ok (.iconst (-1), 1) := by decide +kernel
theorem dX5_choose_81 : decode cX5_choose 81 = .ok (.if_icmp .eq 35, 3) := by decide +kernel
theorem dX5_choose_84 : decode cX5_choose 84 = .ok (.iload 9, 2) := by decide +kernel
theorem dX5_choose_86 : decode cX5_choose 86 = .ok (.aload_n 0, 1) := by decide +kernel
theorem dX5_choose_87 : decode cX5_choose 87 = .ok (.iload 7, 2) := by decide +kernel
theorem dX5_choose_89 : decode cX5_choose 89 = .ok (.iload 8, 2) := by decide +kernel
theorem dX5_choose_91 : decode cX5_choose 91 = .ok (.invokevirtual 85, 3) := by decide +kernel
theorem dX5_choose_94 : decode cX5_choose 94 = .ok (.iadd, 1) := by decide +kernel
theorem dX5_choose_95 : decode cX5_choose 95 = .ok (.iload 6, 2) := by decide +kernel
theorem dX5_choose_97 : decode cX5_choose 97 = .ok (.if_icmp .eq 6, 3) := by decide +kernel
theorem dX5_choose_100 : decode cX5_choose 100 = .ok (.goto 16, 3) := by decide +kernel
theorem dX5_choose_103 : decode cX5_choose 103 = .ok (.aload_n 0, 1) := by decide +kernel
theorem dX5_choose_104 : decode cX5_choose 104 = .ok (.iload 7, 2) := by decide +kernel
theorem dX5_choose_106 : decode cX5_choose 106 = .ok (.putfield 105, 3) := by decide +kernel
theorem dX5_choose_109 : decode cX5_choose 109 = .ok (.aload_n 0, 1) := by decide +kernel
theorem dX5_choose_110 : decode cX5_choose 110 = .ok (.iload 8, 2) := by decide +kernel
theorem dX5_choose_112 : decode cX5_choose 112 = .ok (.putfield 108, 3) := by decide +kernel
theorem dX5_choose_115 : decode cX5_choose 115 = .ok (.return_, 1) := by decide +kernel
theorem dX5_choose_116 : decode cX5_choose 116 = .ok (.iinc 8 1, 3) := by decide +kernel
theorem dX5_choose_119 : decode cX5_choose 119 = .ok (.goto (-88), 3) := by decide +kernel
theorem dX5_choose_122 : decode cX5_choose 122 = .ok (.iinc 7 1, 3) := by decide +kernel
theorem dX5_choose_125 : decode cX5_choose 125 = .ok (.goto (-103), 3) := by decide +kernel
theorem dX5_choose_128 : decode cX5_choose 128 = .ok (.return_, 1) := by decide +kernel
theorem dX6_init_0 : decode cX6_init 0 = .ok (.aload_n 0, 1) := by decide +kernel
theorem dX6_init_1 : decode cX6_init 1 = .ok (.invokespecial 3, 3) := by decide +kernel
theorem dX6_init_4 : decode cX6_init 4 = .ok (.aload_n 0, 1) := by decide +kernel
theorem dX6_init_5 : decode cX6_init 5 = .ok (.bipush 40, 2) := by decide +kernel
theorem dX6_init_7 : decode cX6_init 7 = .ok (.newarray .boolean, 2) := by decide +kernel
theorem dX6_init_9 : decode cX6_init 9 = .ok (.putfield 9, 3) := by decide +kernel
theorem dX6_init_12 : decode cX6_init 12 = .ok (.aload_n 0, 1) := by decide +kernel
theorem dX6_init_13 : decode cX6_init 13 = .ok (.bipush 82, 2) := by decide +kernel
theorem dX6_init_15 : decode cX6_init 15 = .ok (.newarray .int, 2) := by decide +kernel
theorem dX6_init_17 : decode cX6_init 17 = .ok (.putfield 15, 3) := by decide +kernel
theorem dX6_init_20 : decode cX6_init 20 = .ok (.return_, 1) := by decide +kernel
theorem dX6_append_0 : decode cX6_append 0 = .ok (.aload_n 0, 1) := by decide +kernel
theorem dX6_append_1 : decode cX6_append 1 = .ok (.getfield 19, 3) := by decide +kernel
theorem dX6_append_4 : decode cX6_append 4 = .ok (.ifCond .lt 12, 3) := by decide +kernel
theorem dX6_append_7 : decode cX6_append 7 = .ok (.aload_n 0, 1) := by decide +kernel
theorem dX6_append_8 : decode cX6_append 8 = .ok (.getfield 19, 3) := by decide +kernel
theorem dX6_append_11 : decode cX6_append 11 = .ok (.bipush 40, 2) := by decide +kernel
theorem dX6_append_13 : decode cX6_append 13 = .ok (.if_icmp .lt 4, 3) := by decide +kernel
theorem dX6_append_16 : decode cX6_append 16 = .ok (.return_, 1) := by decide +kernel
theorem dX6_append_17 : decode cX6_append 17 = .ok (.aload_n 0, 1) := by decide +kernel
theorem dX6_append_18 : decode cX6_append 18 = .ok (.getfield 9, 3) := by decide +kernel
theorem dX6_append_21 : decode cX6_append 21 = .ok (.aload_n 0, 1) := by decide +kernel
theorem dX6_append_22 : decode cX6_append 22 = .ok (.getfield 19, 3) := by decide +kernel
theorem dX6_append_25 : decode cX6_append 25 = .ok (.iload_n 1, 1) := by decide +kernel
theorem dX6_append_26 : decode cX6_append 26 = .ok (.bastore, 1) := by decide +kernel
theorem dX6_append_27 : decode cX6_append 27 = .ok (.aload_n 0, 1) := by decide +kernel
theorem dX6_append_28 : decode cX6_append 28 = .ok (.dup, 1) := by decide +kernel
theorem dX6_append_29 : decode cX6_append 29 = .ok (.getfield 19, 3) := by decide +kernel
theorem dX6_append_32 : decode cX6_append 32 = .ok (.iconst 1, 1) := by decide +kernel
theorem dX6_append_33 : decode cX6_append 33 = .ok (.iadd, 1) := by decide +kernel
theorem dX6_append_34 : decode cX6_append 34 = .ok (.putfield 19, 3) := by decide +kernel
theorem dX6_append_37 : decode cX6_append 37 = .ok (.return_, 1) := by decide +kernel
theorem dX6_leastCost_0 : decode cX6_leastCost 0 = .ok (.aload_n 0, 1) := by decide +kernel
theorem dX6_leastCost_1 : decode cX6_leastCost 1 = .ok (.iload_n 1, 1) := by decide +kernel
theorem dX6_leastCost_2 : decode cX6_leastCost 2 = .ok (.iload_n 2, 1) := by decide +kernel
theorem dX6_leastCost_3 : decode cX6_leastCost 3 = .ok (.invokevirtual 23, 3) := by decide +kernel
theorem dX6_leastCost_6 : decode cX6_leastCost 6 = .ok (.bipush 64, 2) := by decide +kernel
theorem dX6_leastCost_8 : decode cX6_leastCost 8 = .ok (.idiv, 1) := by decide +kernel
theorem dX6_leastCost_9 : decode cX6_leastCost 9 = .ok (.ireturn, 1) := by decide +kernel
theorem dX6_fewestSlips_0 : decode cX6_fewestSlips 0 = .ok (.aload_n 0, 1) := by decide +kernel
theorem dX6_fewestSlips_1 : decode cX6_fewestSlips 1 = .ok (.iload_n 1, 1) := by decide +kernel
theorem dX6_fewestSlips_2 : decode cX6_fewestSlips 2 = .ok (.iload_n 2, 1) := by decide +kernel
theorem dX6_fewestSlips_3 : decode cX6_fewestSlips 3 = .ok (.invokevirtual 23, 3) := by decide +kernel
theorem dX6_fewestSlips_6 : decode cX6_fewestSlips 6 = .ok (.bipush 64, 2) := by decide +kernel
theorem dX6_fewestSlips_8 : decode cX6_fewestSlips 8 = .ok (.irem, 1) := by decide +kernel
theorem dX6_fewestSlips_9 : decode cX6_fewestSlips 9 = .ok (.ireturn, 1) := by decide +kernel
theorem dX6_firstSlip_0 : decode cX6_firstSlip 0 = .ok (.aload_n 0, 1) := by decide +kernel
theorem dX6_firstSlip_1 : decode cX6_firstSlip 1 = .ok (.iload_n 1, 1) := by decide +kernel
theorem dX6_firstSlip_2 : decode cX6_firstSlip 2 = .ok (.iload_n 2, 1) := by decide +kernel
theorem dX6_firstSlip_3 : decode cX6_firstSlip 3 = .ok (.invokevirtual 23, 3) := by decide +kernel
theorem dX6_firstSlip_6 : decode cX6_firstSlip 6 = .ok (.istore_n 3, 1) := by decide +kernel
theorem dX6_firstSlip_7 : decode cX6_firstSlip 7 = .ok (.iconst 0, 1) := by decide +kernel
theorem dX6_firstSlip_8 : decode cX6_firstSlip 8 = .ok (.istore 4, 2) := by decide +kernel
theorem dX6_firstSlip_10 : decode cX6_firstSlip 10 = .ok (.iconst (-1), 1) := by decide +kernel
theorem dX6_firstSlip_11 : decode cX6_firstSlip 11 = .ok (.istore 5, 2) := by decide +kernel
theorem dX6_firstSlip_13 : decode cX6_firstSlip 13 = .ok (.iconst 1, 1) := by decide +kernel
theorem dX6_firstSlip_14 : decode cX6_firstSlip 14 = .ok (.istore 6, 2) := by decide +kernel
theorem dX6_firstSlip_16 : decode cX6_firstSlip 16 = .ok (.iload 6, 2) := by decide +kernel
theorem dX6_firstSlip_18 : decode cX6_firstSlip 18 = .ok (.aload_n 0, 1) := by decide +kernel
theorem dX6_firstSlip_19 : decode cX6_firstSlip 19 = .ok (.getfield 19, 3) := by decide +kernel
theorem dX6_firstSlip_22 : decode cX6_firstSlip 22 = .ok (.if_icmp .ge 43, 3) := by decide +kernel
theorem dX6_firstSlip_25 : decode cX6_firstSlip 25 = .ok (.iload 4, 2) := by decide +kernel
theorem dX6_firstSlip_27 : decode cX6_firstSlip 27 = .ok (.aload_n 0, 1) := by decide +kernel
theorem dX6_firstSlip_28 : decode cX6_firstSlip 28 = .ok (.iload 6, 2) := by decide +kernel
theorem dX6_firstSlip_30 : decode cX6_firstSlip 30 = .ok (.iconst 1, 1) := by decide +kernel
theorem dX6_firstSlip_31 : decode cX6_firstSlip 31 = .ok (.isub, 1) := by decide +kernel
theorem dX6_firstSlip_32 : decode cX6_firstSlip 32 = .ok (.iconst 0, 1) := by decide +kernel
theorem dX6_firstSlip_33 : decode cX6_firstSlip 33 = .ok (.iload_n 2, 1) := by decide +kernel
theorem dX6_firstSlip_34 : decode cX6_firstSlip 34 = .ok (.invokevirtual 27, 3) := by decide +kernel
theorem dX6_firstSlip_37 : decode cX6_firstSlip 37 = .ok (.iadd, 1) := by decide +kernel
theorem dX6_firstSlip_38 : decode cX6_firstSlip 38 = .ok (.istore 4, 2) := by decide +kernel
theorem dX6_firstSlip_40 : decode cX6_firstSlip 40 = .ok (.iload 4, 2) := by decide +kernel
theorem dX6_firstSlip_42 : decode cX6_firstSlip 42 = .ok (.aload_n 0, 1) := by decide +kernel
theorem dX6_firstSlip_43 : decode cX6_firstSlip 43 = .ok (.iload 6, 2) := by decide +kernel
theorem dX6_firstSlip_45 : decode cX6_firstSlip 45 = .ok (.iconst 1, 1) := by decide +kernel
theorem dX6_firstSlip_46 : decode cX6_firstSlip 46 = .ok (.iload_n 1, 1) := by decide +kernel
theorem dX6_firstSlip_47 : decode cX6_firstSlip 47 = .ok (.invokevirtual 31, 3) := by decide +kernel
theorem dX6_firstSlip_50 : decode cX6_firstSlip 50 = .ok (.iadd, 1) := by decide +kernel
theorem dX6_firstSlip_51 : decode cX6_firstSlip 51 = .ok (.iload_n 3, 1) := by decide +kernel
theorem dX6_firstSlip_52 : decode cX6_firstSlip 52 = .ok (.if_icmp .ne 7, 3) := by decide +kernel
theorem dX6_firstSlip_55 : decode cX6_firstSlip 55 = .ok (.iload 6, 2) := by decide +kernel
theorem dX6_firstSlip_57 : decode cX6_firstSlip 57 = .ok (.istore 5, 2) := by decide +kernel
theorem dX6_firstSlip_59 : decode cX6_firstSlip 59 = .ok (.iinc 6 1, 3) := by decide +kernel
theorem dX6_firstSlip_62 : decode cX6_firstSlip 62 = .ok (.goto (-46), 3) := by decide +kernel
theorem dX6_firstSlip_65 : decode cX6_firstSlip 65 = .ok (.iload 5, 2) := by decide +kernel
theorem dX6_firstSlip_67 : decode cX6_firstSlip 67 = .ok (.ireturn, 1) := by decide +kernel
theorem dX6_reckon_0 : decode cX6_reckon 0 = .ok (.aload_n 0, 1) := by decide +kernel
theorem dX6_reckon_1 : decode cX6_reckon 1 = .ok (.getfield 15, 3) := by decide +kernel
theorem dX6_reckon_4 : decode cX6_reckon 4 = .ok (.iconst 2, 1) := by decide +kernel
theorem dX6_reckon_5 : decode cX6_reckon 5 = .ok (.aload_n 0, 1) := by decide +kernel
theorem dX6_reckon_6 : decode cX6_reckon 6 = .ok (.getfield 19, 3) := by decide +kernel
theorem dX6_reckon_9 : decode cX6_reckon 9 = .ok (.imul, 1) := by decide +kernel
theorem dX6_reckon_10 : decode cX6_reckon 10 = .ok (.iconst 0, 1) := by decide +kernel
theorem dX6_reckon_11 : decode cX6_reckon 11 = .ok (.iastore, 1) := by decide +kernel
theorem dX6_reckon_12 : decode cX6_reckon 12 = .ok (.aload_n 0, 1) := by decide +kernel
theorem dX6_reckon_13 : decode cX6_reckon 13 = .ok (.getfield 15, 3) := by decide +kernel
theorem dX6_reckon_16 : decode cX6_reckon 16 = .ok (.iconst 2, 1) := by decide +kernel
theorem dX6_reckon_17 : decode cX6_reckon 17 = .ok (.aload_n 0, 1) := by decide +kernel
theorem dX6_reckon_18 : decode cX6_reckon 18 = .ok (.getfield 19, 3) := by decide +kernel
theorem dX6_reckon_21 : decode cX6_reckon 21 = .ok (.imul, 1) := by decide +kernel
theorem dX6_reckon_22 : decode cX6_reckon 22 = .ok (.iconst 1, 1) := by decide +kernel
theorem dX6_reckon_23 : decode cX6_reckon 23 = .ok (.iadd, 1) := by decide +kernel
theorem dX6_reckon_24 : decode cX6_reckon 24 = .ok (.iconst 0, 1) := by decide +kernel
theorem dX6_reckon_25 : decode cX6_reckon 25 = .ok (.iastore, 1) := by decide +kernel
theorem dX6_reckon_26 : decode cX6_reckon 26 = .ok (.aload_n 0, 1) := by decide +kernel
theorem dX6_reckon_27 : decode cX6_reckon 27 = .ok (.getfield 19, 3) := by decide +kernel
theorem dX6_reckon_30 : decode cX6_reckon 30 = .ok (.iconst 1, 1) := by decide +kernel
theorem dX6_reckon_31 : decode cX6_reckon 31 = .ok (.isub, 1) := by decide +kernel
theorem dX6_reckon_32 : decode cX6_reckon 32 = .ok (.istore_n 3, 1) := by decide +kernel
theorem dX6_reckon_33 : decode cX6_reckon 33 = .ok (.iload_n 3, 1) := by decide +kernel
theorem dX6_reckon_34 : decode cX6_reckon 34 = .ok (.ifCond .lt 76, 3) := by decide +kernel
theorem dX6_reckon_37 : decode cX6_reckon 37 = .ok (.iconst 0, 1) := by decide +kernel
theorem dX6_reckon_38 : decode cX6_reckon 38 = .ok (.istore 4, 2) := by decide +kernel
theorem dX6_reckon_40 : decode cX6_reckon 40 = .ok (.iload 4, 2) := by decide +kernel
theorem dX6_reckon_42 : decode cX6_reckon 42 = .ok (.iconst 2, 1) := by decide +kernel
theorem dX6_reckon_43 : decode cX6_reckon 43 = .ok (.if_icmp .ge 61, 3) := by decide +kernel
theorem dX6_reckon_46 : decode cX6_reckon 46 = .ok (.aload_n 0, 1) := by decide +kernel
theorem dX6_reckon_47 : decode cX6_reckon 47 = .ok (.getfield 15, 3) := by decide +kernel
theorem dX6_reckon_50 : decode cX6_reckon 50 = .ok (.iconst 2, 1) := by decide +kernel
theorem dX6_reckon_51 : decode cX6_reckon 51 = .ok (.iload_n 3, 1) := by decide +kernel
theorem dX6_reckon_52 : decode cX6_reckon 52 = .ok (.imul, 1) := by decide +kernel
theorem dX6_reckon_53 : decode cX6_reckon 53 = .ok (.iconst 2, 1) := by decide +kernel
theorem dX6_reckon_54 : decode cX6_reckon 54 = .ok (.iadd, 1) := by decide +kernel
theorem dX6_reckon_55 : decode cX6_reckon 55 = .ok (.iload 4, 2) := by decide +kernel
theorem dX6_reckon_57 : decode cX6_reckon 57 = .ok (.iadd, 1) := by decide +kernel
theorem dX6_reckon_58 : decode cX6_reckon 58 = .ok (.iaload, 1) := by decide +kernel
theorem dX6_reckon_59 : decode cX6_reckon 59 = .ok (.aload_n 0, 1) := by decide +kernel
theorem dX6_reckon_60 : decode cX6_reckon 60 = .ok (.iload_n 3, 1) := by decide +kernel
theorem dX6_reckon_61 : decode cX6_reckon 61 = .ok (.iconst 1, 1) := by decide +kernel
theorem dX6_reckon_62 : decode cX6_reckon 62 = .ok (.iadd, 1) := by decide +kernel
theorem dX6_reckon_63 : decode cX6_reckon 63 = .ok (.iconst 1, 1) := by decide +kernel
theorem dX6_reckon_64 : decode cX6_reckon 64 = .ok (.iload 4, 2) := by decide +kernel
theorem dX6_reckon_66 : decode cX6_reckon 66 = .ok (.isub, 1) := by decide +kernel
theorem dX6_reckon_67 : decode cX6_reckon 67 = .ok (.iload_n 1, 1) := by decide +kernel
theorem dX6_reckon_68 : decode cX6_reckon 68 = .ok (.invokevirtual 31, 3) := by decide +kernel
theorem dX6_reckon_71 : decode cX6_reckon 71 = .ok (.invokestatic 34, 3) := by decide +kernel
theorem dX6_reckon_74 : decode cX6_reckon 74 = .ok (.istore 5, 2) := by decide +kernel
theorem dX6_reckon_76 : decode cX6_reckon 76 = .ok (.aload_n 0, 1) := by decide +kernel
theorem dX6_reckon_77 : decode cX6_reckon 77 = .ok (.getfield 15, 3) := by decide +kernel
theorem dX6_reckon_80 : decode cX6_reckon 80 = .ok (.iconst 2, 1) := by decide +kernel
theorem dX6_reckon_81 : decode cX6_reckon 81 = .ok (.iload_n 3, 1) := by decide +kernel
theorem dX6_reckon_82 : decode cX6_reckon 82 = .ok (.imul, 1) := by decide +kernel
theorem dX6_reckon_83 : decode cX6_reckon 83 = .ok (.iload 4, 2) := by decide +kernel
theorem dX6_reckon_85 : decode cX6_reckon 85 = .ok (.iadd, 1) := by decide +kernel
theorem dX6_reckon_86 : decode cX6_reckon 86 = .ok (.aload_n 0, 1) := by decide +kernel
theorem dX6_reckon_87 : decode cX6_reckon 87 = .ok (.iload_n 3, 1) := by decide +kernel
theorem dX6_reckon_88 : decode cX6_reckon 88 = .ok (.iload 4, 2) := by decide +kernel
theorem dX6_reckon_90 : decode cX6_reckon 90 = .ok (.iload_n 2, 1) := by decide +kernel
theorem dX6_reckon_91 : decode cX6_reckon 91 = .ok (.invokevirtual 27, 3) := by decide +kernel
theorem dX6_reckon_94 : decode cX6_reckon 94 = .ok (.iload 5, 2) := by decide +kernel
theorem dX6_reckon_96 : decode cX6_reckon 96 = .ok (.iadd, 1) := by decide +kernel
theorem dX6_reckon_97 : decode cX6_reckon 97 = .ok (.iastore, 1) := by decide +kernel
theorem dX6_reckon_98 : decode cX6_reckon 98 = .ok (.iinc 4 1, 3) := by decide +kernel
theorem dX6_reckon_101 : decode cX6_reckon 101 = .ok (.goto (-61), 3) := by decide +kernel
theorem dX6_reckon_104 : decode cX6_reckon 104 = .ok (.iinc 3 (-1), 3) := by decide +kernel
theorem dX6_reckon_107 : decode cX6_reckon 107 = .ok (.goto (-74), 3) := by decide +kernel
theorem dX6_reckon_110 : decode cX6_reckon 110 = .ok (.aload_n 0, 1) := by decide +kernel
theorem dX6_reckon_111 : decode cX6_reckon 111 = .ok (.getfield 15, 3) := by decide +kernel
theorem dX6_reckon_114 : decode cX6_reckon 114 = .ok (.iconst 0, 1) := by decide +kernel
theorem dX6_reckon_115 : decode cX6_reckon 115 = .ok (.iaload, 1) := by decide +kernel
theorem dX6_reckon_116 : decode cX6_reckon 116 = .ok (.ireturn, 1) := by decide +kernel
theorem dX6_slipTo_0 : decode cX6_slipTo 0 = .ok (.iload_n 3, 1) := by decide +kernel
theorem dX6_slipTo_1 : decode cX6_slipTo 1 = .ok (.bipush 64, 2) := by decide +kernel
theorem dX6_slipTo_3 : decode cX6_slipTo 3 = .ok (.imul, 1) := by decide +kernel
theorem dX6_slipTo_4 : decode cX6_slipTo 4 = .ok (.iconst 1, 1) := by decide +kernel
theorem dX6_slipTo_5 : decode cX6_slipTo 5 = .ok (.iadd, 1) := by decide +kernel
theorem dX6_slipTo_6 : decode cX6_slipTo 6 = .ok (.aload_n 0, 1) := by decide +kernel
theorem dX6_slipTo_7 : decode cX6_slipTo 7 = .ok (.getfield 15, 3) := by decide +kernel
theorem dX6_slipTo_10 : decode cX6_slipTo 10 = .ok (.iconst 2, 1) := by decide +kernel
theorem dX6_slipTo_11 : decode cX6_slipTo 11 = .ok (.iload_n 1, 1) := by decide +kernel
theorem dX6_slipTo_12 : decode cX6_slipTo 12 = .ok (.imul, 1) := by decide +kernel
theorem dX6_slipTo_13 : decode cX6_slipTo 13 = .ok (.iload_n 2, 1) := by decide +kernel
theorem dX6_slipTo_14 : decode cX6_slipTo 14 = .ok (.iadd, 1) := by decide +kernel
theorem dX6_slipTo_15 : decode cX6_slipTo 15 = .ok (.iaload, 1) := by decide +kernel
theorem dX6_slipTo_16 : decode cX6_slipTo 16 = .ok (.iadd, 1) := by decide +kernel
theorem dX6_slipTo_17 : decode cX6_slipTo 17 = .ok (.ireturn, 1) := by decide +kernel
theorem dX6_costOf_0 : decode cX6_costOf 0 = .ok (.iload_n 1, 1) := by decide +kernel
theorem dX6_costOf_1 : decode cX6_costOf 1 = .ok (.iload_n 2, 1) := by decide +kernel
theorem dX6_costOf_2 : decode cX6_costOf 2 = .ok (.iadd, 1) := by decide +kernel
theorem dX6_costOf_3 : decode cX6_costOf 3 = .ok (.iconst 2, 1) := by decide +kernel
theorem dX6_costOf_4 : decode cX6_costOf 4 = .ok (.irem, 1) := by decide +kernel
theorem dX6_costOf_5 : decode cX6_costOf 5 = .ok (.ifCond .ne 7, 3) := by decide +kernel
theorem dX6_costOf_8 : decode cX6_costOf 8 = .ok (.iconst 1, 1) := by decide +kernel
theorem dX6_costOf_9 : decode cX6_costOf 9 = .ok (.goto 4, 3) := by decide +kernel
theorem dX6_costOf_12 : decode cX6_costOf 12 = .ok (.iconst 0, 1) := by decide +kernel
theorem dX6_costOf_13 : decode cX6_costOf 13 = .ok (.istore 4, 2) := by decide +kernel
theorem dX6_costOf_15 : decode cX6_costOf 15 = .ok (.aload_n 0, 1) := by decide +kernel
theorem dX6_costOf_16 : decode cX6_costOf 16 = .ok (.getfield 9, 3) := by decide +kernel
theorem dX6_costOf_19 : decode cX6_costOf 19 = .ok (.iload_n 1, 1) := by decide +kernel
theorem dX6_costOf_20 : decode cX6_costOf 20 = .ok (.baload, 1) := by decide +kernel
theorem dX6_costOf_21 : decode cX6_costOf 21 = .ok (.iload 4, 2) := by decide +kernel
theorem dX6_costOf_23 : decode cX6_costOf 23 = .ok (.if_icmp .ne 7, 3) := by decide +kernel
theorem dX6_costOf_26 : decode cX6_costOf 26 = .ok (.iconst 0, 1) := by decide +kernel
theorem dX6_costOf_27 : decode cX6_costOf 27 = .ok (.goto 7, 3) := by decide +kernel
theorem dX6_costOf_30 : decode cX6_costOf 30 = .ok (.iload_n 3, 1) := by decide +kernel
theorem dX6_costOf_31 : decode cX6_costOf 31 = .ok (.bipush 64, 2) := by decide +kernel
theorem dX6_costOf_33 : decode cX6_costOf 33 = .ok (.imul, 1) := by decide +kernel
theorem dX6_costOf_34 : decode cX6_costOf 34 = .ok (.ireturn, 1) := by decide +kernel
theorem dX7_init_0 : decode cX7_init 0 = .ok (.aload_n 0, 1) := by decide +kernel
theorem dX7_init_1 : decode cX7_init 1 = .ok (.invokespecial 3, 3) := by decide +kernel
theorem dX7_init_4 : decode cX7_init 4 = .ok (.aload_n 0, 1) := by decide +kernel
theorem dX7_init_5 : decode cX7_init 5 = .ok (.sipush 200, 3) := by decide +kernel
theorem dX7_init_8 : decode cX7_init 8 = .ok (.newarray .int, 2) := by decide +kernel
theorem dX7_init_10 : decode cX7_init 10 = .ok (.putfield 9, 3) := by decide +kernel
theorem dX7_init_13 : decode cX7_init 13 = .ok (.return_, 1) := by decide +kernel
theorem dX7_append_0 : decode cX7_append 0 = .ok (.iconst 0, 1) := by decide +kernel
theorem dX7_append_1 : decode cX7_append 1 = .ok (.istore 4, 2) := by decide +kernel
theorem dX7_append_3 : decode cX7_append 3 = .ok (.iload 4, 2) := by decide +kernel
theorem dX7_append_5 : decode cX7_append 5 = .ok (.iload_n 3, 1) := by decide +kernel
theorem dX7_append_6 : decode cX7_append 6 = .ok (.if_icmp .ge 50, 3) := by decide +kernel
theorem dX7_append_9 : decode cX7_append 9 = .ok (.aload_n 0, 1) := by decide +kernel
theorem dX7_append_10 : decode cX7_append 10 = .ok (.getfield 15, 3) := by decide +kernel
theorem dX7_append_13 : decode cX7_append 13 = .ok (.sipush 200, 3) := by decide +kernel
theorem dX7_append_16 : decode cX7_append 16 = .ok (.if_icmp .ge 40, 3) := by decide +kernel
theorem dX7_append_19 : decode cX7_append 19 = .ok (.aload_n 0, 1) := by decide +kernel
theorem dX7_append_20 : decode cX7_append 20 = .ok (.getfield 9, 3) := by decide +kernel
theorem dX7_append_23 : decode cX7_append 23 = .ok (.aload_n 0, 1) := by decide +kernel
theorem dX7_append_24 : decode cX7_append 24 = .ok (.getfield 15, 3) := by decide +kernel
theorem dX7_append_27 : decode cX7_append 27 = .ok (.lload_n 1, 1) := by decide +kernel
theorem dX7_append_28 : decode cX7_append 28 = .ok (.bipush 8, 2) := by decide +kernel
theorem dX7_append_30 : decode cX7_append 30 = .ok (.iload 4, 2) := by decide +kernel
theorem dX7_append_32 : decode cX7_append 32 = .ok (.imul, 1) := by decide +kernel
theorem dX7_append_33 : decode cX7_append 33 = .ok (.lshr, 1) := by decide +kernel
theorem dX7_append_34 : decode cX7_append 34 = .ok (.ldc2_w 19, 3) := by decide +kernel
theorem dX7_append_37 : decode cX7_append 37 = .ok (.land, 1) := by decide +kernel
theorem dX7_append_38 : decode cX7_append 38 = .ok (.l2i, 1) := by decide +kernel
theorem dX7_append_39 : decode cX7_append 39 = .ok (.iastore, 1) := by decide +kernel
theorem dX7_append_40 : decode cX7_append 40 = .ok (.aload_n 0, 1) := by decide +kernel
theorem dX7_append_41 : decode cX7_append 41 = .ok (.dup, 1) := by decide +kernel
theorem dX7_append_42 : decode cX7_append 42 = .ok (.getfield 15, 3) := by decide +kernel
theorem dX7_append_45 : decode cX7_append 45 = .ok (.iconst 1, 1) := by decide +kernel
theorem dX7_append_46 : decode cX7_append 46 = .ok (.iadd, 1) := by decide +kernel
theorem dX7_append_47 : decode cX7_append 47 = .ok (.putfield 15, 3) := by decide +kernel
theorem dX7_append_50 : decode cX7_append 50 = .ok (.iinc 4 1, 3) := by decide +kernel
theorem dX7_append_53 : decode cX7_append 53 = .ok (.goto (-50), 3) := by decide +kernel
theorem dX7_append_56 : decode cX7_append 56 = .ok (.return_, 1) := by decide +kernel
theorem dX7_signAt_0 : decode cX7_signAt 0 = .ok (.iload_n 1, 1) := by decide +kernel
theorem dX7_signAt_1 : decode cX7_signAt 1 = .ok (.ifCond .lt 27, 3) := by decide +kernel
theorem dX7_signAt_4 : decode cX7_signAt 4 = .ok (.iload_n 1, 1) := by decide +kernel
theorem dX7_signAt_5 : decode cX7_signAt 5 = .ok (.aload_n 0, 1) := by decide +kernel
theorem dX7_signAt_6 : decode cX7_signAt 6 = .ok (.getfield 15, 3) := by decide +kernel
theorem dX7_signAt_9 : decode cX7_signAt 9 = .ok (.if_icmp .ge 19, 3) := by decide +kernel
theorem dX7_signAt_12 : decode cX7_signAt 12 = .ok (.iload_n 1, 1) := by decide +kernel
theorem dX7_signAt_13 : decode cX7_signAt 13 = .ok (.sipush 200, 3) := by decide +kernel
theorem dX7_signAt_16 : decode cX7_signAt 16 = .ok (.if_icmp .ge 12, 3) := by decide +kernel
theorem dX7_signAt_19 : decode cX7_signAt 19 = .ok (.aload_n 0, 1) := by decide +kernel
theorem dX7_signAt_20 : decode cX7_signAt 20 = .ok (.getfield 9, 3) := by decide +kernel
theorem dX7_signAt_23 : decode cX7_signAt 23 = .ok (.iload_n 1, 1) := by decide +kernel
theorem dX7_signAt_24 : decode cX7_signAt 24 = .ok (.iaload, 1) := by decide +kernel
theorem dX7_signAt_25 : decode cX7_signAt 25 = .ok (.goto 4, 3) := by decide +kernel
theorem dX7_signAt_28 : decode cX7_signAt 28 = .ok (.iconst (-1), 1) := by decide +kernel
theorem dX7_signAt_29 : decode cX7_signAt 29 = .ok (.ireturn, 1) := by decide +kernel
theorem dX8_init_0 : decode cX8_init 0 = .ok (.aload_n 0, 1) := by decide +kernel
theorem dX8_init_1 : decode cX8_init 1 = .ok (.invokespecial 3, 3) := by decide +kernel
theorem dX8_init_4 : decode cX8_init 4 = .ok (.aload_n 0, 1) := by decide +kernel
theorem dX8_init_5 : decode cX8_init 5 = .ok (.aload_n 1, 1) := by decide +kernel
theorem dX8_init_6 : decode cX8_init 6 = .ok (.putfield 9, 3) := by decide +kernel
theorem dX8_init_9 : decode cX8_init 9 = .ok (.return_, 1) := by decide +kernel
theorem dX8_rewind_0 : decode cX8_rewind 0 = .ok (.aload_n 0, 1) := by decide +kernel
theorem dX8_rewind_1 : decode cX8_rewind 1 = .ok (.iconst 0, 1) := by decide +kernel
theorem dX8_rewind_2 : decode cX8_rewind 2 = .ok (.putfield 15, 3) := by decide +kernel
theorem dX8_rewind_5 : decode cX8_rewind 5 = .ok (.aload_n 0, 1) := by decide +kernel
theorem dX8_rewind_6 : decode cX8_rewind 6 = .ok (.invokevirtual 19, 3) := by decide +kernel
theorem dX8_rewind_9 : decode cX8_rewind 9 = .ok (.return_, 1) := by decide +kernel
theorem dX8_advance_0 : decode cX8_advance 0 = .ok (.aload_n 0, 1) := by decide +kernel
theorem dX8_advance_1 : decode cX8_advance 1 = .ok (.aload_n 0, 1) := by decide +kernel
theorem dX8_advance_2 : decode cX8_advance 2 = .ok (.getfield 15, 3) := by decide +kernel
theorem dX8_advance_5 : decode cX8_advance 5 = .ok (.putfield 22, 3) := by decide +kernel
theorem dX8_advance_8 : decode cX8_advance 8 = .ok (.aload_n 0, 1) := by decide +kernel
theorem dX8_advance_9 : decode cX8_advance 9 = .ok (.getfield 22, 3) := by decide +kernel
theorem dX8_advance_12 : decode cX8_advance 12 = .ok (.aload_n 0, 1) := by decide +kernel
theorem dX8_advance_13 : decode cX8_advance 13 = .ok (.getfield 9, 3) := by decide +kernel
theorem dX8_advance_16 : decode cX8_advance 16 = .ok (.getfield 25, 3) := by decide +kernel
theorem dX8_advance_19 : decode cX8_advance 19 = .ok (.if_icmp .ge 32, 3) := by decide +kernel
theorem dX8_advance_22 : decode cX8_advance 22 = .ok (.aload_n 0, 1) := by decide +kernel
theorem dX8_advance_23 : decode cX8_advance 23 = .ok (.getfield 9, 3) := by decide +kernel
theorem dX8_advance_26 : decode cX8_advance 26 = .ok (.aload_n 0, 1) := by decide +kernel
theorem dX8_advance_27 : decode cX8_advance 27 = .ok (.getfield 22, 3) := by decide +kernel
theorem dX8_advance_30 : decode cX8_advance 30 = .ok (.invokevirtual 30, 3) := by decide +kernel
theorem dX8_advance_33 : decode cX8_advance 33 = .ok (.bipush 32, 2) := by decide +kernel
theorem dX8_advance_35 : decode cX8_advance 35 = .ok (.if_icmp .ne 16, 3) := by decide +kernel
theorem dX8_advance_38 : decode cX8_advance 38 = .ok (.aload_n 0, 1) := by decide +kernel
theorem dX8_advance_39 : decode cX8_advance 39 = .ok (.dup, 1) := by decide +kernel
theorem dX8_advance_40 : decode cX8_advance 40 = .ok (.getfield 22, 3) := by decide +kernel
theorem dX8_advance_43 : decode cX8_advance 43 = .ok (.iconst 1, 1) := by decide +kernel
theorem dX8_advance_44 : decode cX8_advance 44 = .ok (.iadd, 1) := by decide +kernel
theorem dX8_advance_45 : decode cX8_advance 45 = .ok (.putfield 22, 3) := by decide +kernel
theorem dX8_advance_48 : decode cX8_advance 48 = .ok (.goto (-40), 3) := by decide +kernel
theorem dX8_advance_51 : decode cX8_advance 51 = .ok (.aload_n 0, 1) := by decide +kernel
theorem dX8_advance_52 : decode cX8_advance 52 = .ok (.aload_n 0, 1) := by decide +kernel
theorem dX8_advance_53 : decode cX8_advance 53 = .ok (.getfield 9, 3) := by decide +kernel
theorem dX8_advance_56 : decode cX8_advance 56 = .ok (.aload_n 0, 1) := by decide +kernel
theorem dX8_advance_57 : decode cX8_advance 57 = .ok (.getfield 22, 3) := by decide +kernel
theorem dX8_advance_60 : decode cX8_advance 60 = .ok (.invokevirtual 30, 3) := by decide +kernel
theorem dX8_advance_63 : decode cX8_advance 63 = .ok (.invokestatic 34, 3) := by decide +kernel
theorem dX8_advance_66 : decode cX8_advance 66 = .ok (.putfield 37, 3) := by decide +kernel
theorem dX8_advance_69 : decode cX8_advance 69 = .ok (.aload_n 0, 1) := by decide +kernel
theorem dX8_advance_70 : decode cX8_advance 70 = .ok (.aload_n 0, 1) := by decide +kernel
theorem dX8_advance_71 : decode cX8_advance 71 = .ok (.getfield 22, 3) := by decide +kernel
theorem dX8_advance_74 : decode cX8_advance 74 = .ok (.putfield 15, 3) := by decide +kernel
theorem dX8_advance_77 : decode cX8_advance 77 = .ok (.aload_n 0, 1) := by decide +kernel
theorem dX8_advance_78 : decode cX8_advance 78 = .ok (.getfield 37, 3) := by decide +kernel
theorem dX8_advance_81 : decode cX8_advance 81 = .ok (.ifCond .ne 4, 3) := by decide +kernel
theorem dX8_advance_84 : decode cX8_advance 84 = .ok (.return_, 1) := by decide +kernel
theorem dX8_advance_85 : decode cX8_advance 85 = .ok (.aload_n 0, 1) := by decide +kernel
theorem dX8_advance_86 : decode cX8_advance 86 = .ok (.dup, 1) := by decide +kernel
theorem dX8_advance_87 : decode cX8_advance 87 = .ok (.getfield 15, 3) := by decide +kernel
theorem dX8_advance_90 : decode cX8_advance 90 = .ok (.iconst 1, 1) := by decide +kernel
theorem dX8_advance_91 : decode cX8_advance 91 = .ok (.iadd, 1) := by decide +kernel
theorem dX8_advance_92 : decode cX8_advance 92 = .ok (.putfield 15, 3) := by decide +kernel
theorem dX8_advance_95 : decode cX8_advance 95 = .ok (.aload_n 0, 1) := by decide +kernel
theorem dX8_advance_96 : decode cX8_advance 96 = .ok (.getfield 37, 3) := by decide +kernel
theorem dX8_advance_99 : decode cX8_advance 99 = .ok (.iconst 3, 1) := by decide +kernel
theorem dX8_advance_100 : decode cX8_advance 100 = .ok (.if_icmp .ne 4, 3) := by decide +kernel
theorem dX8_advance_103 : decode cX8_advance 103 = .ok (.return_, 1) := by decide +kernel
theorem dX8_advance_104 : decode cX8_advance 104 = .ok (.aload_n 0, 1) := by decide +kernel
theorem dX8_advance_105 : decode cX8_advance 105 = .ok (.getfield 15, 3) := by decide +kernel
theorem dX8_advance_108 : decode cX8_advance 108 = .ok (.aload_n 0, 1) := by decide +kernel
theorem dX8_advance_109 : decode cX8_advance 109 = .ok (.getfield 9, 3) := by decide +kernel
theorem dX8_advance_112 : decode cX8_advance 112 = .ok (.getfield 25, 3) := by decide +kernel
theorem dX8_advance_115 : decode cX8_advance 115 = .ok (.if_icmp .ge 37, 3) := by decide +kernel
theorem dX8_advance_118 : decode cX8_advance 118 = .ok (.aload_n 0, 1) := by decide +kernel
theorem dX8_advance_119 : decode cX8_advance 119 = .ok (.getfield 9, 3) := by decide +kernel
theorem dX8_advance_122 : decode cX8_advance 122 = .ok (.aload_n 0, 1) := by decide +kernel
theorem dX8_advance_123 : decode cX8_advance 123 = .ok (.getfield 15, 3) := by decide +kernel
theorem dX8_advance_126 : decode cX8_advance 126 = .ok (.invokevirtual 30, 3) := by decide +kernel
theorem dX8_advance_129 : decode cX8_advance 129 = .ok (.invokestatic 34, 3) := by decide +kernel
theorem dX8_advance_132 : decode cX8_advance 132 = .ok (.aload_n 0, 1) := by decide +kernel
theorem dX8_advance_133 : decode cX8_advance 133 = .ok (.getfield 37, 3) := by decide +kernel
theorem dX8_advance_136 : decode cX8_advance 136 = .ok (.if_icmp .ne 16, 3) := by decide +kernel
theorem dX8_advance_139 : decode cX8_advance 139 = .ok (.aload_n 0, 1) := by decide +kernel
theorem dX8_advance_140 : decode cX8_advance 140 = .ok (.dup, 1) := by decide +kernel
theorem dX8_advance_141 : decode cX8_advance 141 = .ok (.getfield 15, 3) := by decide +kernel
theorem dX8_advance_144 : decode cX8_advance 144 = .ok (.iconst 1, 1) := by decide +kernel
theorem dX8_advance_145 : decode cX8_advance 145 = .ok (.iadd, 1) := by decide +kernel
theorem dX8_advance_146 : decode cX8_advance 146 = .ok (.putfield 15, 3) := by decide +kernel
theorem dX8_advance_149 : decode cX8_advance 149 = .ok (.goto (-45), 3) := by decide +kernel
theorem dX8_advance_152 : decode cX8_advance 152 = .ok (.return_, 1) := by decide +kernel
theorem dX8_kindOfSign_0 : decode cX8_kindOfSign 0 = .ok (.iload_n 0, 1) := by decide +kernel
theorem dX8_kindOfSign_1 : decode cX8_kindOfSign 1 = .ok (.iconst (-1), 1) := by decide +kernel
theorem dX8_kindOfSign_2 : decode cX8_kindOfSign 2 = .ok (.if_icmp .ne 5, 3) := by decide +kernel
theorem dX8_kindOfSign_5 : decode cX8_kindOfSign 5 = .ok (.iconst 0, 1) := by decide +kernel
theorem dX8_kindOfSign_6 : decode cX8_kindOfSign 6 = .ok (.ireturn, 1) := by decide +kernel
theorem dX8_kindOfSign_7 : decode cX8_kindOfSign 7 = .ok (.iload_n 0, 1) := by decide +kernel
theorem dX8_kindOfSign_8 : decode cX8_kindOfSign 8 = .ok (.bipush 97, 2) := by decide +kernel
theorem dX8_kindOfSign_10 : decode cX8_kindOfSign 10 = .ok (.if_icmp .lt 11, 3) := by decide +kernel
theorem dX8_kindOfSign_13 : decode cX8_kindOfSign 13 = .ok (.iload_n 0, 1) := by decide +kernel
theorem dX8_kindOfSign_14 : decode cX8_kindOfSign 14 = .ok (.bipush 122, 2) := by decide +kernel
theorem dX8_kindOfSign_16 : decode cX8_kindOfSign 16 = .ok (.if_icmp .gt 5, 3) := by decide +kernel
theorem dX8_kindOfSign_19 : decode cX8_kindOfSign 19 = .ok (.iconst 1, 1) := by decide +kernel
theorem dX8_kindOfSign_20 : decode cX8_kindOfSign 20 = .ok (.ireturn, 1) := by decide +kernel
theorem dX8_kindOfSign_21 : decode cX8_kindOfSign 21 = .ok (.iload_n 0, 1) := by decide +kernel
theorem dX8_kindOfSign_22 : decode cX8_kindOfSign 22 = .ok (.bipush 48, 2) := by decide +kernel
theorem dX8_kindOfSign_24 : decode cX8_kindOfSign 24 = .ok (.if_icmp .lt 11, 3) := by decide +kernel
theorem dX8_kindOfSign_27 : decode cX8_kindOfSign 27 = .ok (.iload_n 0, 1) := by decide +kernel
theorem dX8_kindOfSign_28 : decode cX8_kindOfSign 28 = .ok (.bipush 57, 2) := by decide +kernel
theorem dX8_kindOfSign_30 : decode cX8_kindOfSign 30 = .ok (.if_icmp .gt 5, 3) := by decide +kernel
theorem dX8_kindOfSign_33 : decode cX8_kindOfSign 33 = .ok (.iconst 2, 1) := by decide +kernel
theorem dX8_kindOfSign_34 : decode cX8_kindOfSign 34 = .ok (.ireturn, 1) := by decide +kernel
theorem dX8_kindOfSign_35 : decode cX8_kindOfSign 35 = .ok (.iconst 3, 1) := by decide +kernel
theorem dX8_kindOfSign_36 : decode cX8_kindOfSign 36 = .ok (.ireturn, 1) := by decide +kernel
theorem dX8_isEnd_0 : decode cX8_isEnd 0 = .ok (.aload_n 0, 1) := by decide +kernel
theorem dX8_isEnd_1 : decode cX8_isEnd 1 = .ok (.getfield 37, 3) := by decide +kernel
theorem dX8_isEnd_4 : decode cX8_isEnd 4 = .ok (.ifCond .ne 7, 3) := by decide +kernel
theorem dX8_isEnd_7 : decode cX8_isEnd 7 = .ok (.iconst 1, 1) := by decide +kernel
theorem dX8_isEnd_8 : decode cX8_isEnd 8 = .ok (.goto 4, 3) := by decide +kernel
theorem dX8_isEnd_11 : decode cX8_isEnd 11 = .ok (.iconst 0, 1) := by decide +kernel
theorem dX8_isEnd_12 : decode cX8_isEnd 12 = .ok (.ireturn, 1) := by decide +kernel
theorem dX8_isSign_0 : decode cX8_isSign 0 = .ok (.aload_n 0, 1) := by decide +kernel
theorem dX8_isSign_1 : decode cX8_isSign 1 = .ok (.getfield 37, 3) := by decide +kernel
theorem dX8_isSign_4 : decode cX8_isSign 4 = .ok (.iconst 3, 1) := by decide +kernel
theorem dX8_isSign_5 : decode cX8_isSign 5 = .ok (.if_icmp .ne 22, 3) := by decide +kernel
theorem dX8_isSign_8 : decode cX8_isSign 8 = .ok (.aload_n 0, 1) := by decide +kernel
theorem dX8_isSign_9 : decode cX8_isSign 9 = .ok (.getfield 9, 3) := by decide +kernel
theorem dX8_isSign_12 : decode cX8_isSign 12 = .ok (.aload_n 0, 1) := by decide +kernel
theorem dX8_isSign_13 : decode cX8_isSign 13 = .ok (.getfield 22, 3) := by decide +kernel
theorem dX8_isSign_16 : decode cX8_isSign 16 = .ok (.invokevirtual 30, 3) := by decide +kernel
theorem dX8_isSign_19 : decode cX8_isSign 19 = .ok (.iload_n 1, 1) := by decide +kernel
theorem dX8_isSign_20 : decode cX8_isSign 20 = .ok (.if_icmp .ne 7, 3) := by decide +kernel
theorem dX8_isSign_23 : decode cX8_isSign 23 = .ok (.iconst 1, 1) := by decide +kernel
theorem dX8_isSign_24 : decode cX8_isSign 24 = .ok (.goto 4, 3) := by decide +kernel
theorem dX8_isSign_27 : decode cX8_isSign 27 = .ok (.iconst 0, 1) := by decide +kernel
theorem dX8_isSign_28 : decode cX8_isSign 28 = .ok (.ireturn, 1) := by decide +kernel
theorem dX8_isWord_0 : decode cX8_isWord 0 = .ok (.aload_n 0, 1) := by decide +kernel
theorem dX8_isWord_1 : decode cX8_isWord 1 = .ok (.getfield 37, 3) := by decide +kernel
theorem dX8_isWord_4 : decode cX8_isWord 4 = .ok (.iconst 1, 1) := by decide +kernel
theorem dX8_isWord_5 : decode cX8_isWord 5 = .ok (.if_icmp .ne 19, 3) := by decide +kernel
theorem dX8_isWord_8 : decode cX8_isWord 8 = .ok (.aload_n 0, 1) := by decide +kernel
theorem dX8_isWord_9 : decode cX8_isWord 9 = .ok (.getfield 15, 3) := by decide +kernel
theorem dX8_isWord_12 : decode cX8_isWord 12 = .ok (.aload_n 0, 1) := by decide +kernel
theorem dX8_isWord_13 : decode cX8_isWord 13 = .ok (.getfield 22, 3) := by decide +kernel
theorem dX8_isWord_16 : decode cX8_isWord 16 = .ok (.isub, 1) := by decide +kernel
theorem dX8_isWord_17 : decode cX8_isWord 17 = .ok (.aload_n 1, 1) := by decide +kernel
theorem dX8_isWord_18 : decode cX8_isWord 18 = .ok (.invokevirtual 40, 3) := by decide +kernel
theorem dX8_isWord_21 : decode cX8_isWord 21 = .ok (.if_icmp .eq 5, 3) := by decide +kernel
theorem dX8_isWord_24 : decode cX8_isWord 24 = .ok (.iconst 0, 1) := by decide +kernel
theorem dX8_isWord_25 : decode cX8_isWord 25 = .ok (.ireturn, 1) := by decide +kernel
theorem dX8_isWord_26 : decode cX8_isWord 26 = .ok (.iconst 0, 1) := by decide +kernel
theorem dX8_isWord_27 : decode cX8_isWord 27 = .ok (.istore_n 2, 1) := by decide +kernel
theorem dX8_isWord_28 : decode cX8_isWord 28 = .ok (.iload_n 2, 1) := by decide +kernel
theorem dX8_isWord_29 : decode cX8_isWord 29 = .ok (.aload_n 1, 1) := by decide +kernel
theorem dX8_isWord_30 : decode cX8_isWord 30 = .ok (.invokevirtual 40, 3) := by decide +kernel
theorem dX8_isWord_33 : decode cX8_isWord 33 = .ok (.if_icmp .ge 32, 3) := by decide +kernel
theorem dX8_isWord_36 : decode cX8_isWord 36 = .ok (.aload_n 0, 1) := by decide +kernel
theorem dX8_isWord_37 : decode cX8_isWord 37 = .ok (.getfield 9, 3) := by decide +kernel
theorem dX8_isWord_40 : decode cX8_isWord 40 = .ok (.aload_n 0, 1) := by decide +kernel
theorem dX8_isWord_41 : decode cX8_isWord 41 = .ok (.getfield 22, 3) := by decide +kernel
theorem dX8_isWord_44 : decode cX8_isWord 44 = .ok (.iload_n 2, 1) := by decide +kernel
theorem dX8_isWord_45 : decode cX8_isWord 45 = .ok (.iadd, 1) := by decide +kernel
theorem dX8_isWord_46 : decode cX8_isWord 46 = .ok (.invokevirtual 30, 3) := by decide +kernel
theorem dX8_isWord_49 : decode cX8_isWord 49 = .ok (.aload_n 1, 1) := by decide +kernel
theorem dX8_isWord_50 : decode cX8_isWord 50 = .ok (.iload_n 2, 1) := by decide +kernel
theorem dX8_isWord_51 : decode cX8_isWord 51 = .ok (.invokevirtual 45, 3) := by decide +kernel
theorem dX8_isWord_54 : decode cX8_isWord 54 = .ok (.if_icmp .eq 5, 3) := by decide +kernel
theorem dX8_isWord_57 : decode cX8_isWord 57 = .ok (.iconst 0, 1) := by decide +kernel
theorem dX8_isWord_58 : decode cX8_isWord 58 = .ok (.ireturn, 1) := by decide +kernel
theorem dX8_isWord_59 : decode cX8_isWord 59 = .ok (.iinc 2 1, 3) := by decide +kernel
theorem dX8_isWord_62 : decode cX8_isWord 62 = .ok (.goto (-34), 3) := by decide +kernel
theorem dX8_isWord_65 : decode cX8_isWord 65 = .ok (.iconst 1, 1) := by decide +kernel
theorem dX8_isWord_66 : decode cX8_isWord 66 = .ok (.ireturn, 1) := by decide +kernel
theorem dX8_number_0 : decode cX8_number 0 = .ok (.aload_n 0, 1) := by decide +kernel
theorem dX8_number_1 : decode cX8_number 1 = .ok (.getfield 37, 3) := by decide +kernel
theorem dX8_number_4 : decode cX8_number 4 = .ok (.iconst 3, 1) := by decide +kernel
theorem dX8_number_5 : decode cX8_number 5 = .ok (.if_icmp .ne 21, 3) := by decide +kernel
theorem dX8_number_8 : decode cX8_number 8 = .ok (.aload_n 0, 1) := by decide +kernel
theorem dX8_number_9 : decode cX8_number 9 = .ok (.getfield 9, 3) := by decide +kernel
theorem dX8_number_12 : decode cX8_number 12 = .ok (.aload_n 0, 1) := by decide +kernel
theorem dX8_number_13 : decode cX8_number 13 = .ok (.getfield 22, 3) := by decide +kernel
theorem dX8_number_16 : decode cX8_number 16 = .ok (.invokevirtual 30, 3) := by decide +kernel
theorem dX8_number_19 : decode cX8_number 19 = .ok (.bipush 45, 2) := by decide +kernel
theorem dX8_number_21 : decode cX8_number 21 = .ok (.if_icmp .ne 5, 3) := by decide +kernel
theorem dX8_number_24 : decode cX8_number 24 = .ok (.iconst (-1), 1) := by decide +kernel
theorem dX8_number_25 : decode cX8_number 25 = .ok (.ireturn, 1) := by decide +kernel
theorem dX8_number_26 : decode cX8_number 26 = .ok (.aload_n 0, 1) := by decide +kernel
theorem dX8_number_27 : decode cX8_number 27 = .ok (.getfield 37, 3) := by decide +kernel
theorem dX8_number_30 : decode cX8_number 30 = .ok (.iconst 2, 1) := by decide +kernel
theorem dX8_number_31 : decode cX8_number 31 = .ok (.if_icmp .ne 16, 3) := by decide +kernel
theorem dX8_number_34 : decode cX8_number 34 = .ok (.aload_n 0, 1) := by decide +kernel
theorem dX8_number_35 : decode cX8_number 35 = .ok (.getfield 15, 3) := by decide +kernel
theorem dX8_number_38 : decode cX8_number 38 = .ok (.aload_n 0, 1) := by decide +kernel
theorem dX8_number_39 : decode cX8_number 39 = .ok (.getfield 22, 3) := by decide +kernel
theorem dX8_number_42 : decode cX8_number 42 = .ok (.isub, 1) := by decide +kernel
theorem dX8_number_43 : decode cX8_number 43 = .ok (.iconst 2, 1) := by decide +kernel
theorem dX8_number_44 : decode cX8_number 44 = .ok (.if_icmp .le 6, 3) := by decide +kernel
theorem dX8_number_47 : decode cX8_number 47 = .ok (.ldc 49, 2) := by decide +kernel
theorem dX8_number_49 : decode cX8_number 49 = .ok (.ireturn, 1) := by decide +kernel
theorem dX8_number_50 : decode cX8_number 50 = .ok (.iconst 0, 1) := by decide +kernel
theorem dX8_number_51 : decode cX8_number 51 = .ok (.istore_n 1, 1) := by decide +kernel
theorem dX8_number_52 : decode cX8_number 52 = .ok (.aload_n 0, 1) := by decide +kernel
theorem dX8_number_53 : decode cX8_number 53 = .ok (.getfield 22, 3) := by decide +kernel
theorem dX8_number_56 : decode cX8_number 56 = .ok (.istore_n 2, 1) := by decide +kernel
theorem dX8_number_57 : decode cX8_number 57 = .ok (.iload_n 2, 1) := by decide +kernel
theorem dX8_number_58 : decode cX8_number 58 = .ok (.aload_n 0, 1) := by decide +kernel
theorem dX8_number_59 : decode cX8_number 59 = .ok (.getfield 15, 3) := by decide +kernel
theorem dX8_number_62 : decode cX8_number 62 = .ok (.if_icmp .ge 26, 3) := by decide +kernel
theorem dX8_number_65 : decode cX8_number 65 = .ok (.iload_n 1, 1) := by decide +kernel
theorem dX8_number_66 : decode cX8_number 66 = .ok (.bipush 10, 2) := by decide +kernel
theorem dX8_number_68 : decode cX8_number 68 = .ok (.imul, 1) := by decide +kernel
theorem dX8_number_69 : decode cX8_number 69 = .ok (.aload_n 0, 1) := by decide +kernel
theorem dX8_number_70 : decode cX8_number 70 = .ok (.getfield 9, 3) := by decide +kernel
theorem dX8_number_73 : decode cX8_number 73 = .ok (.iload_n 2, 1) := by decide +kernel
theorem dX8_number_74 : decode cX8_number 74 = .ok (.invokevirtual 30, 3) := by decide +kernel
theorem dX8_number_77 : decode cX8_number 77 = .ok (.iadd, 1) := by decide +kernel
theorem dX8_number_78 : decode cX8_number 78 = .ok (.bipush 48, 2) := by decide +kernel
theorem dX8_number_80 : decode cX8_number 80 = .ok (.isub, 1) := by decide +kernel
theorem dX8_number_81 : decode cX8_number 81 = .ok (.istore_n 1, 1) := by decide +kernel
theorem dX8_number_82 : decode cX8_number 82 = .ok (.iinc 2 1, 3) := by decide +kernel
theorem dX8_number_85 : decode cX8_number 85 = .ok (.goto (-28), 3) := by decide +kernel
theorem dX8_number_88 : decode cX8_number 88 = .ok (.iload_n 1, 1) := by decide +kernel
theorem dX8_number_89 : decode cX8_number 89 = .ok (.ireturn, 1) := by decide +kernel
theorem dX9_init_0 : decode cX9_init 0 = .ok (.aload_n 0, 1) := by decide +kernel
theorem dX9_init_1 : decode cX9_init 1 = .ok (.invokespecial 3, 3) := by decide +kernel
theorem dX9_init_4 : decode cX9_init 4 = .ok (.aload_n 0, 1) := by decide +kernel
theorem dX9_init_5 : decode cX9_init 5 = .ok (.bipush 6, 2) := by decide +kernel
theorem dX9_init_7 : decode cX9_init 7 = .ok (.newarray .int, 2) := by decide +kernel
theorem dX9_init_9 : decode cX9_init 9 = .ok (.putfield 9, 3) := by decide +kernel
theorem dX9_init_12 : decode cX9_init 12 = .ok (.aload_n 0, 1) := by decide +kernel
theorem dX9_init_13 : decode cX9_init 13 = .ok (.iconst 5, 1) := by decide +kernel
theorem dX9_init_14 : decode cX9_init 14 = .ok (.newarray .int, 2) := by decide +kernel
theorem dX9_init_16 : decode cX9_init 16 = .ok (.putfield 15, 3) := by decide +kernel
theorem dX9_init_19 : decode cX9_init 19 = .ok (.aload_n 0, 1) := by decide +kernel
theorem dX9_init_20 : decode cX9_init 20 = .ok (.bipush 10, 2) := by decide +kernel
theorem dX9_init_22 : decode cX9_init 22 = .ok (.newarray .int, 2) := by decide +kernel
theorem dX9_init_24 : decode cX9_init 24 = .ok (.putfield 18, 3) := by decide +kernel
theorem dX9_init_27 : decode cX9_init 27 = .ok (.aload_n 0, 1) := by decide +kernel
theorem dX9_init_28 : decode cX9_init 28 = .ok (.iconst 5, 1) := by decide +kernel
theorem dX9_init_29 : decode cX9_init 29 = .ok (.newarray .int, 2) := by decide +kernel
theorem dX9_init_31 : decode cX9_init 31 = .ok (.putfield 21, 3) := by decide +kernel
theorem dX9_init_34 : decode cX9_init 34 = .ok (.aload_n 0, 1) := by decide +kernel
theorem dX9_init_35 : decode cX9_init 35 = .ok (.bipush 96, 2) := by decide +kernel
theorem dX9_init_37 : decode cX9_init 37 = .ok (.newarray .int, 2) := by decide +kernel
theorem dX9_init_39 : decode cX9_init 39 = .ok (.putfield 24, 3) := by decide +kernel
theorem dX9_init_42 : decode cX9_init 42 = .ok (.aload_n 0, 1) := by decide +kernel
theorem dX9_init_43 : decode cX9_init 43 = .ok (.iconst 1, 1) := by decide +kernel
theorem dX9_init_44 : decode cX9_init 44 = .ok (.putfield 27, 3) := by decide +kernel
theorem dX9_init_47 : decode cX9_init 47 = .ok (.aload_n 0, 1) := by decide +kernel
theorem dX9_init_48 : decode cX9_init 48 = .ok (.iconst 2, 1) := by decide +kernel
theorem dX9_init_49 : decode cX9_init 49 = .ok (.iconst 2, 1) := by decide +kernel
theorem dX9_init_50 : decode cX9_init 50 = .ok (.invokevirtual 31, 3) := by decide +kernel
theorem dX9_init_53 : decode cX9_init 53 = .ok (.return_, 1) := by decide +kernel
theorem dX9_settle_0 : decode cX9_settle 0 = .ok (.aload_n 0, 1) := by decide +kernel
theorem dX9_settle_1 : decode cX9_settle 1 = .ok (.iload_n 1, 1) := by decide +kernel
theorem dX9_settle_2 : decode cX9_settle 2 = .ok (.putfield 35, 3) := by decide +kernel
theorem dX9_settle_5 : decode cX9_settle 5 = .ok (.aload_n 0, 1) := by decide +kernel
theorem dX9_settle_6 : decode cX9_settle 6 = .ok (.iload_n 2, 1) := by decide +kernel
theorem dX9_settle_7 : decode cX9_settle 7 = .ok (.putfield 38, 3) := by decide +kernel
theorem dX9_settle_10 : decode cX9_settle 10 = .ok (.aload_n 0, 1) := by decide +kernel
theorem dX9_settle_11 : decode cX9_settle 11 = .ok (.getfield 9, 3) := by decide +kernel
theorem dX9_settle_14 : decode cX9_settle 14 = .ok (.iconst 0, 1) := by decide +kernel
theorem dX9_settle_15 : decode cX9_settle 15 = .ok (.invokestatic 41, 3) := by decide +kernel
theorem dX9_settle_18 : decode cX9_settle 18 = .ok (.aload_n 0, 1) := by decide +kernel
theorem dX9_settle_19 : decode cX9_settle 19 = .ok (.getfield 24, 3) := by decide +kernel
theorem dX9_settle_22 : decode cX9_settle 22 = .ok (.iconst 5, 1) := by decide +kernel
theorem dX9_settle_23 : decode cX9_settle 23 = .ok (.invokestatic 41, 3) := by decide +kernel
theorem dX9_settle_26 : decode cX9_settle 26 = .ok (.return_, 1) := by decide +kernel
theorem dX9_becomeLike_0 : decode cX9_becomeLike 0 = .ok (.aload_n 0, 1) := by decide +kernel
theorem dX9_becomeLike_1 : decode cX9_becomeLike 1 = .ok (.aload_n 1, 1) := by decide +kernel
theorem dX9_becomeLike_2 : decode cX9_becomeLike 2 = .ok (.getfield 35, 3) := by decide +kernel
theorem dX9_becomeLike_5 : decode cX9_becomeLike 5 = .ok (.putfield 35, 3) := by decide +kernel
theorem dX9_becomeLike_8 : decode cX9_becomeLike 8 = .ok (.aload_n 0, 1) := by decide +kernel
theorem dX9_becomeLike_9 : decode cX9_becomeLike 9 = .ok (.aload_n 1, 1) := by decide +kernel
theorem dX9_becomeLike_10 : decode cX9_becomeLike 10 = .ok (.getfield 38, 3) := by decide +kernel
theorem dX9_becomeLike_13 : decode cX9_becomeLike 13 = .ok (.putfield 38, 3) := by decide +kernel
theorem dX9_becomeLike_16 : decode cX9_becomeLike 16 = .ok (.aload_n 0, 1) := by decide +kernel
theorem dX9_becomeLike_17 : decode cX9_becomeLike 17 = .ok (.aload_n 1, 1) := by decide +kernel
theorem dX9_becomeLike_18 : decode cX9_becomeLike 18 = .ok (.getfield 47, 3) := by decide +kernel
theorem dX9_becomeLike_21 : decode cX9_becomeLike 21 = .ok (.putfield 47, 3) := by decide +kernel
theorem dX9_becomeLike_24 : decode cX9_becomeLike 24 = .ok (.aload_n 0, 1) := by decide +kernel
theorem dX9_becomeLike_25 : decode cX9_becomeLike 25 = .ok (.aload_n 1, 1) := by decide +kernel
theorem dX9_becomeLike_26 : decode cX9_becomeLike 26 = .ok (.getfield 27, 3) := by decide +kernel
theorem dX9_becomeLike_29 : decode cX9_becomeLike 29 = .ok (.putfield 27, 3) := by decide +kernel
theorem dX9_becomeLike_32 : decode cX9_becomeLike 32 = .ok (.iconst 0, 1) := by decide +kernel
theorem dX9_becomeLike_33 : decode cX9_becomeLike 33 = .ok (.istore_n 2, 1) := by decide +kernel
theorem dX9_becomeLike_34 : decode cX9_becomeLike 34 = .ok (.iload_n 2, 1) := by decide +kernel
theorem dX9_becomeLike_35 : decode cX9_becomeLike 35 = .ok (.bipush 6, 2) := by decide +kernel
theorem dX9_becomeLike_37 : decode cX9_becomeLike 37 = .ok (.if_icmp .ge 21, 3) := by decide +kernel
theorem dX9_becomeLike_40 : decode cX9_becomeLike 40 = .ok (.aload_n 0, 1) := by decide +kernel
theorem dX9_becomeLike_41 : decode cX9_becomeLike 41 = .ok (.getfield 9, 3) := by decide +kernel
theorem dX9_becomeLike_44 : decode cX9_becomeLike 44 = .ok (.iload_n 2, 1) := by decide +kernel
theorem dX9_becomeLike_45 : decode cX9_becomeLike 45 = .ok (.aload_n 1, 1) := by decide +kernel
theorem dX9_becomeLike_46 : decode cX9_becomeLike 46 = .ok (.getfield 9, 3) := by decide +kernel
theorem dX9_becomeLike_49 : decode cX9_becomeLike 49 = .ok (.iload_n 2, 1) := by decide +kernel
theorem dX9_becomeLike_50 : decode cX9_becomeLike 50 = .ok (.iaload, 1) := by decide +kernel
theorem dX9_becomeLike_51 : decode cX9_becomeLike 51 = .ok (.iastore, 1) := by decide +kernel
theorem dX9_becomeLike_52 : decode cX9_becomeLike 52 = .ok (.iinc 2 1, 3) := by decide +kernel
theorem dX9_becomeLike_55 : decode cX9_becomeLike 55 = .ok (.goto (-21), 3) := by decide +kernel
theorem dX9_becomeLike_58 : decode cX9_becomeLike 58 = .ok (.iconst 0, 1) := by decide +kernel
theorem dX9_becomeLike_59 : decode cX9_becomeLike 59 = .ok (.istore_n 2, 1) := by decide +kernel
theorem dX9_becomeLike_60 : decode cX9_becomeLike 60 = .ok (.iload_n 2, 1) := by decide +kernel
theorem dX9_becomeLike_61 : decode cX9_becomeLike 61 = .ok (.iconst 5, 1) := by decide +kernel
theorem dX9_becomeLike_62 : decode cX9_becomeLike 62 = .ok (.if_icmp .ge 33, 3) := by decide +kernel
theorem dX9_becomeLike_65 : decode cX9_becomeLike 65 = .ok (.aload_n 0, 1) := by decide +kernel
theorem dX9_becomeLike_66 : decode cX9_becomeLike 66 = .ok (.getfield 15, 3) := by decide +kernel
theorem dX9_becomeLike_69 : decode cX9_becomeLike 69 = .ok (.iload_n 2, 1) := by decide +kernel
theorem dX9_becomeLike_70 : decode cX9_becomeLike 70 = .ok (.aload_n 1, 1) := by decide +kernel
theorem dX9_becomeLike_71 : decode cX9_becomeLike 71 = .ok (.getfield 15, 3) := by decide +kernel
theorem dX9_becomeLike_74 : decode cX9_becomeLike 74 = .ok (.iload_n 2, 1) := by decide +kernel
theorem dX9_becomeLike_75 : decode cX9_becomeLike 75 = .ok (.iaload, 1) := by decide +kernel
theorem dX9_becomeLike_76 : decode cX9_becomeLike 76 = .ok (.iastore, 1) := by decide +kernel
theorem dX9_becomeLike_77 : decode cX9_becomeLike 77 = .ok (.aload_n 0, 1) := by decide +kernel
theorem dX9_becomeLike_78 : decode cX9_becomeLike 78 = .ok (.getfield 21, 3) := by decide +kernel
theorem dX9_becomeLike_81 : decode cX9_becomeLike 81 = .ok (.iload_n 2, 1) := by decide +kernel
theorem dX9_becomeLike_82 : decode cX9_becomeLike 82 = .ok (.aload_n 1, 1) := by decide +kernel
theorem dX9_becomeLike_83 : decode cX9_becomeLike 83 = .ok (.getfield 21, 3) := by decide +kernel
theorem dX9_becomeLike_86 : decode cX9_becomeLike 86 = .ok (.iload_n 2, 1) := by decide +kernel
theorem dX9_becomeLike_87 : decode cX9_becomeLike 87 = .ok (.iaload, 1) := by decide +kernel
theorem dX9_becomeLike_88 : decode cX9_becomeLike 88 = .ok (.iastore, 1) := by decide +kernel
theorem dX9_becomeLike_89 : decode cX9_becomeLike 89 = .ok (.iinc 2 1, 3) := by decide +kernel
theorem dX9_becomeLike_92 : decode cX9_becomeLike 92 = .ok (.goto (-32), 3) := by decide +kernel
theorem dX9_becomeLike_95 : decode cX9_becomeLike 95 = .ok (.iconst 0, 1) := by decide +kernel
theorem dX9_becomeLike_96 : decode cX9_becomeLike 96 = .ok (.istore_n 2, 1) := by decide +kernel
theorem dX9_becomeLike_97 : decode cX9_becomeLike 97 = .ok (.iload_n 2, 1) := by decide +kernel
theorem dX9_becomeLike_98 : decode cX9_becomeLike 98 = .ok (.bipush 10, 2) := by decide +kernel
theorem dX9_becomeLike_100 : decode cX9_becomeLike 100 = .ok (.if_icmp .ge 21, 3) := by decide +kernel
theorem dX9_becomeLike_103 : decode cX9_becomeLike 103 = .ok (.aload_n 0, 1) := by decide +kernel
theorem dX9_becomeLike_104 : decode cX9_becomeLike 104 = .ok (.getfield 18, 3) := by decide +kernel
theorem dX9_becomeLike_107 : decode cX9_becomeLike 107 = .ok (.iload_n 2, 1) := by decide +kernel
theorem dX9_becomeLike_108 : decode cX9_becomeLike 108 = .ok (.aload_n 1, 1) := by decide +kernel
theorem dX9_becomeLike_109 : decode cX9_becomeLike 109 = .ok (.getfield 18, 3) := by decide +kernel
theorem dX9_becomeLike_112 : decode cX9_becomeLike 112 = .ok (.iload_n 2, 1) := by decide +kernel
theorem dX9_becomeLike_113 : decode cX9_becomeLike 113 = .ok (.iaload, 1) := by decide +kernel
theorem dX9_becomeLike_114 : decode cX9_becomeLike 114 = .ok (.iastore, 1) := by decide +kernel
theorem dX9_becomeLike_115 : decode cX9_becomeLike 115 = .ok (.iinc 2 1, 3) := by decide +kernel
theorem dX9_becomeLike_118 : decode cX9_becomeLike 118 = .ok (.goto (-21), 3) := by decide +kernel
theorem dX9_becomeLike_121 : decode cX9_becomeLike 121 = .ok (.iconst 0, 1) := by decide +kernel
theorem dX9_becomeLike_122 : decode cX9_becomeLike 122 = .ok (.istore_n 2, 1) := by decide +kernel
theorem dX9_becomeLike_123 : decode cX9_becomeLike 123 = .ok (.iload_n 2, 1) := by decide +kernel
theorem dX9_becomeLike_124 : decode cX9_becomeLike 124 = .ok (.bipush 96, 2) := by decide +kernel
theorem dX9_becomeLike_126 : decode cX9_becomeLike 126 = .ok (.if_icmp .ge 21, 3) := by decide +kernel
theorem dX9_becomeLike_129 : decode cX9_becomeLike 129 = .ok (.aload_n 0, 1) := by decide +kernel
theorem dX9_becomeLike_130 : decode cX9_becomeLike 130 = .ok (.getfield 24, 3) := by decide +kernel
theorem dX9_becomeLike_133 : decode cX9_becomeLike 133 = .ok (.iload_n 2, 1) := by decide +kernel
theorem dX9_becomeLike_134 : decode cX9_becomeLike 134 = .ok (.aload_n 1, 1) := by decide +kernel
theorem dX9_becomeLike_135 : decode cX9_becomeLike 135 = .ok (.getfield 24, 3) := by decide +kernel
theorem dX9_becomeLike_138 : decode cX9_becomeLike 138 = .ok (.iload_n 2, 1) := by decide +kernel
theorem dX9_becomeLike_139 : decode cX9_becomeLike 139 = .ok (.iaload, 1) := by decide +kernel
theorem dX9_becomeLike_140 : decode cX9_becomeLike 140 = .ok (.iastore, 1) := by decide +kernel
theorem dX9_becomeLike_141 : decode cX9_becomeLike 141 = .ok (.iinc 2 1, 3) := by decide +kernel
theorem dX9_becomeLike_144 : decode cX9_becomeLike 144 = .ok (.goto (-21), 3) := by decide +kernel
theorem dX9_becomeLike_147 : decode cX9_becomeLike 147 = .ok (.return_, 1) := by decide +kernel
theorem dX9_tellWork_0 : decode cX9_tellWork 0 = .ok (.iload_n 1, 1) := by decide +kernel
theorem dX9_tellWork_1 : decode cX9_tellWork 1 = .ok (.ifCond .lt 8, 3) := by decide +kernel
theorem dX9_tellWork_4 : decode cX9_tellWork 4 = .ok (.iload_n 1, 1) := by decide +kernel
theorem dX9_tellWork_5 : decode cX9_tellWork 5 = .ok (.iconst 5, 1) := by decide +kernel
theorem dX9_tellWork_6 : decode cX9_tellWork 6 = .ok (.if_icmp .lt 4, 3) := by decide +kernel
theorem dX9_tellWork_9 : decode cX9_tellWork 9 = .ok (.return_, 1) := by decide +kernel
theorem dX9_tellWork_10 : decode cX9_tellWork 10 = .ok (.aload_n 0, 1) := by decide +kernel
theorem dX9_tellWork_11 : decode cX9_tellWork 11 = .ok (.getfield 15, 3) := by decide +kernel
theorem dX9_tellWork_14 : decode cX9_tellWork 14 = .ok (.iload_n 1, 1) := by decide +kernel
theorem dX9_tellWork_15 : decode cX9_tellWork 15 = .ok (.iload_n 2, 1) := by decide +kernel
theorem dX9_tellWork_16 : decode cX9_tellWork 16 = .ok (.iastore, 1) := by decide +kernel
theorem dX9_tellWork_17 : decode cX9_tellWork 17 = .ok (.aload_n 0, 1) := by decide +kernel
theorem dX9_tellWork_18 : decode cX9_tellWork 18 = .ok (.getfield 21, 3) := by decide +kernel
theorem dX9_tellWork_21 : decode cX9_tellWork 21 = .ok (.iload_n 1, 1) := by decide +kernel
theorem dX9_tellWork_22 : decode cX9_tellWork 22 = .ok (.iload_n 3, 1) := by decide +kernel
theorem dX9_tellWork_23 : decode cX9_tellWork 23 = .ok (.iastore, 1) := by decide +kernel
theorem dX9_tellWork_24 : decode cX9_tellWork 24 = .ok (.return_, 1) := by decide +kernel
theorem dX9_tellBread_0 : decode cX9_tellBread 0 = .ok (.iload_n 1, 1) := by decide +kernel
theorem dX9_tellBread_1 : decode cX9_tellBread 1 = .ok (.ifCond .lt 17, 3) := by decide +kernel
theorem dX9_tellBread_4 : decode cX9_tellBread 4 = .ok (.iload_n 1, 1) := by decide +kernel
theorem dX9_tellBread_5 : decode cX9_tellBread 5 = .ok (.iconst 2, 1) := by decide +kernel
theorem dX9_tellBread_6 : decode cX9_tellBread 6 = .ok (.if_icmp .ge 12, 3) := by decide +kernel
theorem dX9_tellBread_9 : decode cX9_tellBread 9 = .ok (.iload_n 2, 1) := by decide +kernel
theorem dX9_tellBread_10 : decode cX9_tellBread 10 = .ok (.ifCond .lt 8, 3) := by decide +kernel
theorem dX9_tellBread_13 : decode cX9_tellBread 13 = .ok (.iload_n 2, 1) := by decide +kernel
theorem dX9_tellBread_14 : decode cX9_tellBread 14 = .ok (.iconst 5, 1) := by decide +kernel
theorem dX9_tellBread_15 : decode cX9_tellBread 15 = .ok (.if_icmp .lt 4, 3) := by decide +kernel
theorem dX9_tellBread_18 : decode cX9_tellBread 18 = .ok (.return_, 1) := by decide +kernel
theorem dX9_tellBread_19 : decode cX9_tellBread 19 = .ok (.aload_n 0, 1) := by decide +kernel
theorem dX9_tellBread_20 : decode cX9_tellBread 20 = .ok (.getfield 18, 3) := by decide +kernel
theorem dX9_tellBread_23 : decode cX9_tellBread 23 = .ok (.iload_n 1, 1) := by decide +kernel
theorem dX9_tellBread_24 : decode cX9_tellBread 24 = .ok (.iconst 5, 1) := by decide +kernel
theorem dX9_tellBread_25 : decode cX9_tellBread 25 = .ok (.imul, 1) := by decide +kernel
theorem dX9_tellBread_26 : decode cX9_tellBread 26 = .ok (.iload_n 2, 1) := by decide +kernel
theorem dX9_tellBread_27 : decode cX9_tellBread 27 = .ok (.iadd, 1) := by decide +kernel
theorem dX9_tellBread_28 : decode cX9_tellBread 28 = .ok (.iload_n 3, 1) := by decide +kernel
theorem dX9_tellBread_29 : decode cX9_tellBread 29 = .ok (.iastore, 1) := by decide +kernel
theorem dX9_tellBread_30 : decode cX9_tellBread 30 = .ok (.return_, 1) := by decide +kernel
theorem dX9_tellKind_0 : decode cX9_tellKind 0 = .ok (.aload_n 0, 1) := by decide +kernel
theorem dX9_tellKind_1 : decode cX9_tellKind 1 = .ok (.iload_n 1, 1) := by decide +kernel
theorem dX9_tellKind_2 : decode cX9_tellKind 2 = .ok (.invokevirtual 50, 3) := by decide +kernel
theorem dX9_tellKind_5 : decode cX9_tellKind 5 = .ok (.ifCond .eq 10, 3) := by decide +kernel
theorem dX9_tellKind_8 : decode cX9_tellKind 8 = .ok (.aload_n 0, 1) := by decide +kernel
theorem dX9_tellKind_9 : decode cX9_tellKind 9 = .ok (.getfield 9, 3) := by decide +kernel
theorem dX9_tellKind_12 : decode cX9_tellKind 12 = .ok (.iload_n 1, 1) := by decide +kernel
theorem dX9_tellKind_13 : decode cX9_tellKind 13 = .ok (.iload_n 2, 1) := by decide +kernel
theorem dX9_tellKind_14 : decode cX9_tellKind 14 = .ok (.iastore, 1) := by decide +kernel
theorem dX9_tellKind_15 : decode cX9_tellKind 15 = .ok (.return_, 1) := by decide +kernel
theorem dX9_tellMeant_0 : decode cX9_tellMeant 0 = .ok (.iload_n 1, 1) := by decide +kernel
theorem dX9_tellMeant_1 : decode cX9_tellMeant 1 = .ok (.bipush 48, 2) := by decide +kernel
theorem dX9_tellMeant_3 : decode cX9_tellMeant 3 = .ok (.imul, 1) := by decide +kernel
theorem dX9_tellMeant_4 : decode cX9_tellMeant 4 = .ok (.iload_n 2, 1) := by decide +kernel
theorem dX9_tellMeant_5 : decode cX9_tellMeant 5 = .ok (.iadd, 1) := by decide +kernel
theorem dX9_tellMeant_6 : decode cX9_tellMeant 6 = .ok (.istore 4, 2) := by decide +kernel
theorem dX9_tellMeant_8 : decode cX9_tellMeant 8 = .ok (.iload 4, 2) := by decide +kernel
theorem dX9_tellMeant_10 : decode cX9_tellMeant 10 = .ok (.iconst 0, 1) := by decide +kernel
theorem dX9_tellMeant_11 : decode cX9_tellMeant 11 = .ok (.aload_n 0, 1) := by decide +kernel
theorem dX9_tellMeant_12 : decode cX9_tellMeant 12 = .ok (.getfield 24, 3) := by decide +kernel
theorem dX9_tellMeant_15 : decode cX9_tellMeant 15 = .ok (.arraylength, 1) := by decide +kernel
theorem dX9_tellMeant_16 : decode cX9_tellMeant 16 = .ok (.iconst 1, 1) := by decide +kernel
theorem dX9_tellMeant_17 : decode cX9_tellMeant 17 = .ok (.isub, 1) := by decide +kernel
theorem dX9_tellMeant_18 : decode cX9_tellMeant 18 = .ok (.invokestatic 54, 3) := by decide +kernel
theorem dX9_tellMeant_21 : decode cX9_tellMeant 21 = .ok (.ifCond .eq 11, 3) := by decide +kernel
theorem dX9_tellMeant_24 : decode cX9_tellMeant 24 = .ok (.aload_n 0, 1) := by decide +kernel
theorem dX9_tellMeant_25 : decode cX9_tellMeant 25 = .ok (.getfield 24, 3) := by decide +kernel
theorem dX9_tellMeant_28 : decode cX9_tellMeant 28 = .ok (.iload 4, 2) := by decide +kernel
theorem dX9_tellMeant_30 : decode cX9_tellMeant 30 = .ok (.iload_n 3, 1) := by decide +kernel
theorem dX9_tellMeant_31 : decode cX9_tellMeant 31 = .ok (.iastore, 1) := by decide +kernel
theorem dX9_tellMeant_32 : decode cX9_tellMeant 32 = .ok (.return_, 1) := by decide +kernel
theorem dX9_hasPair_0 : decode cX9_hasPair 0 = .ok (.iload_n 1, 1) := by decide +kernel
theorem dX9_hasPair_1 : decode cX9_hasPair 1 = .ok (.iconst 0, 1) := by decide +kernel
theorem dX9_hasPair_2 : decode cX9_hasPair 2 = .ok (.aload_n 0, 1) := by decide +kernel
theorem dX9_hasPair_3 : decode cX9_hasPair 3 = .ok (.getfield 35, 3) := by decide +kernel
theorem dX9_hasPair_6 : decode cX9_hasPair 6 = .ok (.iconst 1, 1) := by decide +kernel
theorem dX9_hasPair_7 : decode cX9_hasPair 7 = .ok (.isub, 1) := by decide +kernel
theorem dX9_hasPair_8 : decode cX9_hasPair 8 = .ok (.invokestatic 54, 3) := by decide +kernel
theorem dX9_hasPair_11 : decode cX9_hasPair 11 = .ok (.ireturn, 1) := by decide +kernel
theorem dX9_hasHour_0 : decode cX9_hasHour 0 = .ok (.iload_n 1, 1) := by decide +kernel
theorem dX9_hasHour_1 : decode cX9_hasHour 1 = .ok (.iconst 0, 1) := by decide +kernel
theorem dX9_hasHour_2 : decode cX9_hasHour 2 = .ok (.aload_n 0, 1) := by decide +kernel
theorem dX9_hasHour_3 : decode cX9_hasHour 3 = .ok (.getfield 38, 3) := by decide +kernel
theorem dX9_hasHour_6 : decode cX9_hasHour 6 = .ok (.iconst 1, 1) := by decide +kernel
theorem dX9_hasHour_7 : decode cX9_hasHour 7 = .ok (.isub, 1) := by decide +kernel
theorem dX9_hasHour_8 : decode cX9_hasHour 8 = .ok (.invokestatic 54, 3) := by decide +kernel
theorem dX9_hasHour_11 : decode cX9_hasHour 11 = .ok (.ireturn, 1) := by decide +kernel
theorem dX9_kindOf_0 : decode cX9_kindOf 0 = .ok (.iload_n 1, 1) := by decide +kernel
theorem dX9_kindOf_1 : decode cX9_kindOf 1 = .ok (.ifCond .lt 26, 3) := by decide +kernel
theorem dX9_kindOf_4 : decode cX9_kindOf 4 = .ok (.iload_n 1, 1) := by decide +kernel
theorem dX9_kindOf_5 : decode cX9_kindOf 5 = .ok (.aload_n 0, 1) := by decide +kernel
theorem dX9_kindOf_6 : decode cX9_kindOf 6 = .ok (.getfield 35, 3) := by decide +kernel
theorem dX9_kindOf_9 : decode cX9_kindOf 9 = .ok (.if_icmp .ge 18, 3) := by decide +kernel
theorem dX9_kindOf_12 : decode cX9_kindOf 12 = .ok (.iload_n 1, 1) := by decide +kernel
theorem dX9_kindOf_13 : decode cX9_kindOf 13 = .ok (.bipush 6, 2) := by decide +kernel
theorem dX9_kindOf_15 : decode cX9_kindOf 15 = .ok (.if_icmp .ge 12, 3) := by decide +kernel
theorem dX9_kindOf_18 : decode cX9_kindOf 18 = .ok (.aload_n 0, 1) := by decide +kernel
theorem dX9_kindOf_19 : decode cX9_kindOf 19 = .ok (.getfield 9, 3) := by decide +kernel
theorem dX9_kindOf_22 : decode cX9_kindOf 22 = .ok (.iload_n 1, 1) := by decide +kernel
theorem dX9_kindOf_23 : decode cX9_kindOf 23 = .ok (.iaload, 1) := by decide +kernel
theorem dX9_kindOf_24 : decode cX9_kindOf 24 = .ok (.goto 4, 3) := by decide +kernel
theorem dX9_kindOf_27 : decode cX9_kindOf 27 = .ok (.iconst (-1), 1) := by decide +kernel
theorem dX9_kindOf_28 : decode cX9_kindOf 28 = .ok (.ireturn, 1) := by decide +kernel
theorem dX9_classOf_0 : decode cX9_classOf 0 = .ok (.iload_n 1, 1) := by decide +kernel
theorem dX9_classOf_1 : decode cX9_classOf 1 = .ok (.ifCond .lt 17, 3) := by decide +kernel
theorem dX9_classOf_4 : decode cX9_classOf 4 = .ok (.iload_n 1, 1) := by decide +kernel
theorem dX9_classOf_5 : decode cX9_classOf 5 = .ok (.iconst 5, 1) := by decide +kernel
theorem dX9_classOf_6 : decode cX9_classOf 6 = .ok (.if_icmp .ge 12, 3) := by decide +kernel
theorem dX9_classOf_9 : decode cX9_classOf 9 = .ok (.aload_n 0, 1) := by decide +kernel
theorem dX9_classOf_10 : decode cX9_classOf 10 = .ok (.getfield 15, 3) := by decide +kernel
theorem dX9_classOf_13 : decode cX9_classOf 13 = .ok (.iload_n 1, 1) := by decide +kernel
theorem dX9_classOf_14 : decode cX9_classOf 14 = .ok (.iaload, 1) := by decide +kernel
theorem dX9_classOf_15 : decode cX9_classOf 15 = .ok (.goto 4, 3) := by decide +kernel
theorem dX9_classOf_18 : decode cX9_classOf 18 = .ok (.iconst 4, 1) := by decide +kernel
theorem dX9_classOf_19 : decode cX9_classOf 19 = .ok (.ireturn, 1) := by decide +kernel
theorem dX9_worthOf_0 : decode cX9_worthOf 0 = .ok (.iload_n 1, 1) := by decide +kernel
theorem dX9_worthOf_1 : decode cX9_worthOf 1 = .ok (.ifCond .lt 17, 3) := by decide +kernel
theorem dX9_worthOf_4 : decode cX9_worthOf 4 = .ok (.iload_n 1, 1) := by decide +kernel
theorem dX9_worthOf_5 : decode cX9_worthOf 5 = .ok (.iconst 5, 1) := by decide +kernel
theorem dX9_worthOf_6 : decode cX9_worthOf 6 = .ok (.if_icmp .ge 12, 3) := by decide +kernel
theorem dX9_worthOf_9 : decode cX9_worthOf 9 = .ok (.aload_n 0, 1) := by decide +kernel
theorem dX9_worthOf_10 : decode cX9_worthOf 10 = .ok (.getfield 21, 3) := by decide +kernel
theorem dX9_worthOf_13 : decode cX9_worthOf 13 = .ok (.iload_n 1, 1) := by decide +kernel
theorem dX9_worthOf_14 : decode cX9_worthOf 14 = .ok (.iaload, 1) := by decide +kernel
theorem dX9_worthOf_15 : decode cX9_worthOf 15 = .ok (.goto 4, 3) := by decide +kernel
theorem dX9_worthOf_18 : decode cX9_worthOf 18 = .ok (.iconst 0, 1) := by decide +kernel
theorem dX9_worthOf_19 : decode cX9_worthOf 19 = .ok (.ireturn, 1) := by decide +kernel
theorem dX9_breadOf_0 : decode cX9_breadOf 0 = .ok (.iload_n 1, 1) := by decide +kernel
theorem dX9_breadOf_1 : decode cX9_breadOf 1 = .ok (.ifCond .lt 21, 3) := by decide +kernel
theorem dX9_breadOf_4 : decode cX9_breadOf 4 = .ok (.iload_n 1, 1) := by decide +kernel
theorem dX9_breadOf_5 : decode cX9_breadOf 5 = .ok (.iconst 2, 1) := by decide +kernel
theorem dX9_breadOf_6 : decode cX9_breadOf 6 = .ok (.if_icmp .ge 16, 3) := by decide +kernel
theorem dX9_breadOf_9 : decode cX9_breadOf 9 = .ok (.iload_n 2, 1) := by decide +kernel
theorem dX9_breadOf_10 : decode cX9_breadOf 10 = .ok (.ifCond .lt 12, 3) := by decide +kernel
theorem dX9_breadOf_13 : decode cX9_breadOf 13 = .ok (.iload_n 2, 1) := by decide +kernel
theorem dX9_breadOf_14 : decode cX9_breadOf 14 = .ok (.iconst 5, 1) := by decide +kernel
theorem dX9_breadOf_15 : decode cX9_breadOf 15 = .ok (.if_icmp .ge 7, 3) := by decide +kernel
theorem dX9_breadOf_18 : decode cX9_breadOf 18 = .ok (.iconst 1, 1) := by decide +kernel
theorem dX9_breadOf_19 : decode cX9_breadOf 19 = .ok (.goto 4, 3) := by decide +kernel
theorem dX9_breadOf_22 : decode cX9_breadOf 22 = .ok (.iconst 0, 1) := by decide +kernel
theorem dX9_breadOf_23 : decode cX9_breadOf 23 = .ok (.istore_n 3, 1) := by decide +kernel
theorem dX9_breadOf_24 : decode cX9_breadOf 24 = .ok (.iload_n 3, 1) := by decide +kernel
theorem dX9_breadOf_25 : decode cX9_breadOf 25 = .ok (.ifCond .eq 16, 3) := by decide +kernel
theorem dX9_breadOf_28 : decode cX9_breadOf 28 = .ok (.aload_n 0, 1) := by decide +kernel
theorem dX9_breadOf_29 : decode cX9_breadOf 29 = .ok (.getfield 18, 3) := by decide +kernel
theorem dX9_breadOf_32 : decode cX9_breadOf 32 = .ok (.iload_n 1, 1) := by decide +kernel
theorem dX9_breadOf_33 : decode cX9_breadOf 33 = .ok (.iconst 5, 1) := by decide +kernel
theorem dX9_breadOf_34 : decode cX9_breadOf 34 = .ok (.imul, 1) := by decide +kernel
theorem dX9_breadOf_35 : decode cX9_breadOf 35 = .ok (.iload_n 2, 1) := by decide +kernel
theorem dX9_breadOf_36 : decode cX9_breadOf 36 = .ok (.iadd, 1) := by decide +kernel
theorem dX9_breadOf_37 : decode cX9_breadOf 37 = .ok (.iaload, 1) := by decide +kernel
theorem dX9_breadOf_38 : decode cX9_breadOf 38 = .ok (.goto 4, 3) := by decide +kernel
theorem dX9_breadOf_41 : decode cX9_breadOf 41 = .ok (.iconst 0, 1) := by decide +kernel
theorem dX9_breadOf_42 : decode cX9_breadOf 42 = .ok (.ireturn, 1) := by decide +kernel
theorem dX9_meantOn_0 : decode cX9_meantOn 0 = .ok (.iload_n 1, 1) := by decide +kernel
theorem dX9_meantOn_1 : decode cX9_meantOn 1 = .ok (.bipush 48, 2) := by decide +kernel
theorem dX9_meantOn_3 : decode cX9_meantOn 3 = .ok (.imul, 1) := by decide +kernel
theorem dX9_meantOn_4 : decode cX9_meantOn 4 = .ok (.iload_n 2, 1) := by decide +kernel
theorem dX9_meantOn_5 : decode cX9_meantOn 5 = .ok (.iload_n 3, 1) := by decide +kernel
theorem dX9_meantOn_6 : decode cX9_meantOn 6 = .ok (.iload 4, 2) := by decide +kernel
theorem dX9_meantOn_8 : decode cX9_meantOn 8 = .ok (.invokestatic 58, 3) := by decide +kernel
theorem dX9_meantOn_11 : decode cX9_meantOn 11 = .ok (.iadd, 1) := by decide +kernel
theorem dX9_meantOn_12 : decode cX9_meantOn 12 = .ok (.istore 5, 2) := by decide +kernel
theorem dX9_meantOn_14 : decode cX9_meantOn 14 = .ok (.iload 5, 2) := by decide +kernel
theorem dX9_meantOn_16 : decode cX9_meantOn 16 = .ok (.iconst 0, 1) := by decide +kernel
theorem dX9_meantOn_17 : decode cX9_meantOn 17 = .ok (.aload_n 0, 1) := by decide +kernel
theorem dX9_meantOn_18 : decode cX9_meantOn 18 = .ok (.getfield 24, 3) := by decide +kernel
theorem dX9_meantOn_21 : decode cX9_meantOn 21 = .ok (.arraylength, 1) := by decide +kernel
theorem dX9_meantOn_22 : decode cX9_meantOn 22 = .ok (.iconst 1, 1) := by decide +kernel
theorem dX9_meantOn_23 : decode cX9_meantOn 23 = .ok (.isub, 1) := by decide +kernel
theorem dX9_meantOn_24 : decode cX9_meantOn 24 = .ok (.invokestatic 54, 3) := by decide +kernel
theorem dX9_meantOn_27 : decode cX9_meantOn 27 = .ok (.ifCond .eq 13, 3) := by decide +kernel
theorem dX9_meantOn_30 : decode cX9_meantOn 30 = .ok (.aload_n 0, 1) := by decide +kernel
theorem dX9_meantOn_31 : decode cX9_meantOn 31 = .ok (.getfield 24, 3) := by decide +kernel
theorem dX9_meantOn_34 : decode cX9_meantOn 34 = .ok (.iload 5, 2) := by decide +kernel
theorem dX9_meantOn_36 : decode cX9_meantOn 36 = .ok (.iaload, 1) := by decide +kernel
theorem dX9_meantOn_37 : decode cX9_meantOn 37 = .ok (.goto 4, 3) := by decide +kernel
theorem dX9_meantOn_40 : decode cX9_meantOn 40 = .ok (.iconst 5, 1) := by decide +kernel
theorem dX9_meantOn_41 : decode cX9_meantOn 41 = .ok (.ireturn, 1) := by decide +kernel
theorem dX9_canBeDone_0 : decode cX9_canBeDone 0 = .ok (.aload_n 0, 1) := by decide +kernel
theorem dX9_canBeDone_1 : decode cX9_canBeDone 1 = .ok (.iload_n 1, 1) := by decide +kernel
theorem dX9_canBeDone_2 : decode cX9_canBeDone 2 = .ok (.iload_n 2, 1) := by decide +kernel
theorem dX9_canBeDone_3 : decode cX9_canBeDone 3 = .ok (.invokevirtual 62, 3) := by decide +kernel
theorem dX9_canBeDone_6 : decode cX9_canBeDone 6 = .ok (.iconst (-1), 1) := by decide +kernel
theorem dX9_canBeDone_7 : decode cX9_canBeDone 7 = .ok (.if_icmp .eq 7, 3) := by decide +kernel
theorem dX9_canBeDone_10 : decode cX9_canBeDone 10 = .ok (.iconst 1, 1) := by decide +kernel
theorem dX9_canBeDone_11 : decode cX9_canBeDone 11 = .ok (.goto 4, 3) := by decide +kernel
theorem dX9_canBeDone_14 : decode cX9_canBeDone 14 = .ok (.iconst 0, 1) := by decide +kernel
theorem dX9_canBeDone_15 : decode cX9_canBeDone 15 = .ok (.ireturn, 1) := by decide +kernel
theorem dX9_mayDo_0 : decode cX9_mayDo 0 = .ok (.iload 4, 2) := by decide +kernel
theorem dX9_mayDo_2 : decode cX9_mayDo 2 = .ok (.iconst 5, 1) := by decide +kernel
theorem dX9_mayDo_3 : decode cX9_mayDo 3 = .ok (.if_icmp .ne 5, 3) := by decide +kernel
theorem dX9_mayDo_6 : decode cX9_mayDo 6 = .ok (.iconst 1, 1) := by decide +kernel
theorem dX9_mayDo_7 : decode cX9_mayDo 7 = .ok (.ireturn, 1) := by decide +kernel
theorem dX9_mayDo_8 : decode cX9_mayDo 8 = .ok (.aload_n 0, 1) := by decide +kernel
theorem dX9_mayDo_9 : decode cX9_mayDo 9 = .ok (.iload_n 1, 1) := by decide +kernel
theorem dX9_mayDo_10 : decode cX9_mayDo 10 = .ok (.iload 4, 2) := by decide +kernel
theorem dX9_mayDo_12 : decode cX9_mayDo 12 = .ok (.invokevirtual 62, 3) := by decide +kernel
theorem dX9_mayDo_15 : decode cX9_mayDo 15 = .ok (.iconst (-1), 1) := by decide +kernel
theorem dX9_mayDo_16 : decode cX9_mayDo 16 = .ok (.if_icmp .ne 5, 3) := by decide +kernel
theorem dX9_mayDo_19 : decode cX9_mayDo 19 = .ok (.iconst 0, 1) := by decide +kernel
theorem dX9_mayDo_20 : decode cX9_mayDo 20 = .ok (.ireturn, 1) := by decide +kernel
theorem dX9_mayDo_21 : decode cX9_mayDo 21 = .ok (.aload_n 0, 1) := by decide +kernel
theorem dX9_mayDo_22 : decode cX9_mayDo 22 = .ok (.iload_n 2, 1) := by decide +kernel
theorem dX9_mayDo_23 : decode cX9_mayDo 23 = .ok (.invokevirtual 66, 3) := by decide +kernel
theorem dX9_mayDo_26 : decode cX9_mayDo 26 = .ok (.istore 5, 2) := by decide +kernel
theorem dX9_mayDo_28 : decode cX9_mayDo 28 = .ok (.iload 5, 2) := by decide +kernel
theorem dX9_mayDo_30 : decode cX9_mayDo 30 = .ok (.iconst 1, 1) := by decide +kernel
theorem dX9_mayDo_31 : decode cX9_mayDo 31 = .ok (.if_icmp .ne 15, 3) := by decide +kernel
theorem dX9_mayDo_34 : decode cX9_mayDo 34 = .ok (.aload_n 0, 1) := by decide +kernel
theorem dX9_mayDo_35 : decode cX9_mayDo 35 = .ok (.iload 4, 2) := by decide +kernel
theorem dX9_mayDo_37 : decode cX9_mayDo 37 = .ok (.invokevirtual 70, 3) := by decide +kernel
theorem dX9_mayDo_40 : decode cX9_mayDo 40 = .ok (.iconst 3, 1) := by decide +kernel
theorem dX9_mayDo_41 : decode cX9_mayDo 41 = .ok (.if_icmp .ne 5, 3) := by decide +kernel
theorem dX9_mayDo_44 : decode cX9_mayDo 44 = .ok (.iconst 0, 1) := by decide +kernel
theorem dX9_mayDo_45 : decode cX9_mayDo 45 = .ok (.ireturn, 1) := by decide +kernel
theorem dX9_mayDo_46 : decode cX9_mayDo 46 = .ok (.iload 5, 2) := by decide +kernel
theorem dX9_mayDo_48 : decode cX9_mayDo 48 = .ok (.iconst 2, 1) := by decide +kernel
theorem dX9_mayDo_49 : decode cX9_mayDo 49 = .ok (.if_icmp .ne 21, 3) := by decide +kernel
theorem dX9_mayDo_52 : decode cX9_mayDo 52 = .ok (.aload_n 0, 1) := by decide +kernel
theorem dX9_mayDo_53 : decode cX9_mayDo 53 = .ok (.getfield 38, 3) := by decide +kernel
theorem dX9_mayDo_56 : decode cX9_mayDo 56 = .ok (.iconst 2, 1) := by decide +kernel
theorem dX9_mayDo_57 : decode cX9_mayDo 57 = .ok (.if_icmp .lt 13, 3) := by decide +kernel
theorem dX9_mayDo_60 : decode cX9_mayDo 60 = .ok (.iload_n 3, 1) := by decide +kernel
theorem dX9_mayDo_61 : decode cX9_mayDo 61 = .ok (.aload_n 0, 1) := by decide +kernel
theorem dX9_mayDo_62 : decode cX9_mayDo 62 = .ok (.getfield 38, 3) := by decide +kernel
theorem dX9_mayDo_65 : decode cX9_mayDo 65 = .ok (.iconst 1, 1) := by decide +kernel
theorem dX9_mayDo_66 : decode cX9_mayDo 66 = .ok (.isub, 1) := by decide +kernel
theorem dX9_mayDo_67 : decode cX9_mayDo 67 = .ok (.if_icmp .eq 7, 3) := by decide +kernel
theorem dX9_mayDo_70 : decode cX9_mayDo 70 = .ok (.iconst 1, 1) := by decide +kernel
theorem dX9_mayDo_71 : decode cX9_mayDo 71 = .ok (.goto 4, 3) := by decide +kernel
theorem dX9_mayDo_74 : decode cX9_mayDo 74 = .ok (.iconst 0, 1) := by decide +kernel
theorem dX9_mayDo_75 : decode cX9_mayDo 75 = .ok (.ireturn, 1) := by decide +kernel
theorem dX9_breadMade_0 : decode cX9_breadMade 0 = .ok (.aload_n 0, 1) := by decide +kernel
theorem dX9_breadMade_1 : decode cX9_breadMade 1 = .ok (.iload_n 1, 1) := by decide +kernel
theorem dX9_breadMade_2 : decode cX9_breadMade 2 = .ok (.iload_n 3, 1) := by decide +kernel
theorem dX9_breadMade_3 : decode cX9_breadMade 3 = .ok (.invokevirtual 62, 3) := by decide +kernel
theorem dX9_breadMade_6 : decode cX9_breadMade 6 = .ok (.istore 4, 2) := by decide +kernel
theorem dX9_breadMade_8 : decode cX9_breadMade 8 = .ok (.aload_n 0, 1) := by decide +kernel
theorem dX9_breadMade_9 : decode cX9_breadMade 9 = .ok (.iload_n 2, 1) := by decide +kernel
theorem dX9_breadMade_10 : decode cX9_breadMade 10 = .ok (.invokevirtual 66, 3) := by decide +kernel
theorem dX9_breadMade_13 : decode cX9_breadMade 13 = .ok (.iconst 2, 1) := by decide +kernel
theorem dX9_breadMade_14 : decode cX9_breadMade 14 = .ok (.if_icmp .ne 10, 3) := by decide +kernel
theorem dX9_breadMade_17 : decode cX9_breadMade 17 = .ok (.iload 4, 2) := by decide +kernel
theorem dX9_breadMade_19 : decode cX9_breadMade 19 = .ok (.iconst 2, 1) := by decide +kernel
theorem dX9_breadMade_20 : decode cX9_breadMade 20 = .ok (.idiv, 1) := by decide +kernel
theorem dX9_breadMade_21 : decode cX9_breadMade 21 = .ok (.goto 5, 3) := by decide +kernel
theorem dX9_breadMade_24 : decode cX9_breadMade 24 = .ok (.iload 4, 2) := by decide +kernel
theorem dX9_breadMade_26 : decode cX9_breadMade 26 = .ok (.ireturn, 1) := by decide +kernel
theorem dX9_keepsTreaty_0 : decode cX9_keepsTreaty 0 = .ok (.aload_n 0, 1) := by decide +kernel
theorem dX9_keepsTreaty_1 : decode cX9_keepsTreaty 1 = .ok (.iload_n 2, 1) := by decide +kernel
theorem dX9_keepsTreaty_2 : decode cX9_keepsTreaty 2 = .ok (.invokevirtual 66, 3) := by decide +kernel
theorem dX9_keepsTreaty_5 : decode cX9_keepsTreaty 5 = .ok (.iconst 3, 1) := by decide +kernel
theorem dX9_keepsTreaty_6 : decode cX9_keepsTreaty 6 = .ok (.if_icmp .ne 5, 3) := by decide +kernel
theorem dX9_keepsTreaty_9 : decode cX9_keepsTreaty 9 = .ok (.iconst 1, 1) := by decide +kernel
theorem dX9_keepsTreaty_10 : decode cX9_keepsTreaty 10 = .ok (.ireturn, 1) := by decide +kernel
theorem dX9_keepsTreaty_11 : decode cX9_keepsTreaty 11 = .ok (.aload_n 0, 1) := by decide +kernel
theorem dX9_keepsTreaty_12 : decode cX9_keepsTreaty 12 = .ok (.iload_n 3, 1) := by decide +kernel
theorem dX9_keepsTreaty_13 : decode cX9_keepsTreaty 13 = .ok (.invokevirtual 70, 3) := by decide +kernel
theorem dX9_keepsTreaty_16 : decode cX9_keepsTreaty 16 = .ok (.aload_n 0, 1) := by decide +kernel
theorem dX9_keepsTreaty_17 : decode cX9_keepsTreaty 17 = .ok (.iload 4, 2) := by decide +kernel
theorem dX9_keepsTreaty_19 : decode cX9_keepsTreaty 19 = .ok (.invokevirtual 70, 3) := by decide +kernel
theorem dX9_keepsTreaty_22 : decode cX9_keepsTreaty 22 = .ok (.if_icmp .ne 7, 3) := by decide +kernel
theorem dX9_keepsTreaty_25 : decode cX9_keepsTreaty 25 = .ok (.iconst 1, 1) := by decide +kernel
theorem dX9_keepsTreaty_26 : decode cX9_keepsTreaty 26 = .ok (.goto 4, 3) := by decide +kernel
theorem dX9_keepsTreaty_29 : decode cX9_keepsTreaty 29 = .ok (.iconst 0, 1) := by decide +kernel
theorem dX9_keepsTreaty_30 : decode cX9_keepsTreaty 30 = .ok (.istore 5, 2) := by decide +kernel
theorem dX9_keepsTreaty_32 : decode cX9_keepsTreaty 32 = .ok (.iload 5, 2) := by decide +kernel
theorem dX9_keepsTreaty_34 : decode cX9_keepsTreaty 34 = .ok (.iload_n 1, 1) := by decide +kernel
theorem dX9_keepsTreaty_35 : decode cX9_keepsTreaty 35 = .ok (.ifCond .ne 7, 3) := by decide +kernel
theorem dX9_keepsTreaty_38 : decode cX9_keepsTreaty 38 = .ok (.iconst 1, 1) := by decide +kernel
theorem dX9_keepsTreaty_39 : decode cX9_keepsTreaty 39 = .ok (.goto 4, 3) := by decide +kernel
theorem dX9_keepsTreaty_42 : decode cX9_keepsTreaty 42 = .ok (.iconst 0, 1) := by decide +kernel
theorem dX9_keepsTreaty_43 : decode cX9_keepsTreaty 43 = .ok (.if_icmp .ne 7, 3) := by decide +kernel
theorem dX9_keepsTreaty_46 : decode cX9_keepsTreaty 46 = .ok (.iconst 1, 1) := by decide +kernel
theorem dX9_keepsTreaty_47 : decode cX9_keepsTreaty 47 = .ok (.goto 4, 3) := by decide +kernel
theorem dX9_keepsTreaty_50 : decode cX9_keepsTreaty 50 = .ok (.iconst 0, 1) := by decide +kernel
theorem dX9_keepsTreaty_51 : decode cX9_keepsTreaty 51 = .ok (.ireturn, 1) := by decide +kernel
theorem dX10_init_0 : decode cX10_init 0 = .ok (.aload_n 0, 1) := by decide +kernel
theorem dX10_init_1 : decode cX10_init 1 = .ok (.invokespecial 3, 3) := by decide +kernel
theorem dX10_init_4 : decode cX10_init 4 = .ok (.aload_n 0, 1) := by decide +kernel
theorem dX10_init_5 : decode cX10_init 5 = .ok (.new 9, 3) := by decide +kernel
theorem dX10_init_8 : decode cX10_init 8 = .ok (.dup, 1) := by decide +kernel
theorem dX10_init_9 : decode cX10_init 9 = .ok (.invokespecial 11, 3) := by decide +kernel
theorem dX10_init_12 : decode cX10_init 12 = .ok (.putfield 12, 3) := by decide +kernel
theorem dX10_init_15 : decode cX10_init 15 = .ok (.aload_n 0, 1) := by decide +kernel
theorem dX10_init_16 : decode cX10_init 16 = .ok (.new 9, 3) := by decide +kernel
theorem dX10_init_19 : decode cX10_init 19 = .ok (.dup, 1) := by decide +kernel
theorem dX10_init_20 : decode cX10_init 20 = .ok (.invokespecial 11, 3) := by decide +kernel
theorem dX10_init_23 : decode cX10_init 23 = .ok (.putfield 16, 3) := by decide +kernel
theorem dX10_init_26 : decode cX10_init 26 = .ok (.aload_n 0, 1) := by decide +kernel
theorem dX10_init_27 : decode cX10_init 27 = .ok (.new 19, 3) := by decide +kernel
theorem dX10_init_30 : decode cX10_init 30 = .ok (.dup, 1) := by decide +kernel
theorem dX10_init_31 : decode cX10_init 31 = .ok (.invokespecial 21, 3) := by decide +kernel
theorem dX10_init_34 : decode cX10_init 34 = .ok (.putfield 22, 3) := by decide +kernel
theorem dX10_init_37 : decode cX10_init 37 = .ok (.aload_n 0, 1) := by decide +kernel
theorem dX10_init_38 : decode cX10_init 38 = .ok (.new 26, 3) := by decide +kernel
theorem dX10_init_41 : decode cX10_init 41 = .ok (.dup, 1) := by decide +kernel
theorem dX10_init_42 : decode cX10_init 42 = .ok (.aload_n 0, 1) := by decide +kernel
theorem dX10_init_43 : decode cX10_init 43 = .ok (.getfield 22, 3) := by decide +kernel
theorem dX10_init_46 : decode cX10_init 46 = .ok (.invokespecial 28, 3) := by decide +kernel
theorem dX10_init_49 : decode cX10_init 49 = .ok (.putfield 31, 3) := by decide +kernel
theorem dX10_init_52 : decode cX10_init 52 = .ok (.aload_n 0, 1) := by decide +kernel
theorem dX10_init_53 : decode cX10_init 53 = .ok (.new 35, 3) := by decide +kernel
theorem dX10_init_56 : decode cX10_init 56 = .ok (.dup, 1) := by decide +kernel
theorem dX10_init_57 : decode cX10_init 57 = .ok (.invokespecial 37, 3) := by decide +kernel
theorem dX10_init_60 : decode cX10_init 60 = .ok (.putfield 38, 3) := by decide +kernel
theorem dX10_init_63 : decode cX10_init 63 = .ok (.aload_n 0, 1) := by decide +kernel
theorem dX10_init_64 : decode cX10_init 64 = .ok (.iconst 2, 1) := by decide +kernel
theorem dX10_init_65 : decode cX10_init 65 = .ok (.anewarray 35, 3) := by decide +kernel
theorem dX10_init_68 : decode cX10_init 68 = .ok (.dup, 1) := by decide +kernel
theorem dX10_init_69 : decode cX10_init 69 = .ok (.iconst 0, 1) := by decide +kernel
theorem dX10_init_70 : decode cX10_init 70 = .ok (.new 35, 3) := by decide +kernel
theorem dX10_init_73 : decode cX10_init 73 = .ok (.dup, 1) := by decide +kernel
theorem dX10_init_74 : decode cX10_init 74 = .ok (.invokespecial 37, 3) := by decide +kernel
theorem dX10_init_77 : decode cX10_init 77 = .ok (.aastore, 1) := by decide +kernel
theorem dX10_init_78 : decode cX10_init 78 = .ok (.dup, 1) := by decide +kernel
theorem dX10_init_79 : decode cX10_init 79 = .ok (.iconst 1, 1) := by decide +kernel
theorem dX10_init_80 : decode cX10_init 80 = .ok (.new 35, 3) := by decide +kernel
theorem dX10_init_83 : decode cX10_init 83 = .ok (.dup, 1) := by decide +kernel
theorem dX10_init_84 : decode cX10_init 84 = .ok (.invokespecial 37, 3) := by decide +kernel
theorem dX10_init_87 : decode cX10_init 87 = .ok (.aastore, 1) := by decide +kernel
theorem dX10_init_88 : decode cX10_init 88 = .ok (.putfield 42, 3) := by decide +kernel
theorem dX10_init_91 : decode cX10_init 91 = .ok (.aload_n 0, 1) := by decide +kernel
theorem dX10_init_92 : decode cX10_init 92 = .ok (.iconst 2, 1) := by decide +kernel
theorem dX10_init_93 : decode cX10_init 93 = .ok (.newarray .boolean, 2) := by decide +kernel
theorem dX10_init_95 : decode cX10_init 95 = .ok (.putfield 46, 3) := by decide +kernel
theorem dX10_init_98 : decode cX10_init 98 = .ok (.aload_n 0, 1) := by decide +kernel
theorem dX10_init_99 : decode cX10_init 99 = .ok (.new 50, 3) := by decide +kernel
theorem dX10_init_102 : decode cX10_init 102 = .ok (.dup, 1) := by decide +kernel
theorem dX10_init_103 : decode cX10_init 103 = .ok (.aload_n 0, 1) := by decide +kernel
theorem dX10_init_104 : decode cX10_init 104 = .ok (.getfield 12, 3) := by decide +kernel
theorem dX10_init_107 : decode cX10_init 107 = .ok (.invokespecial 52, 3) := by decide +kernel
theorem dX10_init_110 : decode cX10_init 110 = .ok (.putfield 55, 3) := by decide +kernel
theorem dX10_init_113 : decode cX10_init 113 = .ok (.aload_n 0, 1) := by decide +kernel
theorem dX10_init_114 : decode cX10_init 114 = .ok (.new 59, 3) := by decide +kernel
theorem dX10_init_117 : decode cX10_init 117 = .ok (.dup, 1) := by decide +kernel
theorem dX10_init_118 : decode cX10_init 118 = .ok (.invokespecial 61, 3) := by decide +kernel
theorem dX10_init_121 : decode cX10_init 121 = .ok (.putfield 62, 3) := by decide +kernel
theorem dX10_init_124 : decode cX10_init 124 = .ok (.aload_n 0, 1) := by decide +kernel
theorem dX10_init_125 : decode cX10_init 125 = .ok (.new 66, 3) := by decide +kernel
theorem dX10_init_128 : decode cX10_init 128 = .ok (.dup, 1) := by decide +kernel
theorem dX10_init_129 : decode cX10_init 129 = .ok (.invokespecial 68, 3) := by decide +kernel
theorem dX10_init_132 : decode cX10_init 132 = .ok (.putfield 69, 3) := by decide +kernel
theorem dX10_init_135 : decode cX10_init 135 = .ok (.aload_n 0, 1) := by decide +kernel
theorem dX10_init_136 : decode cX10_init 136 = .ok (.new 73, 3) := by decide +kernel
theorem dX10_init_139 : decode cX10_init 139 = .ok (.dup, 1) := by decide +kernel
theorem dX10_init_140 : decode cX10_init 140 = .ok (.invokespecial 75, 3) := by decide +kernel
theorem dX10_init_143 : decode cX10_init 143 = .ok (.putfield 76, 3) := by decide +kernel
theorem dX10_init_146 : decode cX10_init 146 = .ok (.aload_n 0, 1) := by decide +kernel
theorem dX10_init_147 : decode cX10_init 147 = .ok (.new 80, 3) := by decide +kernel
theorem dX10_init_150 : decode cX10_init 150 = .ok (.dup, 1) := by decide +kernel
theorem dX10_init_151 : decode cX10_init 151 = .ok (.invokespecial 82, 3) := by decide +kernel
theorem dX10_init_154 : decode cX10_init 154 = .ok (.putfield 83, 3) := by decide +kernel
theorem dX10_init_157 : decode cX10_init 157 = .ok (.return_, 1) := by decide +kernel
theorem dX10_write_0 : decode cX10_write 0 = .ok (.iload_n 3, 1) := by decide +kernel
theorem dX10_write_1 : decode cX10_write 1 = .ok (.iconst 1, 1) := by decide +kernel
theorem dX10_write_2 : decode cX10_write 2 = .ok (.bipush 8, 2) := by decide +kernel
theorem dX10_write_4 : decode cX10_write 4 = .ok (.invokestatic 87, 3) := by decide +kernel
theorem dX10_write_7 : decode cX10_write 7 = .ok (.ifCond .ne 6, 3) := by decide +kernel
theorem dX10_write_10 : decode cX10_write 10 = .ok (.bipush (-3), 2) := by decide +kernel
theorem dX10_write_12 : decode cX10_write 12 = .ok (.ireturn, 1) := by decide +kernel
theorem dX10_write_13 : decode cX10_write 13 = .ok (.iload_n 3, 1) := by decide +kernel
theorem dX10_write_14 : decode cX10_write 14 = .ok (.sipush 200, 3) := by decide +kernel
theorem dX10_write_17 : decode cX10_write 17 = .ok (.aload_n 0, 1) := by decide +kernel
theorem dX10_write_18 : decode cX10_write 18 = .ok (.getfield 22, 3) := by decide +kernel
theorem dX10_write_21 : decode cX10_write 21 = .ok (.getfield 91, 3) := by decide +kernel
theorem dX10_write_24 : decode cX10_write 24 = .ok (.isub, 1) := by decide +kernel
theorem dX10_write_25 : decode cX10_write 25 = .ok (.if_icmp .le 6, 3) := by decide +kernel
theorem dX10_write_28 : decode cX10_write 28 = .ok (.bipush (-5), 2) := by decide +kernel
theorem dX10_write_30 : decode cX10_write 30 = .ok (.ireturn, 1) := by decide +kernel
theorem dX10_write_31 : decode cX10_write 31 = .ok (.aload_n 0, 1) := by decide +kernel
theorem dX10_write_32 : decode cX10_write 32 = .ok (.getfield 22, 3) := by decide +kernel
theorem dX10_write_35 : decode cX10_write 35 = .ok (.lload_n 1, 1) := by decide +kernel
theorem dX10_write_36 : decode cX10_write 36 = .ok (.iload_n 3, 1) := by decide +kernel
theorem dX10_write_37 : decode cX10_write 37 = .ok (.invokevirtual 95, 3) := by decide +kernel
theorem dX10_write_40 : decode cX10_write 40 = .ok (.aload_n 0, 1) := by decide +kernel
theorem dX10_write_41 : decode cX10_write 41 = .ok (.getfield 22, 3) := by decide +kernel
theorem dX10_write_44 : decode cX10_write 44 = .ok (.getfield 91, 3) := by decide +kernel
theorem dX10_write_47 : decode cX10_write 47 = .ok (.ireturn, 1) := by decide +kernel
theorem dX10_erase_0 : decode cX10_erase 0 = .ok (.aload_n 0, 1) := by decide +kernel
theorem dX10_erase_1 : decode cX10_erase 1 = .ok (.getfield 22, 3) := by decide +kernel
theorem dX10_erase_4 : decode cX10_erase 4 = .ok (.getfield 91, 3) := by decide +kernel
theorem dX10_erase_7 : decode cX10_erase 7 = .ok (.istore_n 1, 1) := by decide +kernel
theorem dX10_erase_8 : decode cX10_erase 8 = .ok (.aload_n 0, 1) := by decide +kernel
theorem dX10_erase_9 : decode cX10_erase 9 = .ok (.getfield 22, 3) := by decide +kernel
theorem dX10_erase_12 : decode cX10_erase 12 = .ok (.iconst 0, 1) := by decide +kernel
theorem dX10_erase_13 : decode cX10_erase 13 = .ok (.putfield 91, 3) := by decide +kernel
theorem dX10_erase_16 : decode cX10_erase 16 = .ok (.iload_n 1, 1) := by decide +kernel
theorem dX10_erase_17 : decode cX10_erase 17 = .ok (.ireturn, 1) := by decide +kernel
theorem dX10_fault_0 : decode cX10_fault 0 = .ok (.aload_n 0, 1) := by decide +kernel
theorem dX10_fault_1 : decode cX10_fault 1 = .ok (.getfield 16, 3) := by decide +kernel
theorem dX10_fault_4 : decode cX10_fault 4 = .ok (.aload_n 0, 1) := by decide +kernel
theorem dX10_fault_5 : decode cX10_fault 5 = .ok (.getfield 12, 3) := by decide +kernel
theorem dX10_fault_8 : decode cX10_fault 8 = .ok (.invokevirtual 99, 3) := by decide +kernel
theorem dX10_fault_11 : decode cX10_fault 11 = .ok (.aload_n 0, 1) := by decide +kernel
theorem dX10_fault_12 : decode cX10_fault 12 = .ok (.getfield 31, 3) := by decide +kernel
theorem dX10_fault_15 : decode cX10_fault 15 = .ok (.aload_n 0, 1) := by decide +kernel
theorem dX10_fault_16 : decode cX10_fault 16 = .ok (.getfield 16, 3) := by decide +kernel
theorem dX10_fault_19 : decode cX10_fault 19 = .ok (.invokevirtual 102, 3) := by decide +kernel
theorem dX10_fault_22 : decode cX10_fault 22 = .ok (.ireturn, 1) := by decide +kernel
theorem dX10_treaty_0 : decode cX10_treaty 0 = .ok (.aload_n 0, 1) := by decide +kernel
theorem dX10_treaty_1 : decode cX10_treaty 1 = .ok (.getfield 16, 3) := by decide +kernel
theorem dX10_treaty_4 : decode cX10_treaty 4 = .ok (.aload_n 0, 1) := by decide +kernel
theorem dX10_treaty_5 : decode cX10_treaty 5 = .ok (.getfield 12, 3) := by decide +kernel
theorem dX10_treaty_8 : decode cX10_treaty 8 = .ok (.invokevirtual 99, 3) := by decide +kernel
theorem dX10_treaty_11 : decode cX10_treaty 11 = .ok (.aload_n 0, 1) := by decide +kernel
theorem dX10_treaty_12 : decode cX10_treaty 12 = .ok (.getfield 31, 3) := by decide +kernel
theorem dX10_treaty_15 : decode cX10_treaty 15 = .ok (.aload_n 0, 1) := by decide +kernel
theorem dX10_treaty_16 : decode cX10_treaty 16 = .ok (.getfield 16, 3) := by decide +kernel
theorem dX10_treaty_19 : decode cX10_treaty 19 = .ok (.invokevirtual 102, 3) := by decide +kernel
theorem dX10_treaty_22 : decode cX10_treaty 22 = .ok (.iconst (-1), 1) := by decide +kernel
theorem dX10_treaty_23 : decode cX10_treaty 23 = .ok (.if_icmp .eq 6, 3) := by decide +kernel
theorem dX10_treaty_26 : decode cX10_treaty 26 = .ok (.bipush (-4), 2) := by decide +kernel
theorem dX10_treaty_28 : decode cX10_treaty 28 = .ok (.ireturn, 1) := by decide +kernel
theorem dX10_treaty_29 : decode cX10_treaty 29 = .ok (.aload_n 0, 1) := by decide +kernel
theorem dX10_treaty_30 : decode cX10_treaty 30 = .ok (.getfield 12, 3) := by decide +kernel
theorem dX10_treaty_33 : decode cX10_treaty 33 = .ok (.aload_n 0, 1) := by decide +kernel
theorem dX10_treaty_34 : decode cX10_treaty 34 = .ok (.getfield 16, 3) := by decide +kernel
theorem dX10_treaty_37 : decode cX10_treaty 37 = .ok (.invokevirtual 99, 3) := by decide +kernel
theorem dX10_treaty_40 : decode cX10_treaty 40 = .ok (.aload_n 0, 1) := by decide +kernel
theorem dX10_treaty_41 : decode cX10_treaty 41 = .ok (.getfield 22, 3) := by decide +kernel
theorem dX10_treaty_44 : decode cX10_treaty 44 = .ok (.iconst 0, 1) := by decide +kernel
theorem dX10_treaty_45 : decode cX10_treaty 45 = .ok (.putfield 91, 3) := by decide +kernel
theorem dX10_treaty_48 : decode cX10_treaty 48 = .ok (.aload_n 0, 1) := by decide +kernel
theorem dX10_treaty_49 : decode cX10_treaty 49 = .ok (.getfield 38, 3) := by decide +kernel
theorem dX10_treaty_52 : decode cX10_treaty 52 = .ok (.invokevirtual 106, 3) := by decide +kernel
theorem dX10_treaty_55 : decode cX10_treaty 55 = .ok (.aload_n 0, 1) := by decide +kernel
theorem dX10_treaty_56 : decode cX10_treaty 56 = .ok (.getfield 55, 3) := by decide +kernel
theorem dX10_treaty_59 : decode cX10_treaty 59 = .ok (.invokevirtual 109, 3) := by decide +kernel
theorem dX10_treaty_62 : decode cX10_treaty 62 = .ok (.iconst 0, 1) := by decide +kernel
theorem dX10_treaty_63 : decode cX10_treaty 63 = .ok (.istore_n 1, 1) := by decide +kernel
theorem dX10_treaty_64 : decode cX10_treaty 64 = .ok (.iload_n 1, 1) := by decide +kernel
theorem dX10_treaty_65 : decode cX10_treaty 65 = .ok (.iconst 2, 1) := by decide +kernel
theorem dX10_treaty_66 : decode cX10_treaty 66 = .ok (.if_icmp .ge 16, 3) := by decide +kernel
theorem dX10_treaty_69 : decode cX10_treaty 69 = .ok (.aload_n 0, 1) := by decide +kernel
theorem dX10_treaty_70 : decode cX10_treaty 70 = .ok (.getfield 46, 3) := by decide +kernel
theorem dX10_treaty_73 : decode cX10_treaty 73 = .ok (.iload_n 1, 1) := by decide +kernel
theorem dX10_treaty_74 : decode cX10_treaty 74 = .ok (.iconst 0, 1) := by decide +kernel
theorem dX10_treaty_75 : decode cX10_treaty 75 = .ok (.bastore, 1) := by decide +kernel
theorem dX10_treaty_76 : decode cX10_treaty 76 = .ok (.iinc 1 1, 3) := by decide +kernel
theorem dX10_treaty_79 : decode cX10_treaty 79 = .ok (.goto (-15), 3) := by decide +kernel
theorem dX10_treaty_82 : decode cX10_treaty 82 = .ok (.aload_n 0, 1) := by decide +kernel
theorem dX10_treaty_83 : decode cX10_treaty 83 = .ok (.getfield 31, 3) := by decide +kernel
theorem dX10_treaty_86 : decode cX10_treaty 86 = .ok (.getfield 112, 3) := by decide +kernel
theorem dX10_treaty_89 : decode cX10_treaty 89 = .ok (.ireturn, 1) := by decide +kernel
theorem dX10_work_0 : decode cX10_work 0 = .ok (.iload_n 1, 1) := by decide +kernel
theorem dX10_work_1 : decode cX10_work 1 = .ok (.iconst 0, 1) := by decide +kernel
theorem dX10_work_2 : decode cX10_work 2 = .ok (.iconst 5, 1) := by decide +kernel
theorem dX10_work_3 : decode cX10_work 3 = .ok (.invokestatic 87, 3) := by decide +kernel
theorem dX10_work_6 : decode cX10_work 6 = .ok (.ifCond .ne 6, 3) := by decide +kernel
theorem dX10_work_9 : decode cX10_work 9 = .ok (.bipush (-2), 2) := by decide +kernel
theorem dX10_work_11 : decode cX10_work 11 = .ok (.ireturn, 1) := by decide +kernel
theorem dX10_work_12 : decode cX10_work 12 = .ok (.iload_n 2, 1) := by decide +kernel
theorem dX10_work_13 : decode cX10_work 13 = .ok (.tableswitch 69 0 3 #[31, 40, 50, 60], 31) := by decide +kernel
theorem dX10_work_44 : decode cX10_work 44 = .ok (.aload_n 0, 1) := by decide +kernel
theorem dX10_work_45 : decode cX10_work 45 = .ok (.getfield 12, 3) := by decide +kernel
theorem dX10_work_48 : decode cX10_work 48 = .ok (.iload_n 1, 1) := by decide +kernel
theorem dX10_work_49 : decode cX10_work 49 = .ok (.invokevirtual 115, 3) := by decide +kernel
theorem dX10_work_52 : decode cX10_work 52 = .ok (.ireturn, 1) := by decide +kernel
theorem dX10_work_53 : decode cX10_work 53 = .ok (.aload_n 0, 1) := by decide +kernel
theorem dX10_work_54 : decode cX10_work 54 = .ok (.getfield 12, 3) := by decide +kernel
theorem dX10_work_57 : decode cX10_work 57 = .ok (.iconst 0, 1) := by decide +kernel
theorem dX10_work_58 : decode cX10_work 58 = .ok (.iload_n 1, 1) := by decide +kernel
theorem dX10_work_59 : decode cX10_work 59 = .ok (.invokevirtual 119, 3) := by decide +kernel
theorem dX10_work_62 : decode cX10_work 62 = .ok (.ireturn, 1) := by decide +kernel
theorem dX10_work_63 : decode cX10_work 63 = .ok (.aload_n 0, 1) := by decide +kernel
theorem dX10_work_64 : decode cX10_work 64 = .ok (.getfield 12, 3) := by decide +kernel
theorem dX10_work_67 : decode cX10_work 67 = .ok (.iconst 1, 1) := by decide +kernel
theorem dX10_work_68 : decode cX10_work 68 = .ok (.iload_n 1, 1) := by decide +kernel
theorem dX10_work_69 : decode cX10_work 69 = .ok (.invokevirtual 119, 3) := by decide +kernel
theorem dX10_work_72 : decode cX10_work 72 = .ok (.ireturn, 1) := by decide +kernel
theorem dX10_work_73 : decode cX10_work 73 = .ok (.aload_n 0, 1) := by decide +kernel
theorem dX10_work_74 : decode cX10_work 74 = .ok (.getfield 12, 3) := by decide +kernel
theorem dX10_work_77 : decode cX10_work 77 = .ok (.iload_n 1, 1) := by decide +kernel
theorem dX10_work_78 : decode cX10_work 78 = .ok (.invokevirtual 123, 3) := by decide +kernel
theorem dX10_work_81 : decode cX10_work 81 = .ok (.ireturn, 1) := by decide +kernel
theorem dX10_work_82 : decode cX10_work 82 = .ok (.bipush (-3), 2) := by decide +kernel
theorem dX10_work_84 : decode cX10_work 84 = .ok (.ireturn, 1) := by decide +kernel
theorem dX10_meant_0 : decode cX10_meant 0 = .ok (.aload_n 0, 1) := by decide +kernel
theorem dX10_meant_1 : decode cX10_meant 1 = .ok (.iload_n 2, 1) := by decide +kernel
theorem dX10_meant_2 : decode cX10_meant 2 = .ok (.iload_n 3, 1) := by decide +kernel
theorem dX10_meant_3 : decode cX10_meant 3 = .ok (.iload 4, 2) := by decide +kernel
theorem dX10_meant_5 : decode cX10_meant 5 = .ok (.invokevirtual 126, 3) := by decide +kernel
theorem dX10_meant_8 : decode cX10_meant 8 = .ok (.ifCond .ne 6, 3) := by decide +kernel
theorem dX10_meant_11 : decode cX10_meant 11 = .ok (.bipush (-2), 2) := by decide +kernel
theorem dX10_meant_13 : decode cX10_meant 13 = .ok (.ireturn, 1) := by decide +kernel
theorem dX10_meant_14 : decode cX10_meant 14 = .ok (.iload_n 1, 1) := by decide +kernel
theorem dX10_meant_15 : decode cX10_meant 15 = .ok (.iconst 0, 1) := by decide +kernel
theorem dX10_meant_16 : decode cX10_meant 16 = .ok (.iconst 1, 1) := by decide +kernel
theorem dX10_meant_17 : decode cX10_meant 17 = .ok (.invokestatic 87, 3) := by decide +kernel
theorem dX10_meant_20 : decode cX10_meant 20 = .ok (.ifCond .ne 6, 3) := by decide +kernel
theorem dX10_meant_23 : decode cX10_meant 23 = .ok (.bipush (-3), 2) := by decide +kernel
theorem dX10_meant_25 : decode cX10_meant 25 = .ok (.ireturn, 1) := by decide +kernel
theorem dX10_meant_26 : decode cX10_meant 26 = .ok (.aload_n 0, 1) := by decide +kernel
theorem dX10_meant_27 : decode cX10_meant 27 = .ok (.getfield 12, 3) := by decide +kernel
theorem dX10_meant_30 : decode cX10_meant 30 = .ok (.iload_n 1, 1) := by decide +kernel
theorem dX10_meant_31 : decode cX10_meant 31 = .ok (.iload_n 2, 1) := by decide +kernel
theorem dX10_meant_32 : decode cX10_meant 32 = .ok (.iload_n 3, 1) := by decide +kernel
theorem dX10_meant_33 : decode cX10_meant 33 = .ok (.iload 4, 2) := by decide +kernel
theorem dX10_meant_35 : decode cX10_meant 35 = .ok (.invokevirtual 129, 3) := by decide +kernel
theorem dX10_meant_38 : decode cX10_meant 38 = .ok (.ireturn, 1) := by decide +kernel
theorem dX10_done_0 : decode cX10_done 0 = .ok (.aload_n 0, 1) := by decide +kernel
theorem dX10_done_1 : decode cX10_done 1 = .ok (.iload_n 1, 1) := by decide +kernel
theorem dX10_done_2 : decode cX10_done 2 = .ok (.iload_n 2, 1) := by decide +kernel
theorem dX10_done_3 : decode cX10_done 3 = .ok (.iload_n 3, 1) := by decide +kernel
theorem dX10_done_4 : decode cX10_done 4 = .ok (.invokevirtual 126, 3) := by decide +kernel
theorem dX10_done_7 : decode cX10_done 7 = .ok (.ifCond .eq 13, 3) := by decide +kernel
theorem dX10_done_10 : decode cX10_done 10 = .ok (.iload 4, 2) := by decide +kernel
theorem dX10_done_12 : decode cX10_done 12 = .ok (.iconst 0, 1) := by decide +kernel
theorem dX10_done_13 : decode cX10_done 13 = .ok (.iconst 5, 1) := by decide +kernel
theorem dX10_done_14 : decode cX10_done 14 = .ok (.invokestatic 87, 3) := by decide +kernel
theorem dX10_done_17 : decode cX10_done 17 = .ok (.ifCond .ne 6, 3) := by decide +kernel
theorem dX10_done_20 : decode cX10_done 20 = .ok (.bipush (-2), 2) := by decide +kernel
theorem dX10_done_22 : decode cX10_done 22 = .ok (.ireturn, 1) := by decide +kernel
theorem dX10_done_23 : decode cX10_done 23 = .ok (.aload_n 0, 1) := by decide +kernel
theorem dX10_done_24 : decode cX10_done 24 = .ok (.getfield 12, 3) := by decide +kernel
theorem dX10_done_27 : decode cX10_done 27 = .ok (.iload_n 1, 1) := by decide +kernel
theorem dX10_done_28 : decode cX10_done 28 = .ok (.iload 4, 2) := by decide +kernel
theorem dX10_done_30 : decode cX10_done 30 = .ok (.invokevirtual 133, 3) := by decide +kernel
theorem dX10_done_33 : decode cX10_done 33 = .ok (.ifCond .ne 6, 3) := by decide +kernel
theorem dX10_done_36 : decode cX10_done 36 = .ok (.bipush (-4), 2) := by decide +kernel
theorem dX10_done_38 : decode cX10_done 38 = .ok (.ireturn, 1) := by decide +kernel
theorem dX10_done_39 : decode cX10_done 39 = .ok (.aload_n 0, 1) := by decide +kernel
theorem dX10_done_40 : decode cX10_done 40 = .ok (.getfield 38, 3) := by decide +kernel
theorem dX10_done_43 : decode cX10_done 43 = .ok (.iload_n 1, 1) := by decide +kernel
theorem dX10_done_44 : decode cX10_done 44 = .ok (.iload_n 2, 1) := by decide +kernel
theorem dX10_done_45 : decode cX10_done 45 = .ok (.iload_n 3, 1) := by decide +kernel
theorem dX10_done_46 : decode cX10_done 46 = .ok (.iload 4, 2) := by decide +kernel
theorem dX10_done_48 : decode cX10_done 48 = .ok (.invokevirtual 137, 3) := by decide +kernel
theorem dX10_done_51 : decode cX10_done 51 = .ok (.iconst 1, 1) := by decide +kernel
theorem dX10_done_52 : decode cX10_done 52 = .ok (.ireturn, 1) := by decide +kernel
theorem dX10_ill_0 : decode cX10_ill 0 = .ok (.aload_n 0, 1) := by decide +kernel
theorem dX10_ill_1 : decode cX10_ill 1 = .ok (.iload_n 1, 1) := by decide +kernel
theorem dX10_ill_2 : decode cX10_ill 2 = .ok (.iload_n 2, 1) := by decide +kernel
theorem dX10_ill_3 : decode cX10_ill 3 = .ok (.invokevirtual 141, 3) := by decide +kernel
theorem dX10_ill_6 : decode cX10_ill 6 = .ok (.ifCond .ne 6, 3) := by decide +kernel
theorem dX10_ill_9 : decode cX10_ill 9 = .ok (.bipush (-2), 2) := by decide +kernel
theorem dX10_ill_11 : decode cX10_ill 11 = .ok (.ireturn, 1) := by decide +kernel
theorem dX10_ill_12 : decode cX10_ill 12 = .ok (.aload_n 0, 1) := by decide +kernel
theorem dX10_ill_13 : decode cX10_ill 13 = .ok (.getfield 38, 3) := by decide +kernel
theorem dX10_ill_16 : decode cX10_ill 16 = .ok (.iload_n 1, 1) := by decide +kernel
theorem dX10_ill_17 : decode cX10_ill 17 = .ok (.iload_n 2, 1) := by decide +kernel
theorem dX10_ill_18 : decode cX10_ill 18 = .ok (.invokevirtual 144, 3) := by decide +kernel
theorem dX10_ill_21 : decode cX10_ill 21 = .ok (.ifCond .eq 7, 3) := by decide +kernel
theorem dX10_ill_24 : decode cX10_ill 24 = .ok (.iconst 1, 1) := by decide +kernel
theorem dX10_ill_25 : decode cX10_ill 25 = .ok (.goto 4, 3) := by decide +kernel
theorem dX10_ill_28 : decode cX10_ill 28 = .ok (.iconst 0, 1) := by decide +kernel
theorem dX10_ill_29 : decode cX10_ill 29 = .ok (.istore 4, 2) := by decide +kernel
theorem dX10_ill_31 : decode cX10_ill 31 = .ok (.aload_n 0, 1) := by decide +kernel
theorem dX10_ill_32 : decode cX10_ill 32 = .ok (.getfield 38, 3) := by decide +kernel
theorem dX10_ill_35 : decode cX10_ill 35 = .ok (.iload_n 1, 1) := by decide +kernel
theorem dX10_ill_36 : decode cX10_ill 36 = .ok (.iload_n 2, 1) := by decide +kernel
theorem dX10_ill_37 : decode cX10_ill 37 = .ok (.iload_n 3, 1) := by decide +kernel
theorem dX10_ill_38 : decode cX10_ill 38 = .ok (.invokevirtual 147, 3) := by decide +kernel
theorem dX10_ill_41 : decode cX10_ill 41 = .ok (.iload 4, 2) := by decide +kernel
theorem dX10_ill_43 : decode cX10_ill 43 = .ok (.ireturn, 1) := by decide +kernel
theorem dX10_days_0 : decode cX10_days 0 = .ok (.iload_n 1, 1) := by decide +kernel
theorem dX10_days_1 : decode cX10_days 1 = .ok (.iconst 1, 1) := by decide +kernel
theorem dX10_days_2 : decode cX10_days 2 = .ok (.bipush 99, 2) := by decide +kernel
theorem dX10_days_4 : decode cX10_days 4 = .ok (.invokestatic 87, 3) := by decide +kernel
theorem dX10_days_7 : decode cX10_days 7 = .ok (.ifCond .ne 6, 3) := by decide +kernel
theorem dX10_days_10 : decode cX10_days 10 = .ok (.bipush (-3), 2) := by decide +kernel
theorem dX10_days_12 : decode cX10_days 12 = .ok (.ireturn, 1) := by decide +kernel
theorem dX10_days_13 : decode cX10_days 13 = .ok (.iconst 0, 1) := by decide +kernel
theorem dX10_days_14 : decode cX10_days 14 = .ok (.istore_n 2, 1) := by decide +kernel
theorem dX10_days_15 : decode cX10_days 15 = .ok (.iload_n 2, 1) := by decide +kernel
theorem dX10_days_16 : decode cX10_days 16 = .ok (.iload_n 1, 1) := by decide +kernel
theorem dX10_days_17 : decode cX10_days 17 = .ok (.if_icmp .ge 20, 3) := by decide +kernel
theorem dX10_days_20 : decode cX10_days 20 = .ok (.aload_n 0, 1) := by decide +kernel
theorem dX10_days_21 : decode cX10_days 21 = .ok (.getfield 38, 3) := by decide +kernel
theorem dX10_days_24 : decode cX10_days 24 = .ok (.aload_n 0, 1) := by decide +kernel
theorem dX10_days_25 : decode cX10_days 25 = .ok (.getfield 12, 3) := by decide +kernel
theorem dX10_days_28 : decode cX10_days 28 = .ok (.invokevirtual 151, 3) := by decide +kernel
theorem dX10_days_31 : decode cX10_days 31 = .ok (.iinc 2 1, 3) := by decide +kernel
theorem dX10_days_34 : decode cX10_days 34 = .ok (.goto (-19), 3) := by decide +kernel
theorem dX10_days_37 : decode cX10_days 37 = .ok (.aload_n 0, 1) := by decide +kernel
theorem dX10_days_38 : decode cX10_days 38 = .ok (.getfield 38, 3) := by decide +kernel
theorem dX10_days_41 : decode cX10_days 41 = .ok (.getfield 154, 3) := by decide +kernel
theorem dX10_days_44 : decode cX10_days 44 = .ok (.ireturn, 1) := by decide +kernel
theorem dX10_person_0 : decode cX10_person 0 = .ok (.aload_n 0, 1) := by decide +kernel
theorem dX10_person_1 : decode cX10_person 1 = .ok (.iload_n 1, 1) := by decide +kernel
theorem dX10_person_2 : decode cX10_person 2 = .ok (.iload_n 2, 1) := by decide +kernel
theorem dX10_person_3 : decode cX10_person 3 = .ok (.invokevirtual 141, 3) := by decide +kernel
theorem dX10_person_6 : decode cX10_person 6 = .ok (.ifCond .ne 6, 3) := by decide +kernel
theorem dX10_person_9 : decode cX10_person 9 = .ok (.bipush (-2), 2) := by decide +kernel
theorem dX10_person_11 : decode cX10_person 11 = .ok (.ireturn, 1) := by decide +kernel
theorem dX10_person_12 : decode cX10_person 12 = .ok (.iload_n 3, 1) := by decide +kernel
theorem dX10_person_13 : decode cX10_person 13 = .ok (.ifCond .ne 13, 3) := by decide +kernel
theorem dX10_person_16 : decode cX10_person 16 = .ok (.aload_n 0, 1) := by decide +kernel
theorem dX10_person_17 : decode cX10_person 17 = .ok (.getfield 38, 3) := by decide +kernel
theorem dX10_person_20 : decode cX10_person 20 = .ok (.iload_n 1, 1) := by decide +kernel
theorem dX10_person_21 : decode cX10_person 21 = .ok (.iload_n 2, 1) := by decide +kernel
theorem dX10_person_22 : decode cX10_person 22 = .ok (.invokevirtual 157, 3) := by decide +kernel
theorem dX10_person_25 : decode cX10_person 25 = .ok (.ireturn, 1) := by decide +kernel
theorem dX10_person_26 : decode cX10_person 26 = .ok (.iload_n 3, 1) := by decide +kernel
theorem dX10_person_27 : decode cX10_person 27 = .ok (.iconst 1, 1) := by decide +kernel
theorem dX10_person_28 : decode cX10_person 28 = .ok (.if_icmp .ne 13, 3) := by decide +kernel
theorem dX10_person_31 : decode cX10_person 31 = .ok (.aload_n 0, 1) := by decide +kernel
theorem dX10_person_32 : decode cX10_person 32 = .ok (.getfield 38, 3) := by decide +kernel
theorem dX10_person_35 : decode cX10_person 35 = .ok (.iload_n 1, 1) := by decide +kernel
theorem dX10_person_36 : decode cX10_person 36 = .ok (.iload_n 2, 1) := by decide +kernel
theorem dX10_person_37 : decode cX10_person 37 = .ok (.invokevirtual 160, 3) := by decide +kernel
theorem dX10_person_40 : decode cX10_person 40 = .ok (.ireturn, 1) := by decide +kernel
theorem dX10_person_41 : decode cX10_person 41 = .ok (.iload_n 3, 1) := by decide +kernel
theorem dX10_person_42 : decode cX10_person 42 = .ok (.bipush 10, 2) := by decide +kernel
theorem dX10_person_44 : decode cX10_person 44 = .ok (.bipush 10, 2) := by decide +kernel
theorem dX10_person_46 : decode cX10_person 46 = .ok (.aload_n 0, 1) := by decide +kernel
theorem dX10_person_47 : decode cX10_person 47 = .ok (.getfield 12, 3) := by decide +kernel
theorem dX10_person_50 : decode cX10_person 50 = .ok (.getfield 163, 3) := by decide +kernel
theorem dX10_person_53 : decode cX10_person 53 = .ok (.iadd, 1) := by decide +kernel
theorem dX10_person_54 : decode cX10_person 54 = .ok (.iconst 1, 1) := by decide +kernel
theorem dX10_person_55 : decode cX10_person 55 = .ok (.isub, 1) := by decide +kernel
theorem dX10_person_56 : decode cX10_person 56 = .ok (.invokestatic 87, 3) := by decide +kernel
theorem dX10_person_59 : decode cX10_person 59 = .ok (.ifCond .ne 6, 3) := by decide +kernel
theorem dX10_person_62 : decode cX10_person 62 = .ok (.bipush (-3), 2) := by decide +kernel
theorem dX10_person_64 : decode cX10_person 64 = .ok (.ireturn, 1) := by decide +kernel
theorem dX10_person_65 : decode cX10_person 65 = .ok (.aload_n 0, 1) := by decide +kernel
theorem dX10_person_66 : decode cX10_person 66 = .ok (.getfield 38, 3) := by decide +kernel
theorem dX10_person_69 : decode cX10_person 69 = .ok (.aload_n 0, 1) := by decide +kernel
theorem dX10_person_70 : decode cX10_person 70 = .ok (.getfield 12, 3) := by decide +kernel
theorem dX10_person_73 : decode cX10_person 73 = .ok (.iload_n 1, 1) := by decide +kernel
theorem dX10_person_74 : decode cX10_person 74 = .ok (.iload_n 2, 1) := by decide +kernel
theorem dX10_person_75 : decode cX10_person 75 = .ok (.iload_n 3, 1) := by decide +kernel
theorem dX10_person_76 : decode cX10_person 76 = .ok (.bipush 10, 2) := by decide +kernel
theorem dX10_person_78 : decode cX10_person 78 = .ok (.isub, 1) := by decide +kernel
theorem dX10_person_79 : decode cX10_person 79 = .ok (.invokevirtual 166, 3) := by decide +kernel
theorem dX10_person_82 : decode cX10_person 82 = .ok (.ireturn, 1) := by decide +kernel
theorem dX10_bread_0 : decode cX10_bread 0 = .ok (.iload_n 1, 1) := by decide +kernel
theorem dX10_bread_1 : decode cX10_bread 1 = .ok (.invokestatic 170, 3) := by decide +kernel
theorem dX10_bread_4 : decode cX10_bread 4 = .ok (.ifCond .ne 6, 3) := by decide +kernel
theorem dX10_bread_7 : decode cX10_bread 7 = .ok (.bipush (-2), 2) := by decide +kernel
theorem dX10_bread_9 : decode cX10_bread 9 = .ok (.ireturn, 1) := by decide +kernel
theorem dX10_bread_10 : decode cX10_bread 10 = .ok (.aload_n 0, 1) := by decide +kernel
theorem dX10_bread_11 : decode cX10_bread 11 = .ok (.getfield 38, 3) := by decide +kernel
theorem dX10_bread_14 : decode cX10_bread 14 = .ok (.getfield 174, 3) := by decide +kernel
theorem dX10_bread_17 : decode cX10_bread 17 = .ok (.iload_n 1, 1) := by decide +kernel
theorem dX10_bread_18 : decode cX10_bread 18 = .ok (.iaload, 1) := by decide +kernel
theorem dX10_bread_19 : decode cX10_bread 19 = .ok (.ldc 178, 2) := by decide +kernel
theorem dX10_bread_21 : decode cX10_bread 21 = .ok (.iadd, 1) := by decide +kernel
theorem dX10_bread_22 : decode cX10_bread 22 = .ok (.ireturn, 1) := by decide +kernel
theorem dX10_breaches_0 : decode cX10_breaches 0 = .ok (.aload_n 0, 1) := by decide +kernel
theorem dX10_breaches_1 : decode cX10_breaches 1 = .ok (.getfield 12, 3) := by decide +kernel
theorem dX10_breaches_4 : decode cX10_breaches 4 = .ok (.iload_n 1, 1) := by decide +kernel
theorem dX10_breaches_5 : decode cX10_breaches 5 = .ok (.invokevirtual 179, 3) := by decide +kernel
theorem dX10_breaches_8 : decode cX10_breaches 8 = .ok (.ifCond .ne 6, 3) := by decide +kernel
theorem dX10_breaches_11 : decode cX10_breaches 11 = .ok (.bipush (-2), 2) := by decide +kernel
theorem dX10_breaches_13 : decode cX10_breaches 13 = .ok (.ireturn, 1) := by decide +kernel
theorem dX10_breaches_14 : decode cX10_breaches 14 = .ok (.iconst 0, 1) := by decide +kernel
theorem dX10_breaches_15 : decode cX10_breaches 15 = .ok (.istore_n 2, 1) := by decide +kernel
theorem dX10_breaches_16 : decode cX10_breaches 16 = .ok (.iconst 0, 1) := by decide +kernel
theorem dX10_breaches_17 : decode cX10_breaches 17 = .ok (.istore_n 3, 1) := by decide +kernel
theorem dX10_breaches_18 : decode cX10_breaches 18 = .ok (.iload_n 3, 1) := by decide +kernel
theorem dX10_breaches_19 : decode cX10_breaches 19 = .ok (.aload_n 0, 1) := by decide +kernel
theorem dX10_breaches_20 : decode cX10_breaches 20 = .ok (.getfield 12, 3) := by decide +kernel
theorem dX10_breaches_23 : decode cX10_breaches 23 = .ok (.getfield 163, 3) := by decide +kernel
theorem dX10_breaches_26 : decode cX10_breaches 26 = .ok (.if_icmp .ge 31, 3) := by decide +kernel
theorem dX10_breaches_29 : decode cX10_breaches 29 = .ok (.aload_n 0, 1) := by decide +kernel
theorem dX10_breaches_30 : decode cX10_breaches 30 = .ok (.getfield 38, 3) := by decide +kernel
theorem dX10_breaches_33 : decode cX10_breaches 33 = .ok (.aload_n 0, 1) := by decide +kernel
theorem dX10_breaches_34 : decode cX10_breaches 34 = .ok (.getfield 12, 3) := by decide +kernel
theorem dX10_breaches_37 : decode cX10_breaches 37 = .ok (.iload_n 1, 1) := by decide +kernel
theorem dX10_breaches_38 : decode cX10_breaches 38 = .ok (.iload_n 3, 1) := by decide +kernel
theorem dX10_breaches_39 : decode cX10_breaches 39 = .ok (.invokevirtual 182, 3) := by decide +kernel
theorem dX10_breaches_42 : decode cX10_breaches 42 = .ok (.ifCond .eq 9, 3) := by decide +kernel
theorem dX10_breaches_45 : decode cX10_breaches 45 = .ok (.iload_n 2, 1) := by decide +kernel
theorem dX10_breaches_46 : decode cX10_breaches 46 = .ok (.iconst 1, 1) := by decide +kernel
theorem dX10_breaches_47 : decode cX10_breaches 47 = .ok (.iload_n 3, 1) := by decide +kernel
theorem dX10_breaches_48 : decode cX10_breaches 48 = .ok (.ishl, 1) := by decide +kernel
theorem dX10_breaches_49 : decode cX10_breaches 49 = .ok (.ior, 1) := by decide +kernel
theorem dX10_breaches_50 : decode cX10_breaches 50 = .ok (.istore_n 2, 1) := by decide +kernel
theorem dX10_breaches_51 : decode cX10_breaches 51 = .ok (.iinc 3 1, 3) := by decide +kernel
theorem dX10_breaches_54 : decode cX10_breaches 54 = .ok (.goto (-36), 3) := by decide +kernel
theorem dX10_breaches_57 : decode cX10_breaches 57 = .ok (.iload_n 2, 1) := by decide +kernel
theorem dX10_breaches_58 : decode cX10_breaches 58 = .ok (.ireturn, 1) := by decide +kernel
theorem dX10_as_0 : decode cX10_as 0 = .ok (.aload_n 0, 1) := by decide +kernel
theorem dX10_as_1 : decode cX10_as 1 = .ok (.getfield 12, 3) := by decide +kernel
theorem dX10_as_4 : decode cX10_as 4 = .ok (.iload_n 1, 1) := by decide +kernel
theorem dX10_as_5 : decode cX10_as 5 = .ok (.invokevirtual 179, 3) := by decide +kernel
theorem dX10_as_8 : decode cX10_as 8 = .ok (.ifCond .ne 6, 3) := by decide +kernel
theorem dX10_as_11 : decode cX10_as 11 = .ok (.bipush (-2), 2) := by decide +kernel
theorem dX10_as_13 : decode cX10_as 13 = .ok (.ireturn, 1) := by decide +kernel
theorem dX10_as_14 : decode cX10_as 14 = .ok (.iload_n 2, 1) := by decide +kernel
theorem dX10_as_15 : decode cX10_as 15 = .ok (.iconst 0, 1) := by decide +kernel
theorem dX10_as_16 : decode cX10_as 16 = .ok (.getstatic 186, 3) := by decide +kernel
theorem dX10_as_19 : decode cX10_as 19 = .ok (.arraylength, 1) := by decide +kernel
theorem dX10_as_20 : decode cX10_as 20 = .ok (.iconst 1, 1) := by decide +kernel
theorem dX10_as_21 : decode cX10_as 21 = .ok (.isub, 1) := by decide +kernel
theorem dX10_as_22 : decode cX10_as 22 = .ok (.invokestatic 87, 3) := by decide +kernel
theorem dX10_as_25 : decode cX10_as 25 = .ok (.ifCond .ne 6, 3) := by decide +kernel
theorem dX10_as_28 : decode cX10_as 28 = .ok (.bipush (-3), 2) := by decide +kernel
theorem dX10_as_30 : decode cX10_as 30 = .ok (.ireturn, 1) := by decide +kernel
theorem dX10_as_31 : decode cX10_as 31 = .ok (.aload_n 0, 1) := by decide +kernel
theorem dX10_as_32 : decode cX10_as 32 = .ok (.getfield 12, 3) := by decide +kernel
theorem dX10_as_35 : decode cX10_as 35 = .ok (.iload_n 1, 1) := by decide +kernel
theorem dX10_as_36 : decode cX10_as 36 = .ok (.invokevirtual 189, 3) := by decide +kernel
theorem dX10_as_39 : decode cX10_as 39 = .ok (.iload_n 2, 1) := by decide +kernel
theorem dX10_as_40 : decode cX10_as 40 = .ok (.invokestatic 192, 3) := by decide +kernel
theorem dX10_as_43 : decode cX10_as 43 = .ok (.ifCond .ne 6, 3) := by decide +kernel
theorem dX10_as_46 : decode cX10_as 46 = .ok (.bipush (-4), 2) := by decide +kernel
theorem dX10_as_48 : decode cX10_as 48 = .ok (.ireturn, 1) := by decide +kernel
theorem dX10_as_49 : decode cX10_as 49 = .ok (.aload_n 0, 1) := by decide +kernel
theorem dX10_as_50 : decode cX10_as 50 = .ok (.getfield 38, 3) := by decide +kernel
theorem dX10_as_53 : decode cX10_as 53 = .ok (.iconst 0, 1) := by decide +kernel
theorem dX10_as_54 : decode cX10_as 54 = .ok (.iload_n 1, 1) := by decide +kernel
theorem dX10_as_55 : decode cX10_as 55 = .ok (.invokevirtual 157, 3) := by decide +kernel
theorem dX10_as_58 : decode cX10_as 58 = .ok (.aload_n 0, 1) := by decide +kernel
theorem dX10_as_59 : decode cX10_as 59 = .ok (.getfield 38, 3) := by decide +kernel
theorem dX10_as_62 : decode cX10_as 62 = .ok (.iconst 1, 1) := by decide +kernel
theorem dX10_as_63 : decode cX10_as 63 = .ok (.iload_n 1, 1) := by decide +kernel
theorem dX10_as_64 : decode cX10_as 64 = .ok (.invokevirtual 157, 3) := by decide +kernel
theorem dX10_as_67 : decode cX10_as 67 = .ok (.iadd, 1) := by decide +kernel
theorem dX10_as_68 : decode cX10_as 68 = .ok (.ireturn, 1) := by decide +kernel
theorem dX10_plan_0 : decode cX10_plan 0 = .ok (.iload_n 1, 1) := by decide +kernel
theorem dX10_plan_1 : decode cX10_plan 1 = .ok (.iload_n 2, 1) := by decide +kernel
theorem dX10_plan_2 : decode cX10_plan 2 = .ok (.invokestatic 195, 3) := by decide +kernel
theorem dX10_plan_5 : decode cX10_plan 5 = .ok (.ifCond .eq 12, 3) := by decide +kernel
theorem dX10_plan_8 : decode cX10_plan 8 = .ok (.iload_n 3, 1) := by decide +kernel
theorem dX10_plan_9 : decode cX10_plan 9 = .ok (.iconst 0, 1) := by decide +kernel
theorem dX10_plan_10 : decode cX10_plan 10 = .ok (.iconst 1, 1) := by decide +kernel
theorem dX10_plan_11 : decode cX10_plan 11 = .ok (.invokestatic 87, 3) := by decide +kernel
theorem dX10_plan_14 : decode cX10_plan 14 = .ok (.ifCond .ne 6, 3) := by decide +kernel
theorem dX10_plan_17 : decode cX10_plan 17 = .ok (.bipush (-3), 2) := by decide +kernel
theorem dX10_plan_19 : decode cX10_plan 19 = .ok (.ireturn, 1) := by decide +kernel
theorem dX10_plan_20 : decode cX10_plan 20 = .ok (.aload_n 0, 1) := by decide +kernel
theorem dX10_plan_21 : decode cX10_plan 21 = .ok (.getfield 55, 3) := by decide +kernel
theorem dX10_plan_24 : decode cX10_plan 24 = .ok (.iload_n 1, 1) := by decide +kernel
theorem dX10_plan_25 : decode cX10_plan 25 = .ok (.iload_n 2, 1) := by decide +kernel
theorem dX10_plan_26 : decode cX10_plan 26 = .ok (.invokevirtual 198, 3) := by decide +kernel
theorem dX10_plan_29 : decode cX10_plan 29 = .ok (.istore 4, 2) := by decide +kernel
theorem dX10_plan_31 : decode cX10_plan 31 = .ok (.iload_n 3, 1) := by decide +kernel
theorem dX10_plan_32 : decode cX10_plan 32 = .ok (.ifCond .eq 9, 3) := by decide +kernel
theorem dX10_plan_35 : decode cX10_plan 35 = .ok (.iload 4, 2) := by decide +kernel
theorem dX10_plan_37 : decode cX10_plan 37 = .ok (.iconst (-1), 1) := by decide +kernel
theorem dX10_plan_38 : decode cX10_plan 38 = .ok (.if_icmp .ne 6, 3) := by decide +kernel
theorem dX10_plan_41 : decode cX10_plan 41 = .ok (.iload 4, 2) := by decide +kernel
theorem dX10_plan_43 : decode cX10_plan 43 = .ok (.ireturn, 1) := by decide +kernel
theorem dX10_plan_44 : decode cX10_plan 44 = .ok (.aload_n 0, 1) := by decide +kernel
theorem dX10_plan_45 : decode cX10_plan 45 = .ok (.getfield 55, 3) := by decide +kernel
theorem dX10_plan_48 : decode cX10_plan 48 = .ok (.iload_n 1, 1) := by decide +kernel
theorem dX10_plan_49 : decode cX10_plan 49 = .ok (.iload_n 2, 1) := by decide +kernel
theorem dX10_plan_50 : decode cX10_plan 50 = .ok (.aload_n 0, 1) := by decide +kernel
theorem dX10_plan_51 : decode cX10_plan 51 = .ok (.getfield 12, 3) := by decide +kernel
theorem dX10_plan_54 : decode cX10_plan 54 = .ok (.getfield 201, 3) := by decide +kernel
theorem dX10_plan_57 : decode cX10_plan 57 = .ok (.iconst 1, 1) := by decide +kernel
theorem dX10_plan_58 : decode cX10_plan 58 = .ok (.isub, 1) := by decide +kernel
theorem dX10_plan_59 : decode cX10_plan 59 = .ok (.aload_n 0, 1) := by decide +kernel
theorem dX10_plan_60 : decode cX10_plan 60 = .ok (.getfield 12, 3) := by decide +kernel
theorem dX10_plan_63 : decode cX10_plan 63 = .ok (.getfield 163, 3) := by decide +kernel
theorem dX10_plan_66 : decode cX10_plan 66 = .ok (.iconst 1, 1) := by decide +kernel
theorem dX10_plan_67 : decode cX10_plan 67 = .ok (.isub, 1) := by decide +kernel
theorem dX10_plan_68 : decode cX10_plan 68 = .ok (.invokevirtual 204, 3) := by decide +kernel
theorem dX10_plan_71 : decode cX10_plan 71 = .ok (.ireturn, 1) := by decide +kernel
theorem dX10_planned_0 : decode cX10_planned 0 = .ok (.aload_n 0, 1) := by decide +kernel
theorem dX10_planned_1 : decode cX10_planned 1 = .ok (.iload_n 3, 1) := by decide +kernel
theorem dX10_planned_2 : decode cX10_planned 2 = .ok (.iload 4, 2) := by decide +kernel
theorem dX10_planned_4 : decode cX10_planned 4 = .ok (.iload 5, 2) := by decide +kernel
theorem dX10_planned_6 : decode cX10_planned 6 = .ok (.invokevirtual 126, 3) := by decide +kernel
theorem dX10_planned_9 : decode cX10_planned 9 = .ok (.ifCond .ne 6, 3) := by decide +kernel
theorem dX10_planned_12 : decode cX10_planned 12 = .ok (.bipush (-2), 2) := by decide +kernel
theorem dX10_planned_14 : decode cX10_planned 14 = .ok (.ireturn, 1) := by decide +kernel
theorem dX10_planned_15 : decode cX10_planned 15 = .ok (.iload_n 1, 1) := by decide +kernel
theorem dX10_planned_16 : decode cX10_planned 16 = .ok (.iload_n 2, 1) := by decide +kernel
theorem dX10_planned_17 : decode cX10_planned 17 = .ok (.invokestatic 195, 3) := by decide +kernel
theorem dX10_planned_20 : decode cX10_planned 20 = .ok (.ifCond .ne 6, 3) := by decide +kernel
theorem dX10_planned_23 : decode cX10_planned 23 = .ok (.bipush (-3), 2) := by decide +kernel
theorem dX10_planned_25 : decode cX10_planned 25 = .ok (.ireturn, 1) := by decide +kernel
theorem dX10_planned_26 : decode cX10_planned 26 = .ok (.aload_n 0, 1) := by decide +kernel
theorem dX10_planned_27 : decode cX10_planned 27 = .ok (.getfield 55, 3) := by decide +kernel
theorem dX10_planned_30 : decode cX10_planned 30 = .ok (.iload_n 1, 1) := by decide +kernel
theorem dX10_planned_31 : decode cX10_planned 31 = .ok (.iload_n 2, 1) := by decide +kernel
theorem dX10_planned_32 : decode cX10_planned 32 = .ok (.invokevirtual 198, 3) := by decide +kernel
theorem dX10_planned_35 : decode cX10_planned 35 = .ok (.iconst (-1), 1) := by decide +kernel
theorem dX10_planned_36 : decode cX10_planned 36 = .ok (.if_icmp .ne 5, 3) := by decide +kernel
theorem dX10_planned_39 : decode cX10_planned 39 = .ok (.iconst (-1), 1) := by decide +kernel
theorem dX10_planned_40 : decode cX10_planned 40 = .ok (.ireturn, 1) := by decide +kernel
theorem dX10_planned_41 : decode cX10_planned 41 = .ok (.aload_n 0, 1) := by decide +kernel
theorem dX10_planned_42 : decode cX10_planned 42 = .ok (.getfield 55, 3) := by decide +kernel
theorem dX10_planned_45 : decode cX10_planned 45 = .ok (.iload_n 1, 1) := by decide +kernel
theorem dX10_planned_46 : decode cX10_planned 46 = .ok (.iload_n 2, 1) := by decide +kernel
theorem dX10_planned_47 : decode cX10_planned 47 = .ok (.iload 4, 2) := by decide +kernel
theorem dX10_planned_49 : decode cX10_planned 49 = .ok (.iload 5, 2) := by decide +kernel
theorem dX10_planned_51 : decode cX10_planned 51 = .ok (.invokevirtual 204, 3) := by decide +kernel
theorem dX10_planned_54 : decode cX10_planned 54 = .ok (.pop, 1) := by decide +kernel
theorem dX10_planned_55 : decode cX10_planned 55 = .ok (.iload_n 3, 1) := by decide +kernel
theorem dX10_planned_56 : decode cX10_planned 56 = .ok (.ifCond .ne 13, 3) := by decide +kernel
theorem dX10_planned_59 : decode cX10_planned 59 = .ok (.aload_n 0, 1) := by decide +kernel
theorem dX10_planned_60 : decode cX10_planned 60 = .ok (.getfield 55, 3) := by decide +kernel
theorem dX10_planned_63 : decode cX10_planned 63 = .ok (.getfield 207, 3) := by decide +kernel
theorem dX10_planned_66 : decode cX10_planned 66 = .ok (.goto 10, 3) := by decide +kernel
theorem dX10_planned_69 : decode cX10_planned 69 = .ok (.aload_n 0, 1) := by decide +kernel
theorem dX10_planned_70 : decode cX10_planned 70 = .ok (.getfield 55, 3) := by decide +kernel
theorem dX10_planned_73 : decode cX10_planned 73 = .ok (.getfield 210, 3) := by decide +kernel
theorem dX10_planned_76 : decode cX10_planned 76 = .ok (.ireturn, 1) := by decide +kernel
theorem dX10_news_0 : decode cX10_news 0 = .ok (.iload_n 2, 1) := by decide +kernel
theorem dX10_news_1 : decode cX10_news 1 = .ok (.iconst 1, 1) := by decide +kernel
theorem dX10_news_2 : decode cX10_news 2 = .ok (.bipush 12, 2) := by decide +kernel
theorem dX10_news_4 : decode cX10_news 4 = .ok (.invokestatic 87, 3) := by decide +kernel
theorem dX10_news_7 : decode cX10_news 7 = .ok (.ifCond .eq 13, 3) := by decide +kernel
theorem dX10_news_10 : decode cX10_news 10 = .ok (.iload_n 3, 1) := by decide +kernel
theorem dX10_news_11 : decode cX10_news 11 = .ok (.iconst 0, 1) := by decide +kernel
theorem dX10_news_12 : decode cX10_news 12 = .ok (.bipush 9, 2) := by decide +kernel
theorem dX10_news_14 : decode cX10_news 14 = .ok (.invokestatic 87, 3) := by decide +kernel
theorem dX10_news_17 : decode cX10_news 17 = .ok (.ifCond .ne 6, 3) := by decide +kernel
theorem dX10_news_20 : decode cX10_news 20 = .ok (.bipush (-3), 2) := by decide +kernel
theorem dX10_news_22 : decode cX10_news 22 = .ok (.ireturn, 1) := by decide +kernel
theorem dX10_news_23 : decode cX10_news 23 = .ok (.iload 4, 2) := by decide +kernel
theorem dX10_news_25 : decode cX10_news 25 = .ok (.ifCond .eq 16, 3) := by decide +kernel
theorem dX10_news_28 : decode cX10_news 28 = .ok (.aload_n 0, 1) := by decide +kernel
theorem dX10_news_29 : decode cX10_news 29 = .ok (.getfield 62, 3) := by decide +kernel
theorem dX10_news_32 : decode cX10_news 32 = .ok (.iload_n 1, 1) := by decide +kernel
theorem dX10_news_33 : decode cX10_news 33 = .ok (.iload_n 2, 1) := by decide +kernel
theorem dX10_news_34 : decode cX10_news 34 = .ok (.iload_n 3, 1) := by decide +kernel
theorem dX10_news_35 : decode cX10_news 35 = .ok (.invokevirtual 213, 3) := by decide +kernel
theorem dX10_news_38 : decode cX10_news 38 = .ok (.goto 13, 3) := by decide +kernel
theorem dX10_news_41 : decode cX10_news 41 = .ok (.aload_n 0, 1) := by decide +kernel
theorem dX10_news_42 : decode cX10_news 42 = .ok (.getfield 62, 3) := by decide +kernel
theorem dX10_news_45 : decode cX10_news 45 = .ok (.iload_n 1, 1) := by decide +kernel
theorem dX10_news_46 : decode cX10_news 46 = .ok (.iload_n 2, 1) := by decide +kernel
theorem dX10_news_47 : decode cX10_news 47 = .ok (.iload_n 3, 1) := by decide +kernel
theorem dX10_news_48 : decode cX10_news 48 = .ok (.invokevirtual 217, 3) := by decide +kernel
theorem dX10_news_51 : decode cX10_news 51 = .ok (.ireturn, 1) := by decide +kernel
theorem dX10_harm_0 : decode cX10_harm 0 = .ok (.aload_n 0, 1) := by decide +kernel
theorem dX10_harm_1 : decode cX10_harm 1 = .ok (.getfield 12, 3) := by decide +kernel
theorem dX10_harm_4 : decode cX10_harm 4 = .ok (.iload_n 1, 1) := by decide +kernel
theorem dX10_harm_5 : decode cX10_harm 5 = .ok (.invokevirtual 179, 3) := by decide +kernel
theorem dX10_harm_8 : decode cX10_harm 8 = .ok (.ifCond .eq 14, 3) := by decide +kernel
theorem dX10_harm_11 : decode cX10_harm 11 = .ok (.aload_n 0, 1) := by decide +kernel
theorem dX10_harm_12 : decode cX10_harm 12 = .ok (.getfield 12, 3) := by decide +kernel
theorem dX10_harm_15 : decode cX10_harm 15 = .ok (.iload_n 2, 1) := by decide +kernel
theorem dX10_harm_16 : decode cX10_harm 16 = .ok (.invokevirtual 179, 3) := by decide +kernel
theorem dX10_harm_19 : decode cX10_harm 19 = .ok (.ifCond .ne 6, 3) := by decide +kernel
theorem dX10_harm_22 : decode cX10_harm 22 = .ok (.bipush (-2), 2) := by decide +kernel
theorem dX10_harm_24 : decode cX10_harm 24 = .ok (.ireturn, 1) := by decide +kernel
theorem dX10_harm_25 : decode cX10_harm 25 = .ok (.iload_n 3, 1) := by decide +kernel
theorem dX10_harm_26 : decode cX10_harm 26 = .ok (.iconst 0, 1) := by decide +kernel
theorem dX10_harm_27 : decode cX10_harm 27 = .ok (.bipush 99, 2) := by decide +kernel
theorem dX10_harm_29 : decode cX10_harm 29 = .ok (.invokestatic 87, 3) := by decide +kernel
theorem dX10_harm_32 : decode cX10_harm 32 = .ok (.ifCond .ne 6, 3) := by decide +kernel
theorem dX10_harm_35 : decode cX10_harm 35 = .ok (.bipush (-3), 2) := by decide +kernel
theorem dX10_harm_37 : decode cX10_harm 37 = .ok (.ireturn, 1) := by decide +kernel
theorem dX10_harm_38 : decode cX10_harm 38 = .ok (.aload_n 0, 1) := by decide +kernel
theorem dX10_harm_39 : decode cX10_harm 39 = .ok (.getfield 69, 3) := by decide +kernel
theorem dX10_harm_42 : decode cX10_harm 42 = .ok (.iload_n 1, 1) := by decide +kernel
theorem dX10_harm_43 : decode cX10_harm 43 = .ok (.iload_n 2, 1) := by decide +kernel
theorem dX10_harm_44 : decode cX10_harm 44 = .ok (.iload_n 3, 1) := by decide +kernel
theorem dX10_harm_45 : decode cX10_harm 45 = .ok (.invokevirtual 220, 3) := by decide +kernel
theorem dX10_harm_48 : decode cX10_harm 48 = .ok (.ireturn, 1) := by decide +kernel
theorem dX10_anew_0 : decode cX10_anew 0 = .ok (.iload_n 1, 1) := by decide +kernel
theorem dX10_anew_1 : decode cX10_anew 1 = .ok (.iconst (-1), 1) := by decide +kernel
theorem dX10_anew_2 : decode cX10_anew 2 = .ok (.if_icmp .ne 20, 3) := by decide +kernel
theorem dX10_anew_5 : decode cX10_anew 5 = .ok (.aload_n 0, 1) := by decide +kernel
theorem dX10_anew_6 : decode cX10_anew 6 = .ok (.getfield 69, 3) := by decide +kernel
theorem dX10_anew_9 : decode cX10_anew 9 = .ok (.aload_n 0, 1) := by decide +kernel
theorem dX10_anew_10 : decode cX10_anew 10 = .ok (.getfield 12, 3) := by decide +kernel
theorem dX10_anew_13 : decode cX10_anew 13 = .ok (.getfield 201, 3) := by decide +kernel
theorem dX10_anew_16 : decode cX10_anew 16 = .ok (.iconst (-1), 1) := by decide +kernel
theorem dX10_anew_17 : decode cX10_anew 17 = .ok (.iconst (-1), 1) := by decide +kernel
theorem dX10_anew_18 : decode cX10_anew 18 = .ok (.invokevirtual 223, 3) := by decide +kernel
theorem dX10_anew_21 : decode cX10_anew 21 = .ok (.ireturn, 1) := by decide +kernel
theorem dX10_anew_22 : decode cX10_anew 22 = .ok (.aload_n 0, 1) := by decide +kernel
theorem dX10_anew_23 : decode cX10_anew 23 = .ok (.getfield 12, 3) := by decide +kernel
theorem dX10_anew_26 : decode cX10_anew 26 = .ok (.iload_n 1, 1) := by decide +kernel
theorem dX10_anew_27 : decode cX10_anew 27 = .ok (.invokevirtual 179, 3) := by decide +kernel
theorem dX10_anew_30 : decode cX10_anew 30 = .ok (.ifCond .ne 6, 3) := by decide +kernel
theorem dX10_anew_33 : decode cX10_anew 33 = .ok (.bipush (-2), 2) := by decide +kernel
theorem dX10_anew_35 : decode cX10_anew 35 = .ok (.ireturn, 1) := by decide +kernel
theorem dX10_anew_36 : decode cX10_anew 36 = .ok (.aload_n 0, 1) := by decide +kernel
theorem dX10_anew_37 : decode cX10_anew 37 = .ok (.getfield 69, 3) := by decide +kernel
theorem dX10_anew_40 : decode cX10_anew 40 = .ok (.aload_n 0, 1) := by decide +kernel
theorem dX10_anew_41 : decode cX10_anew 41 = .ok (.getfield 12, 3) := by decide +kernel
theorem dX10_anew_44 : decode cX10_anew 44 = .ok (.getfield 201, 3) := by decide +kernel
theorem dX10_anew_47 : decode cX10_anew 47 = .ok (.iload_n 1, 1) := by decide +kernel
theorem dX10_anew_48 : decode cX10_anew 48 = .ok (.invokevirtual 226, 3) := by decide +kernel
theorem dX10_anew_51 : decode cX10_anew 51 = .ok (.ireturn, 1) := by decide +kernel
theorem dX10_forced_0 : decode cX10_forced 0 = .ok (.aload_n 0, 1) := by decide +kernel
theorem dX10_forced_1 : decode cX10_forced 1 = .ok (.getfield 12, 3) := by decide +kernel
theorem dX10_forced_4 : decode cX10_forced 4 = .ok (.iload_n 1, 1) := by decide +kernel
theorem dX10_forced_5 : decode cX10_forced 5 = .ok (.invokevirtual 179, 3) := by decide +kernel
theorem dX10_forced_8 : decode cX10_forced 8 = .ok (.ifCond .eq 14, 3) := by decide +kernel
theorem dX10_forced_11 : decode cX10_forced 11 = .ok (.aload_n 0, 1) := by decide +kernel
theorem dX10_forced_12 : decode cX10_forced 12 = .ok (.getfield 12, 3) := by decide +kernel
theorem dX10_forced_15 : decode cX10_forced 15 = .ok (.iload_n 2, 1) := by decide +kernel
theorem dX10_forced_16 : decode cX10_forced 16 = .ok (.invokevirtual 179, 3) := by decide +kernel
theorem dX10_forced_19 : decode cX10_forced 19 = .ok (.ifCond .ne 6, 3) := by decide +kernel
theorem dX10_forced_22 : decode cX10_forced 22 = .ok (.bipush (-2), 2) := by decide +kernel
theorem dX10_forced_24 : decode cX10_forced 24 = .ok (.ireturn, 1) := by decide +kernel
theorem dX10_forced_25 : decode cX10_forced 25 = .ok (.aload_n 0, 1) := by decide +kernel
theorem dX10_forced_26 : decode cX10_forced 26 = .ok (.getfield 69, 3) := by decide +kernel
theorem dX10_forced_29 : decode cX10_forced 29 = .ok (.aload_n 0, 1) := by decide +kernel
theorem dX10_forced_30 : decode cX10_forced 30 = .ok (.getfield 12, 3) := by decide +kernel
theorem dX10_forced_33 : decode cX10_forced 33 = .ok (.getfield 201, 3) := by decide +kernel
theorem dX10_forced_36 : decode cX10_forced 36 = .ok (.iload_n 1, 1) := by decide +kernel
theorem dX10_forced_37 : decode cX10_forced 37 = .ok (.iload_n 2, 1) := by decide +kernel
theorem dX10_forced_38 : decode cX10_forced 38 = .ok (.invokevirtual 223, 3) := by decide +kernel
theorem dX10_forced_41 : decode cX10_forced 41 = .ok (.ireturn, 1) := by decide +kernel
theorem dX10_like_0 : decode cX10_like 0 = .ok (.aload_n 0, 1) := by decide +kernel
theorem dX10_like_1 : decode cX10_like 1 = .ok (.iload_n 1, 1) := by decide +kernel
theorem dX10_like_2 : decode cX10_like 2 = .ok (.iload_n 2, 1) := by decide +kernel
theorem dX10_like_3 : decode cX10_like 3 = .ok (.invokevirtual 141, 3) := by decide +kernel
theorem dX10_like_6 : decode cX10_like 6 = .ok (.ifCond .eq 12, 3) := by decide +kernel
theorem dX10_like_9 : decode cX10_like 9 = .ok (.aload_n 0, 1) := by decide +kernel
theorem dX10_like_10 : decode cX10_like 10 = .ok (.iload_n 1, 1) := by decide +kernel
theorem dX10_like_11 : decode cX10_like 11 = .ok (.iload_n 3, 1) := by decide +kernel
theorem dX10_like_12 : decode cX10_like 12 = .ok (.invokevirtual 141, 3) := by decide +kernel
theorem dX10_like_15 : decode cX10_like 15 = .ok (.ifCond .ne 6, 3) := by decide +kernel
theorem dX10_like_18 : decode cX10_like 18 = .ok (.bipush (-2), 2) := by decide +kernel
theorem dX10_like_20 : decode cX10_like 20 = .ok (.ireturn, 1) := by decide +kernel
theorem dX10_like_21 : decode cX10_like 21 = .ok (.iload_n 2, 1) := by decide +kernel
theorem dX10_like_22 : decode cX10_like 22 = .ok (.iload_n 3, 1) := by decide +kernel
theorem dX10_like_23 : decode cX10_like 23 = .ok (.if_icmp .eq 14, 3) := by decide +kernel
theorem dX10_like_26 : decode cX10_like 26 = .ok (.iload 4, 2) := by decide +kernel
theorem dX10_like_28 : decode cX10_like 28 = .ok (.iconst 0, 1) := by decide +kernel
theorem dX10_like_29 : decode cX10_like 29 = .ok (.bipush 99, 2) := by decide +kernel
theorem dX10_like_31 : decode cX10_like 31 = .ok (.invokestatic 87, 3) := by decide +kernel
theorem dX10_like_34 : decode cX10_like 34 = .ok (.ifCond .ne 6, 3) := by decide +kernel
theorem dX10_like_37 : decode cX10_like 37 = .ok (.bipush (-3), 2) := by decide +kernel
theorem dX10_like_39 : decode cX10_like 39 = .ok (.ireturn, 1) := by decide +kernel
theorem dX10_like_40 : decode cX10_like 40 = .ok (.aload_n 0, 1) := by decide +kernel
theorem dX10_like_41 : decode cX10_like 41 = .ok (.getfield 76, 3) := by decide +kernel
theorem dX10_like_44 : decode cX10_like 44 = .ok (.iload_n 1, 1) := by decide +kernel
theorem dX10_like_45 : decode cX10_like 45 = .ok (.iload_n 2, 1) := by decide +kernel
theorem dX10_like_46 : decode cX10_like 46 = .ok (.iload_n 3, 1) := by decide +kernel
theorem dX10_like_47 : decode cX10_like 47 = .ok (.iload 4, 2) := by decide +kernel
theorem dX10_like_49 : decode cX10_like 49 = .ok (.invokevirtual 229, 3) := by decide +kernel
theorem dX10_like_52 : decode cX10_like 52 = .ok (.ireturn, 1) := by decide +kernel
theorem dX10_fours_0 : decode cX10_fours 0 = .ok (.iload_n 1, 1) := by decide +kernel
theorem dX10_fours_1 : decode cX10_fours 1 = .ok (.ifCond .ne 18, 3) := by decide +kernel
theorem dX10_fours_4 : decode cX10_fours 4 = .ok (.aload_n 0, 1) := by decide +kernel
theorem dX10_fours_5 : decode cX10_fours 5 = .ok (.getfield 76, 3) := by decide +kernel
theorem dX10_fours_8 : decode cX10_fours 8 = .ok (.aload_n 0, 1) := by decide +kernel
theorem dX10_fours_9 : decode cX10_fours 9 = .ok (.getfield 12, 3) := by decide +kernel
theorem dX10_fours_12 : decode cX10_fours 12 = .ok (.getfield 201, 3) := by decide +kernel
theorem dX10_fours_15 : decode cX10_fours 15 = .ok (.invokevirtual 232, 3) := by decide +kernel
theorem dX10_fours_18 : decode cX10_fours 18 = .ok (.ireturn, 1) := by decide +kernel
theorem dX10_fours_19 : decode cX10_fours 19 = .ok (.iload_n 1, 1) := by decide +kernel
theorem dX10_fours_20 : decode cX10_fours 20 = .ok (.iconst 1, 1) := by decide +kernel
theorem dX10_fours_21 : decode cX10_fours 21 = .ok (.if_icmp .ne 18, 3) := by decide +kernel
theorem dX10_fours_24 : decode cX10_fours 24 = .ok (.aload_n 0, 1) := by decide +kernel
theorem dX10_fours_25 : decode cX10_fours 25 = .ok (.getfield 76, 3) := by decide +kernel
theorem dX10_fours_28 : decode cX10_fours 28 = .ok (.aload_n 0, 1) := by decide +kernel
theorem dX10_fours_29 : decode cX10_fours 29 = .ok (.getfield 12, 3) := by decide +kernel
theorem dX10_fours_32 : decode cX10_fours 32 = .ok (.getfield 201, 3) := by decide +kernel
theorem dX10_fours_35 : decode cX10_fours 35 = .ok (.invokevirtual 235, 3) := by decide +kernel
theorem dX10_fours_38 : decode cX10_fours 38 = .ok (.ireturn, 1) := by decide +kernel
theorem dX10_fours_39 : decode cX10_fours 39 = .ok (.bipush (-3), 2) := by decide +kernel
theorem dX10_fours_41 : decode cX10_fours 41 = .ok (.ireturn, 1) := by decide +kernel
theorem dX10_record_0 : decode cX10_record 0 = .ok (.aload_n 0, 1) := by decide +kernel
theorem dX10_record_1 : decode cX10_record 1 = .ok (.getfield 83, 3) := by decide +kernel
theorem dX10_record_4 : decode cX10_record 4 = .ok (.getfield 238, 3) := by decide +kernel
theorem dX10_record_7 : decode cX10_record 7 = .ok (.bipush 40, 2) := by decide +kernel
theorem dX10_record_9 : decode cX10_record 9 = .ok (.if_icmp .lt 6, 3) := by decide +kernel
theorem dX10_record_12 : decode cX10_record 12 = .ok (.bipush (-5), 2) := by decide +kernel
theorem dX10_record_14 : decode cX10_record 14 = .ok (.ireturn, 1) := by decide +kernel
theorem dX10_record_15 : decode cX10_record 15 = .ok (.aload_n 0, 1) := by decide +kernel
theorem dX10_record_16 : decode cX10_record 16 = .ok (.getfield 83, 3) := by decide +kernel
theorem dX10_record_19 : decode cX10_record 19 = .ok (.iload_n 1, 1) := by decide +kernel
theorem dX10_record_20 : decode cX10_record 20 = .ok (.invokevirtual 239, 3) := by decide +kernel
theorem dX10_record_23 : decode cX10_record 23 = .ok (.aload_n 0, 1) := by decide +kernel
theorem dX10_record_24 : decode cX10_record 24 = .ok (.getfield 83, 3) := by decide +kernel
theorem dX10_record_27 : decode cX10_record 27 = .ok (.getfield 238, 3) := by decide +kernel
theorem dX10_record_30 : decode cX10_record 30 = .ok (.ireturn, 1) := by decide +kernel
theorem dX10_burn_0 : decode cX10_burn 0 = .ok (.aload_n 0, 1) := by decide +kernel
theorem dX10_burn_1 : decode cX10_burn 1 = .ok (.getfield 83, 3) := by decide +kernel
theorem dX10_burn_4 : decode cX10_burn 4 = .ok (.getfield 238, 3) := by decide +kernel
theorem dX10_burn_7 : decode cX10_burn 7 = .ok (.istore_n 1, 1) := by decide +kernel
theorem dX10_burn_8 : decode cX10_burn 8 = .ok (.aload_n 0, 1) := by decide +kernel
theorem dX10_burn_9 : decode cX10_burn 9 = .ok (.getfield 83, 3) := by decide +kernel
theorem dX10_burn_12 : decode cX10_burn 12 = .ok (.iconst 0, 1) := by decide +kernel
theorem dX10_burn_13 : decode cX10_burn 13 = .ok (.putfield 238, 3) := by decide +kernel
theorem dX10_burn_16 : decode cX10_burn 16 = .ok (.iload_n 1, 1) := by decide +kernel
theorem dX10_burn_17 : decode cX10_burn 17 = .ok (.ireturn, 1) := by decide +kernel
theorem dX10_slips_0 : decode cX10_slips 0 = .ok (.iload_n 1, 1) := by decide +kernel
theorem dX10_slips_1 : decode cX10_slips 1 = .ok (.iconst 1, 1) := by decide +kernel
theorem dX10_slips_2 : decode cX10_slips 2 = .ok (.bipush 9, 2) := by decide +kernel
theorem dX10_slips_4 : decode cX10_slips 4 = .ok (.invokestatic 87, 3) := by decide +kernel
theorem dX10_slips_7 : decode cX10_slips 7 = .ok (.ifCond .eq 13, 3) := by decide +kernel
theorem dX10_slips_10 : decode cX10_slips 10 = .ok (.iload_n 2, 1) := by decide +kernel
theorem dX10_slips_11 : decode cX10_slips 11 = .ok (.iconst 1, 1) := by decide +kernel
theorem dX10_slips_12 : decode cX10_slips 12 = .ok (.bipush 9, 2) := by decide +kernel
theorem dX10_slips_14 : decode cX10_slips 14 = .ok (.invokestatic 87, 3) := by decide +kernel
theorem dX10_slips_17 : decode cX10_slips 17 = .ok (.ifCond .ne 6, 3) := by decide +kernel
theorem dX10_slips_20 : decode cX10_slips 20 = .ok (.bipush (-3), 2) := by decide +kernel
theorem dX10_slips_22 : decode cX10_slips 22 = .ok (.ireturn, 1) := by decide +kernel
theorem dX10_slips_23 : decode cX10_slips 23 = .ok (.iload_n 3, 1) := by decide +kernel
theorem dX10_slips_24 : decode cX10_slips 24 = .ok (.tableswitch 58 0 2 #[28, 38, 48], 28) := by decide +kernel
theorem dX10_slips_52 : decode cX10_slips 52 = .ok (.aload_n 0, 1) := by decide +kernel
theorem dX10_slips_53 : decode cX10_slips 53 = .ok (.getfield 83, 3) := by decide +kernel
theorem dX10_slips_56 : decode cX10_slips 56 = .ok (.iload_n 1, 1) := by decide +kernel
theorem dX10_slips_57 : decode cX10_slips 57 = .ok (.iload_n 2, 1) := by decide +kernel
theorem dX10_slips_58 : decode cX10_slips 58 = .ok (.invokevirtual 242, 3) := by decide +kernel
theorem dX10_slips_61 : decode cX10_slips 61 = .ok (.ireturn, 1) := by decide +kernel
theorem dX10_slips_62 : decode cX10_slips 62 = .ok (.aload_n 0, 1) := by decide +kernel
theorem dX10_slips_63 : decode cX10_slips 63 = .ok (.getfield 83, 3) := by decide +kernel
theorem dX10_slips_66 : decode cX10_slips 66 = .ok (.iload_n 1, 1) := by decide +kernel
theorem dX10_slips_67 : decode cX10_slips 67 = .ok (.iload_n 2, 1) := by decide +kernel
theorem dX10_slips_68 : decode cX10_slips 68 = .ok (.invokevirtual 245, 3) := by decide +kernel
theorem dX10_slips_71 : decode cX10_slips 71 = .ok (.ireturn, 1) := by decide +kernel
theorem dX10_slips_72 : decode cX10_slips 72 = .ok (.aload_n 0, 1) := by decide +kernel
theorem dX10_slips_73 : decode cX10_slips 73 = .ok (.getfield 83, 3) := by decide +kernel
theorem dX10_slips_76 : decode cX10_slips 76 = .ok (.iload_n 1, 1) := by decide +kernel
theorem dX10_slips_77 : decode cX10_slips 77 = .ok (.iload_n 2, 1) := by decide +kernel
theorem dX10_slips_78 : decode cX10_slips 78 = .ok (.invokevirtual 248, 3) := by decide +kernel
theorem dX10_slips_81 : decode cX10_slips 81 = .ok (.ireturn, 1) := by decide +kernel
theorem dX10_slips_82 : decode cX10_slips 82 = .ok (.bipush (-3), 2) := by decide +kernel
theorem dX10_slips_84 : decode cX10_slips 84 = .ok (.ireturn, 1) := by decide +kernel
theorem dX10_keep_0 : decode cX10_keep 0 = .ok (.iload_n 1, 1) := by decide +kernel
theorem dX10_keep_1 : decode cX10_keep 1 = .ok (.iconst 0, 1) := by decide +kernel
theorem dX10_keep_2 : decode cX10_keep 2 = .ok (.iconst 1, 1) := by decide +kernel
theorem dX10_keep_3 : decode cX10_keep 3 = .ok (.invokestatic 87, 3) := by decide +kernel
theorem dX10_keep_6 : decode cX10_keep 6 = .ok (.ifCond .ne 6, 3) := by decide +kernel
theorem dX10_keep_9 : decode cX10_keep 9 = .ok (.bipush (-2), 2) := by decide +kernel
theorem dX10_keep_11 : decode cX10_keep 11 = .ok (.ireturn, 1) := by decide +kernel
theorem dX10_keep_12 : decode cX10_keep 12 = .ok (.aload_n 0, 1) := by decide +kernel
theorem dX10_keep_13 : decode cX10_keep 13 = .ok (.getfield 42, 3) := by decide +kernel
theorem dX10_keep_16 : decode cX10_keep 16 = .ok (.iload_n 1, 1) := by decide +kernel
theorem dX10_keep_17 : decode cX10_keep 17 = .ok (.aaload, 1) := by decide +kernel
theorem dX10_keep_18 : decode cX10_keep 18 = .ok (.aload_n 0, 1) := by decide +kernel
theorem dX10_keep_19 : decode cX10_keep 19 = .ok (.getfield 38, 3) := by decide +kernel
theorem dX10_keep_22 : decode cX10_keep 22 = .ok (.invokevirtual 251, 3) := by decide +kernel
theorem dX10_keep_25 : decode cX10_keep 25 = .ok (.aload_n 0, 1) := by decide +kernel
theorem dX10_keep_26 : decode cX10_keep 26 = .ok (.getfield 46, 3) := by decide +kernel
theorem dX10_keep_29 : decode cX10_keep 29 = .ok (.iload_n 1, 1) := by decide +kernel
theorem dX10_keep_30 : decode cX10_keep 30 = .ok (.iconst 1, 1) := by decide +kernel
theorem dX10_keep_31 : decode cX10_keep 31 = .ok (.bastore, 1) := by decide +kernel
theorem dX10_keep_32 : decode cX10_keep 32 = .ok (.aload_n 0, 1) := by decide +kernel
theorem dX10_keep_33 : decode cX10_keep 33 = .ok (.getfield 38, 3) := by decide +kernel
theorem dX10_keep_36 : decode cX10_keep 36 = .ok (.getfield 154, 3) := by decide +kernel
theorem dX10_keep_39 : decode cX10_keep 39 = .ok (.ireturn, 1) := by decide +kernel
theorem dX10_back_0 : decode cX10_back 0 = .ok (.iload_n 1, 1) := by decide +kernel
theorem dX10_back_1 : decode cX10_back 1 = .ok (.iconst 0, 1) := by decide +kernel
theorem dX10_back_2 : decode cX10_back 2 = .ok (.iconst 1, 1) := by decide +kernel
theorem dX10_back_3 : decode cX10_back 3 = .ok (.invokestatic 87, 3) := by decide +kernel
theorem dX10_back_6 : decode cX10_back 6 = .ok (.ifCond .ne 6, 3) := by decide +kernel
theorem dX10_back_9 : decode cX10_back 9 = .ok (.bipush (-2), 2) := by decide +kernel
theorem dX10_back_11 : decode cX10_back 11 = .ok (.ireturn, 1) := by decide +kernel
theorem dX10_back_12 : decode cX10_back 12 = .ok (.aload_n 0, 1) := by decide +kernel
theorem dX10_back_13 : decode cX10_back 13 = .ok (.getfield 46, 3) := by decide +kernel
theorem dX10_back_16 : decode cX10_back 16 = .ok (.iload_n 1, 1) := by decide +kernel
theorem dX10_back_17 : decode cX10_back 17 = .ok (.baload, 1) := by decide +kernel
theorem dX10_back_18 : decode cX10_back 18 = .ok (.ifCond .ne 6, 3) := by decide +kernel
theorem dX10_back_21 : decode cX10_back 21 = .ok (.bipush (-4), 2) := by decide +kernel
theorem dX10_back_23 : decode cX10_back 23 = .ok (.ireturn, 1) := by decide +kernel
theorem dX10_back_24 : decode cX10_back 24 = .ok (.aload_n 0, 1) := by decide +kernel
theorem dX10_back_25 : decode cX10_back 25 = .ok (.getfield 38, 3) := by decide +kernel
theorem dX10_back_28 : decode cX10_back 28 = .ok (.aload_n 0, 1) := by decide +kernel
theorem dX10_back_29 : decode cX10_back 29 = .ok (.getfield 42, 3) := by decide +kernel
theorem dX10_back_32 : decode cX10_back 32 = .ok (.iload_n 1, 1) := by decide +kernel
theorem dX10_back_33 : decode cX10_back 33 = .ok (.aaload, 1) := by decide +kernel
theorem dX10_back_34 : decode cX10_back 34 = .ok (.invokevirtual 251, 3) := by decide +kernel
theorem dX10_back_37 : decode cX10_back 37 = .ok (.aload_n 0, 1) := by decide +kernel
theorem dX10_back_38 : decode cX10_back 38 = .ok (.getfield 38, 3) := by decide +kernel
theorem dX10_back_41 : decode cX10_back 41 = .ok (.getfield 154, 3) := by decide +kernel
theorem dX10_back_44 : decode cX10_back 44 = .ok (.ireturn, 1) := by decide +kernel
theorem dX10_count_0 : decode cX10_count 0 = .ok (.iload_n 1, 1) := by decide +kernel
theorem dX10_count_1 : decode cX10_count 1 = .ok (.tableswitch 99 0 6 #[43, 51, 59, 67, 75, 83, 91], 43) := by decide +kernel
theorem dX10_count_44 : decode cX10_count 44 = .ok (.aload_n 0, 1) := by decide +kernel
theorem dX10_count_45 : decode cX10_count 45 = .ok (.getfield 12, 3) := by decide +kernel
theorem dX10_count_48 : decode cX10_count 48 = .ok (.getfield 201, 3) := by decide +kernel
theorem dX10_count_51 : decode cX10_count 51 = .ok (.ireturn, 1) := by decide +kernel
theorem dX10_count_52 : decode cX10_count 52 = .ok (.aload_n 0, 1) := by decide +kernel
theorem dX10_count_53 : decode cX10_count 53 = .ok (.getfield 12, 3) := by decide +kernel
theorem dX10_count_56 : decode cX10_count 56 = .ok (.getfield 163, 3) := by decide +kernel
theorem dX10_count_59 : decode cX10_count 59 = .ok (.ireturn, 1) := by decide +kernel
theorem dX10_count_60 : decode cX10_count 60 = .ok (.aload_n 0, 1) := by decide +kernel
theorem dX10_count_61 : decode cX10_count 61 = .ok (.getfield 12, 3) := by decide +kernel
theorem dX10_count_64 : decode cX10_count 64 = .ok (.getfield 254, 3) := by decide +kernel
theorem dX10_count_67 : decode cX10_count 67 = .ok (.ireturn, 1) := by decide +kernel
theorem dX10_count_68 : decode cX10_count 68 = .ok (.aload_n 0, 1) := by decide +kernel
theorem dX10_count_69 : decode cX10_count 69 = .ok (.getfield 12, 3) := by decide +kernel
theorem dX10_count_72 : decode cX10_count 72 = .ok (.getfield 257, 3) := by decide +kernel
theorem dX10_count_75 : decode cX10_count 75 = .ok (.ireturn, 1) := by decide +kernel
theorem dX10_count_76 : decode cX10_count 76 = .ok (.aload_n 0, 1) := by decide +kernel
theorem dX10_count_77 : decode cX10_count 77 = .ok (.getfield 38, 3) := by decide +kernel
theorem dX10_count_80 : decode cX10_count 80 = .ok (.getfield 154, 3) := by decide +kernel
theorem dX10_count_83 : decode cX10_count 83 = .ok (.ireturn, 1) := by decide +kernel
theorem dX10_count_84 : decode cX10_count 84 = .ok (.aload_n 0, 1) := by decide +kernel
theorem dX10_count_85 : decode cX10_count 85 = .ok (.getfield 83, 3) := by decide +kernel
theorem dX10_count_88 : decode cX10_count 88 = .ok (.getfield 238, 3) := by decide +kernel
theorem dX10_count_91 : decode cX10_count 91 = .ok (.ireturn, 1) := by decide +kernel
theorem dX10_count_92 : decode cX10_count 92 = .ok (.aload_n 0, 1) := by decide +kernel
theorem dX10_count_93 : decode cX10_count 93 = .ok (.getfield 22, 3) := by decide +kernel
theorem dX10_count_96 : decode cX10_count 96 = .ok (.getfield 91, 3) := by decide +kernel
theorem dX10_count_99 : decode cX10_count 99 = .ok (.ireturn, 1) := by decide +kernel
theorem dX10_count_100 : decode cX10_count 100 = .ok (.iload_n 1, 1) := by decide +kernel
theorem dX10_count_101 : decode cX10_count 101 = .ok (.bipush 7, 2) := by decide +kernel
theorem dX10_count_103 : decode cX10_count 103 = .ok (.bipush 12, 2) := by decide +kernel
theorem dX10_count_105 : decode cX10_count 105 = .ok (.invokestatic 87, 3) := by decide +kernel
theorem dX10_count_108 : decode cX10_count 108 = .ok (.ifCond .ne 6, 3) := by decide +kernel
theorem dX10_count_111 : decode cX10_count 111 = .ok (.bipush (-3), 2) := by decide +kernel
theorem dX10_count_113 : decode cX10_count 113 = .ok (.ireturn, 1) := by decide +kernel
theorem dX10_count_114 : decode cX10_count 114 = .ok (.aload_n 0, 1) := by decide +kernel
theorem dX10_count_115 : decode cX10_count 115 = .ok (.getfield 12, 3) := by decide +kernel
theorem dX10_count_118 : decode cX10_count 118 = .ok (.iload_n 1, 1) := by decide +kernel
theorem dX10_count_119 : decode cX10_count 119 = .ok (.bipush 7, 2) := by decide +kernel
theorem dX10_count_121 : decode cX10_count 121 = .ok (.isub, 1) := by decide +kernel
theorem dX10_count_122 : decode cX10_count 122 = .ok (.invokevirtual 189, 3) := by decide +kernel
theorem dX10_count_125 : decode cX10_count 125 = .ok (.ireturn, 1) := by decide +kernel
theorem dX10_within_0 : decode cX10_within 0 = .ok (.iload_n 0, 1) := by decide +kernel
theorem dX10_within_1 : decode cX10_within 1 = .ok (.iload_n 1, 1) := by decide +kernel
theorem dX10_within_2 : decode cX10_within 2 = .ok (.if_icmp .lt 12, 3) := by decide +kernel
theorem dX10_within_5 : decode cX10_within 5 = .ok (.iload_n 0, 1) := by decide +kernel
theorem dX10_within_6 : decode cX10_within 6 = .ok (.iload_n 2, 1) := by decide +kernel
theorem dX10_within_7 : decode cX10_within 7 = .ok (.if_icmp .gt 7, 3) := by decide +kernel
theorem dX10_within_10 : decode cX10_within 10 = .ok (.iconst 1, 1) := by decide +kernel
theorem dX10_within_11 : decode cX10_within 11 = .ok (.goto 4, 3) := by decide +kernel
theorem dX10_within_14 : decode cX10_within 14 = .ok (.iconst 0, 1) := by decide +kernel
theorem dX10_within_15 : decode cX10_within 15 = .ok (.ireturn, 1) := by decide +kernel
theorem dX10_isValley_0 : decode cX10_isValley 0 = .ok (.iload_n 0, 1) := by decide +kernel
theorem dX10_isValley_1 : decode cX10_isValley 1 = .ok (.iconst 0, 1) := by decide +kernel
theorem dX10_isValley_2 : decode cX10_isValley 2 = .ok (.iconst 1, 1) := by decide +kernel
theorem dX10_isValley_3 : decode cX10_isValley 3 = .ok (.invokestatic 87, 3) := by decide +kernel
theorem dX10_isValley_6 : decode cX10_isValley 6 = .ok (.ireturn, 1) := by decide +kernel
theorem dX10_isPerson_0 : decode cX10_isPerson 0 = .ok (.iload_n 1, 1) := by decide +kernel
theorem dX10_isPerson_1 : decode cX10_isPerson 1 = .ok (.invokestatic 170, 3) := by decide +kernel
theorem dX10_isPerson_4 : decode cX10_isPerson 4 = .ok (.ifCond .eq 18, 3) := by decide +kernel
theorem dX10_isPerson_7 : decode cX10_isPerson 7 = .ok (.aload_n 0, 1) := by decide +kernel
theorem dX10_isPerson_8 : decode cX10_isPerson 8 = .ok (.getfield 12, 3) := by decide +kernel
theorem dX10_isPerson_11 : decode cX10_isPerson 11 = .ok (.iload_n 2, 1) := by decide +kernel
theorem dX10_isPerson_12 : decode cX10_isPerson 12 = .ok (.invokevirtual 179, 3) := by decide +kernel
theorem dX10_isPerson_15 : decode cX10_isPerson 15 = .ok (.ifCond .eq 7, 3) := by decide +kernel
theorem dX10_isPerson_18 : decode cX10_isPerson 18 = .ok (.iconst 1, 1) := by decide +kernel
theorem dX10_isPerson_19 : decode cX10_isPerson 19 = .ok (.goto 4, 3) := by decide +kernel
theorem dX10_isPerson_22 : decode cX10_isPerson 22 = .ok (.iconst 0, 1) := by decide +kernel
theorem dX10_isPerson_23 : decode cX10_isPerson 23 = .ok (.ireturn, 1) := by decide +kernel
theorem dX10_isSlot_0 : decode cX10_isSlot 0 = .ok (.aload_n 0, 1) := by decide +kernel
theorem dX10_isSlot_1 : decode cX10_isSlot 1 = .ok (.iload_n 1, 1) := by decide +kernel
theorem dX10_isSlot_2 : decode cX10_isSlot 2 = .ok (.iload_n 2, 1) := by decide +kernel
theorem dX10_isSlot_3 : decode cX10_isSlot 3 = .ok (.invokevirtual 141, 3) := by decide +kernel
theorem dX10_isSlot_6 : decode cX10_isSlot 6 = .ok (.ifCond .eq 18, 3) := by decide +kernel
theorem dX10_isSlot_9 : decode cX10_isSlot 9 = .ok (.aload_n 0, 1) := by decide +kernel
theorem dX10_isSlot_10 : decode cX10_isSlot 10 = .ok (.getfield 12, 3) := by decide +kernel
theorem dX10_isSlot_13 : decode cX10_isSlot 13 = .ok (.iload_n 3, 1) := by decide +kernel
theorem dX10_isSlot_14 : decode cX10_isSlot 14 = .ok (.invokevirtual 260, 3) := by decide +kernel
theorem dX10_isSlot_17 : decode cX10_isSlot 17 = .ok (.ifCond .eq 7, 3) := by decide +kernel
theorem dX10_isSlot_20 : decode cX10_isSlot 20 = .ok (.iconst 1, 1) := by decide +kernel
theorem dX10_isSlot_21 : decode cX10_isSlot 21 = .ok (.goto 4, 3) := by decide +kernel
theorem dX10_isSlot_24 : decode cX10_isSlot 24 = .ok (.iconst 0, 1) := by decide +kernel
theorem dX10_isSlot_25 : decode cX10_isSlot 25 = .ok (.ireturn, 1) := by decide +kernel
theorem dX10_isPlanAsked_0 : decode cX10_isPlanAsked 0 = .ok (.iload_n 0, 1) := by decide +kernel
theorem dX10_isPlanAsked_1 : decode cX10_isPlanAsked 1 = .ok (.iconst 0, 1) := by decide +kernel
theorem dX10_isPlanAsked_2 : decode cX10_isPlanAsked 2 = .ok (.iconst 1, 1) := by decide +kernel
theorem dX10_isPlanAsked_3 : decode cX10_isPlanAsked 3 = .ok (.invokestatic 87, 3) := by decide +kernel
theorem dX10_isPlanAsked_6 : decode cX10_isPlanAsked 6 = .ok (.ifCond .eq 18, 3) := by decide +kernel
theorem dX10_isPlanAsked_9 : decode cX10_isPlanAsked 9 = .ok (.iload_n 1, 1) := by decide +kernel
theorem dX10_isPlanAsked_10 : decode cX10_isPlanAsked 10 = .ok (.iconst 0, 1) := by decide +kernel
theorem dX10_isPlanAsked_11 : decode cX10_isPlanAsked 11 = .ok (.sipush 200, 3) := by decide +kernel
theorem dX10_isPlanAsked_14 : decode cX10_isPlanAsked 14 = .ok (.invokestatic 87, 3) := by decide +kernel
theorem dX10_isPlanAsked_17 : decode cX10_isPlanAsked 17 = .ok (.ifCond .eq 7, 3) := by decide +kernel
theorem dX10_isPlanAsked_20 : decode cX10_isPlanAsked 20 = .ok (.iconst 1, 1) := by decide +kernel
theorem dX10_isPlanAsked_21 : decode cX10_isPlanAsked 21 = .ok (.goto 4, 3) := by decide +kernel
theorem dX10_isPlanAsked_24 : decode cX10_isPlanAsked 24 = .ok (.iconst 0, 1) := by decide +kernel
theorem dX10_isPlanAsked_25 : decode cX10_isPlanAsked 25 = .ok (.ireturn, 1) := by decide +kernel
theorem dX10_isSuch_0 : decode cX10_isSuch 0 = .ok (.iload_n 0, 1) := by decide +kernel
theorem dX10_isSuch_1 : decode cX10_isSuch 1 = .ok (.iconst 3, 1) := by decide +kernel
theorem dX10_isSuch_2 : decode cX10_isSuch 2 = .ok (.iadd, 1) := by decide +kernel
theorem dX10_isSuch_3 : decode cX10_isSuch 3 = .ok (.istore_n 2, 1) := by decide +kernel
theorem dX10_isSuch_4 : decode cX10_isSuch 4 = .ok (.iconst 0, 1) := by decide +kernel
theorem dX10_isSuch_5 : decode cX10_isSuch 5 = .ok (.istore_n 3, 1) := by decide +kernel
theorem dX10_isSuch_6 : decode cX10_isSuch 6 = .ok (.iload_n 3, 1) := by decide +kernel
theorem dX10_isSuch_7 : decode cX10_isSuch 7 = .ok (.getstatic 186, 3) := by decide +kernel
theorem dX10_isSuch_10 : decode cX10_isSuch 10 = .ok (.arraylength, 1) := by decide +kernel
theorem dX10_isSuch_11 : decode cX10_isSuch 11 = .ok (.if_icmp .ge 38, 3) := by decide +kernel
theorem dX10_isSuch_14 : decode cX10_isSuch 14 = .ok (.iload_n 2, 1) := by decide +kernel
theorem dX10_isSuch_15 : decode cX10_isSuch 15 = .ok (.iload_n 1, 1) := by decide +kernel
theorem dX10_isSuch_16 : decode cX10_isSuch 16 = .ok (.if_icmp .ne 5, 3) := by decide +kernel
theorem dX10_isSuch_19 : decode cX10_isSuch 19 = .ok (.iconst 1, 1) := by decide +kernel
theorem dX10_isSuch_20 : decode cX10_isSuch 20 = .ok (.ireturn, 1) := by decide +kernel
theorem dX10_isSuch_21 : decode cX10_isSuch 21 = .ok (.iload_n 2, 1) := by decide +kernel
theorem dX10_isSuch_22 : decode cX10_isSuch 22 = .ok (.iconst 0, 1) := by decide +kernel
theorem dX10_isSuch_23 : decode cX10_isSuch 23 = .ok (.getstatic 186, 3) := by decide +kernel
theorem dX10_isSuch_26 : decode cX10_isSuch 26 = .ok (.arraylength, 1) := by decide +kernel
theorem dX10_isSuch_27 : decode cX10_isSuch 27 = .ok (.iconst 1, 1) := by decide +kernel
theorem dX10_isSuch_28 : decode cX10_isSuch 28 = .ok (.isub, 1) := by decide +kernel
theorem dX10_isSuch_29 : decode cX10_isSuch 29 = .ok (.invokestatic 87, 3) := by decide +kernel
theorem dX10_isSuch_32 : decode cX10_isSuch 32 = .ok (.ifCond .ne 5, 3) := by decide +kernel
theorem dX10_isSuch_35 : decode cX10_isSuch 35 = .ok (.iconst 0, 1) := by decide +kernel
theorem dX10_isSuch_36 : decode cX10_isSuch 36 = .ok (.ireturn, 1) := by decide +kernel
theorem dX10_isSuch_37 : decode cX10_isSuch 37 = .ok (.getstatic 186, 3) := by decide +kernel
theorem dX10_isSuch_40 : decode cX10_isSuch 40 = .ok (.iload_n 2, 1) := by decide +kernel
theorem dX10_isSuch_41 : decode cX10_isSuch 41 = .ok (.iaload, 1) := by decide +kernel
theorem dX10_isSuch_42 : decode cX10_isSuch 42 = .ok (.istore_n 2, 1) := by decide +kernel
theorem dX10_isSuch_43 : decode cX10_isSuch 43 = .ok (.iinc 3 1, 3) := by decide +kernel
theorem dX10_isSuch_46 : decode cX10_isSuch 46 = .ok (.goto (-40), 3) := by decide +kernel
theorem dX10_isSuch_49 : decode cX10_isSuch 49 = .ok (.iconst 0, 1) := by decide +kernel
theorem dX10_isSuch_50 : decode cX10_isSuch 50 = .ok (.ireturn, 1) := by decide +kernel
theorem dX10_personIndex_0 : decode cX10_personIndex 0 = .ok (.iload_n 0, 1) := by decide +kernel
theorem dX10_personIndex_1 : decode cX10_personIndex 1 = .ok (.bipush 6, 2) := by decide +kernel
theorem dX10_personIndex_3 : decode cX10_personIndex 3 = .ok (.imul, 1) := by decide +kernel
theorem dX10_personIndex_4 : decode cX10_personIndex 4 = .ok (.iload_n 1, 1) := by decide +kernel
theorem dX10_personIndex_5 : decode cX10_personIndex 5 = .ok (.iadd, 1) := by decide +kernel
theorem dX10_personIndex_6 : decode cX10_personIndex 6 = .ok (.ireturn, 1) := by decide +kernel
theorem dX10_slotIndex_0 : decode cX10_slotIndex 0 = .ok (.iload_n 0, 1) := by decide +kernel
theorem dX10_slotIndex_1 : decode cX10_slotIndex 1 = .ok (.iload_n 1, 1) := by decide +kernel
theorem dX10_slotIndex_2 : decode cX10_slotIndex 2 = .ok (.invokestatic 263, 3) := by decide +kernel
theorem dX10_slotIndex_5 : decode cX10_slotIndex 5 = .ok (.iconst 4, 1) := by decide +kernel
theorem dX10_slotIndex_6 : decode cX10_slotIndex 6 = .ok (.imul, 1) := by decide +kernel
theorem dX10_slotIndex_7 : decode cX10_slotIndex 7 = .ok (.iload_n 2, 1) := by decide +kernel
theorem dX10_slotIndex_8 : decode cX10_slotIndex 8 = .ok (.iadd, 1) := by decide +kernel
theorem dX10_slotIndex_9 : decode cX10_slotIndex 9 = .ok (.ireturn, 1) := by decide +kernel
theorem dJ6_bitCount_0f7a4_0 : decode cJ6_bitCount_0f7a4 0 = .ok (.iload_n 0, 1) := by decide +kernel
theorem dJ6_bitCount_0f7a4_1 : decode cJ6_bitCount_0f7a4 1 = .ok (.iload_n 0, 1) := by decide +kernel
theorem dJ6_bitCount_0f7a4_2 : decode cJ6_bitCount_0f7a4 2 = .ok (.iconst 1, 1) := by decide +kernel
theorem dJ6_bitCount_0f7a4_3 : decode cJ6_bitCount_0f7a4 3 = .ok (.iushr, 1) := by decide +kernel
theorem dJ6_bitCount_0f7a4_4 : decode cJ6_bitCount_0f7a4 4 = .ok (.ldc_w 265, 3) := by decide +kernel
theorem dJ6_bitCount_0f7a4_7 : decode cJ6_bitCount_0f7a4 7 = .ok (.iand, 1) := by decide +kernel
theorem dJ6_bitCount_0f7a4_8 : decode cJ6_bitCount_0f7a4 8 = .ok (.isub, 1) := by decide +kernel
theorem dJ6_bitCount_0f7a4_9 : decode cJ6_bitCount_0f7a4 9 = .ok (.istore_n 0, 1) := by decide +kernel
theorem dJ6_bitCount_0f7a4_10 : decode cJ6_bitCount_0f7a4 10 = .ok (.iload_n 0, 1) := by decide +kernel
theorem dJ6_bitCount_0f7a4_11 : decode cJ6_bitCount_0f7a4 11 = .ok (.ldc_w 266, 3) := by decide +kernel
theorem dJ6_bitCount_0f7a4_14 : decode cJ6_bitCount_0f7a4 14 = .ok (.iand, 1) := by decide +kernel
theorem dJ6_bitCount_0f7a4_15 : decode cJ6_bitCount_0f7a4 15 = .ok (.iload_n 0, 1) := by decide +kernel
theorem dJ6_bitCount_0f7a4_16 : decode cJ6_bitCount_0f7a4 16 = .ok (.iconst 2, 1) := by decide +kernel
theorem dJ6_bitCount_0f7a4_17 : decode cJ6_bitCount_0f7a4 17 = .ok (.iushr, 1) := by decide +kernel
theorem dJ6_bitCount_0f7a4_18 : decode cJ6_bitCount_0f7a4 18 = .ok (.ldc_w 266, 3) := by decide +kernel
theorem dJ6_bitCount_0f7a4_21 : decode cJ6_bitCount_0f7a4 21 = .ok (.iand, 1) := by decide +kernel
theorem dJ6_bitCount_0f7a4_22 : decode cJ6_bitCount_0f7a4 22 = .ok (.iadd, 1) := by decide +kernel
theorem dJ6_bitCount_0f7a4_23 : decode cJ6_bitCount_0f7a4 23 = .ok (.istore_n 0, 1) := by decide +kernel
theorem dJ6_bitCount_0f7a4_24 : decode cJ6_bitCount_0f7a4 24 = .ok (.iload_n 0, 1) := by decide +kernel
theorem dJ6_bitCount_0f7a4_25 : decode cJ6_bitCount_0f7a4 25 = .ok (.iload_n 0, 1) := by decide +kernel
theorem dJ6_bitCount_0f7a4_26 : decode cJ6_bitCount_0f7a4 26 = .ok (.iconst 4, 1) := by decide +kernel
theorem dJ6_bitCount_0f7a4_27 : decode cJ6_bitCount_0f7a4 27 = .ok (.iushr, 1) := by decide +kernel
theorem dJ6_bitCount_0f7a4_28 : decode cJ6_bitCount_0f7a4 28 = .ok (.iadd, 1) := by decide +kernel
theorem dJ6_bitCount_0f7a4_29 : decode cJ6_bitCount_0f7a4 29 = .ok (.ldc_w 267, 3) := by decide +kernel
theorem dJ6_bitCount_0f7a4_32 : decode cJ6_bitCount_0f7a4 32 = .ok (.iand, 1) := by decide +kernel
theorem dJ6_bitCount_0f7a4_33 : decode cJ6_bitCount_0f7a4 33 = .ok (.istore_n 0, 1) := by decide +kernel
theorem dJ6_bitCount_0f7a4_34 : decode cJ6_bitCount_0f7a4 34 = .ok (.iload_n 0, 1) := by decide +kernel
theorem dJ6_bitCount_0f7a4_35 : decode cJ6_bitCount_0f7a4 35 = .ok (.iload_n 0, 1) := by decide +kernel
theorem dJ6_bitCount_0f7a4_36 : decode cJ6_bitCount_0f7a4 36 = .ok (.bipush 8, 2) := by decide +kernel
theorem dJ6_bitCount_0f7a4_38 : decode cJ6_bitCount_0f7a4 38 = .ok (.iushr, 1) := by decide +kernel
theorem dJ6_bitCount_0f7a4_39 : decode cJ6_bitCount_0f7a4 39 = .ok (.iadd, 1) := by decide +kernel
theorem dJ6_bitCount_0f7a4_40 : decode cJ6_bitCount_0f7a4 40 = .ok (.istore_n 0, 1) := by decide +kernel
theorem dJ6_bitCount_0f7a4_41 : decode cJ6_bitCount_0f7a4 41 = .ok (.iload_n 0, 1) := by decide +kernel
theorem dJ6_bitCount_0f7a4_42 : decode cJ6_bitCount_0f7a4 42 = .ok (.iload_n 0, 1) := by decide +kernel
theorem dJ6_bitCount_0f7a4_43 : decode cJ6_bitCount_0f7a4 43 = .ok (.bipush 16, 2) := by decide +kernel
theorem dJ6_bitCount_0f7a4_45 : decode cJ6_bitCount_0f7a4 45 = .ok (.iushr, 1) := by decide +kernel
theorem dJ6_bitCount_0f7a4_46 : decode cJ6_bitCount_0f7a4 46 = .ok (.iadd, 1) := by decide +kernel
theorem dJ6_bitCount_0f7a4_47 : decode cJ6_bitCount_0f7a4 47 = .ok (.istore_n 0, 1) := by decide +kernel
theorem dJ6_bitCount_0f7a4_48 : decode cJ6_bitCount_0f7a4 48 = .ok (.iload_n 0, 1) := by decide +kernel
theorem dJ6_bitCount_0f7a4_49 : decode cJ6_bitCount_0f7a4 49 = .ok (.bipush 63, 2) := by decide +kernel
theorem dJ6_bitCount_0f7a4_51 : decode cJ6_bitCount_0f7a4 51 = .ok (.iand, 1) := by decide +kernel
theorem dJ6_bitCount_0f7a4_52 : decode cJ6_bitCount_0f7a4 52 = .ok (.ireturn, 1) := by decide +kernel
theorem dJ9_max_7cf53_0 : decode cJ9_max_7cf53 0 = .ok (.iload_n 0, 1) := by decide +kernel
theorem dJ9_max_7cf53_1 : decode cJ9_max_7cf53 1 = .ok (.iload_n 1, 1) := by decide +kernel
theorem dJ9_max_7cf53_2 : decode cJ9_max_7cf53 2 = .ok (.if_icmp .lt 7, 3) := by decide +kernel
theorem dJ9_max_7cf53_5 : decode cJ9_max_7cf53 5 = .ok (.iload_n 0, 1) := by decide +kernel
theorem dJ9_max_7cf53_6 : decode cJ9_max_7cf53 6 = .ok (.goto 4, 3) := by decide +kernel
theorem dJ9_max_7cf53_9 : decode cJ9_max_7cf53 9 = .ok (.iload_n 1, 1) := by decide +kernel
theorem dJ9_max_7cf53_10 : decode cJ9_max_7cf53 10 = .ok (.ireturn, 1) := by decide +kernel
theorem dJ9_min_7cf53_0 : decode cJ9_min_7cf53 0 = .ok (.iload_n 0, 1) := by decide +kernel
theorem dJ9_min_7cf53_1 : decode cJ9_min_7cf53 1 = .ok (.iload_n 1, 1) := by decide +kernel
theorem dJ9_min_7cf53_2 : decode cJ9_min_7cf53 2 = .ok (.if_icmp .gt 7, 3) := by decide +kernel
theorem dJ9_min_7cf53_5 : decode cJ9_min_7cf53 5 = .ok (.iload_n 0, 1) := by decide +kernel
theorem dJ9_min_7cf53_6 : decode cJ9_min_7cf53 6 = .ok (.goto 4, 3) := by decide +kernel
theorem dJ9_min_7cf53_9 : decode cJ9_min_7cf53 9 = .ok (.iload_n 1, 1) := by decide +kernel
theorem dJ9_min_7cf53_10 : decode cJ9_min_7cf53 10 = .ok (.ireturn, 1) := by decide +kernel
theorem dJ0_length_8abf5_0 : decode cJ0_length_8abf5 0 = .ok (.aload_n 0, 1) := by decide +kernel
theorem dJ0_length_8abf5_1 : decode cJ0_length_8abf5 1 = .ok (.getfield 9, 3) := by decide +kernel
theorem dJ0_length_8abf5_4 : decode cJ0_length_8abf5 4 = .ok (.arraylength, 1) := by decide +kernel
theorem dJ0_length_8abf5_5 : decode cJ0_length_8abf5 5 = .ok (.aload_n 0, 1) := by decide +kernel
theorem dJ0_length_8abf5_6 : decode cJ0_length_8abf5 6 = .ok (.invokevirtual 335, 3) := by decide +kernel
theorem dJ0_length_8abf5_9 : decode cJ0_length_8abf5 9 = .ok (.ishr, 1) := by decide +kernel
theorem dJ0_length_8abf5_10 : decode cJ0_length_8abf5 10 = .ok (.ireturn, 1) := by decide +kernel
theorem dJ0_charAt_5068e_0 : decode cJ0_charAt_5068e 0 = .ok (.aload_n 0, 1) := by decide +kernel
theorem dJ0_charAt_5068e_1 : decode cJ0_charAt_5068e 1 = .ok (.invokevirtual 492, 3) := by decide +kernel
theorem dJ0_charAt_5068e_4 : decode cJ0_charAt_5068e 4 = .ok (.ifCond .eq 12, 3) := by decide +kernel
theorem dJ0_charAt_5068e_7 : decode cJ0_charAt_5068e 7 = .ok (.aload_n 0, 1) := by decide +kernel
theorem dJ0_charAt_5068e_8 : decode cJ0_charAt_5068e 8 = .ok (.getfield 9, 3) := by decide +kernel
theorem dJ0_charAt_5068e_11 : decode cJ0_charAt_5068e 11 = .ok (.iload_n 1, 1) := by decide +kernel
theorem dJ0_charAt_5068e_12 : decode cJ0_charAt_5068e 12 = .ok (.invokestatic 495, 3) := by decide +kernel
theorem dJ0_charAt_5068e_15 : decode cJ0_charAt_5068e 15 = .ok (.ireturn, 1) := by decide +kernel
theorem dJ0_charAt_5068e_16 : decode cJ0_charAt_5068e 16 = .ok (.aload_n 0, 1) := by decide +kernel
theorem dJ0_charAt_5068e_17 : decode cJ0_charAt_5068e 17 = .ok (.getfield 9, 3) := by decide +kernel
theorem dJ0_charAt_5068e_20 : decode cJ0_charAt_5068e 20 = .ok (.iload_n 1, 1) := by decide +kernel
theorem dJ0_charAt_5068e_21 : decode cJ0_charAt_5068e 21 = .ok (.invokestatic 498, 3) := by decide +kernel
theorem dJ0_charAt_5068e_24 : decode cJ0_charAt_5068e 24 = .ok (.ireturn, 1) := by decide +kernel
theorem dJ0_coder_7d493_0 : decode cJ0_coder_7d493 0 = .ok (.getstatic 38, 3) := by decide +kernel
theorem dJ0_coder_7d493_3 : decode cJ0_coder_7d493 3 = .ok (.ifCond .eq 10, 3) := by decide +kernel
theorem dJ0_coder_7d493_6 : decode cJ0_coder_7d493 6 = .ok (.aload_n 0, 1) := by decide +kernel
theorem dJ0_coder_7d493_7 : decode cJ0_coder_7d493 7 = .ok (.getfield 15, 3) := by decide +kernel
theorem dJ0_coder_7d493_10 : decode cJ0_coder_7d493 10 = .ok (.goto 4, 3) := by decide +kernel
theorem dJ0_coder_7d493_13 : decode cJ0_coder_7d493 13 = .ok (.iconst 1, 1) := by decide +kernel
theorem dJ0_coder_7d493_14 : decode cJ0_coder_7d493 14 = .ok (.ireturn, 1) := by decide +kernel
theorem dJ0_isLatin1_aae02_0 : decode cJ0_isLatin1_aae02 0 = .ok (.getstatic 38, 3) := by decide +kernel
theorem dJ0_isLatin1_aae02_3 : decode cJ0_isLatin1_aae02 3 = .ok (.ifCond .eq 14, 3) := by decide +kernel
theorem dJ0_isLatin1_aae02_6 : decode cJ0_isLatin1_aae02 6 = .ok (.aload_n 0, 1) := by decide +kernel
theorem dJ0_isLatin1_aae02_7 : decode cJ0_isLatin1_aae02 7 = .ok (.getfield 15, 3) := by decide +kernel
theorem dJ0_isLatin1_aae02_10 : decode cJ0_isLatin1_aae02 10 = .ok (.ifCond .ne 7, 3) := by decide +kernel
theorem dJ0_isLatin1_aae02_13 : decode cJ0_isLatin1_aae02 13 = .ok (.iconst 1, 1) := by decide +kernel
theorem dJ0_isLatin1_aae02_14 : decode cJ0_isLatin1_aae02 14 = .ok (.goto 4, 3) := by decide +kernel
theorem dJ0_isLatin1_aae02_17 : decode cJ0_isLatin1_aae02 17 = .ok (.iconst 0, 1) := by decide +kernel
theorem dJ0_isLatin1_aae02_18 : decode cJ0_isLatin1_aae02 18 = .ok (.ireturn, 1) := by decide +kernel
theorem dJ0_checkIndex_df160_0 : decode cJ0_checkIndex_df160 0 = .ok (.iload_n 0, 1) := by decide +kernel
theorem dJ0_checkIndex_df160_1 : decode cJ0_checkIndex_df160 1 = .ok (.iload_n 1, 1) := by decide +kernel
theorem dJ0_checkIndex_df160_2 : decode cJ0_checkIndex_df160 2 = .ok (.getstatic 1053, 3) := by decide +kernel
theorem dJ0_checkIndex_df160_5 : decode cJ0_checkIndex_df160 5 = .ok (.invokestatic 1059, 3) := by decide +kernel
theorem dJ0_checkIndex_df160_8 : decode cJ0_checkIndex_df160 8 = .ok (.pop, 1) := by decide +kernel
theorem dJ0_checkIndex_df160_9 : decode cJ0_checkIndex_df160 9 = .ok (.return_, 1) := by decide +kernel
theorem dJ1_charAt_3b067_0 : decode cJ1_charAt_3b067 0 = .ok (.iload_n 1, 1) := by decide +kernel
theorem dJ1_charAt_3b067_1 : decode cJ1_charAt_3b067 1 = .ok (.aload_n 0, 1) := by decide +kernel
theorem dJ1_charAt_3b067_2 : decode cJ1_charAt_3b067 2 = .ok (.arraylength, 1) := by decide +kernel
theorem dJ1_charAt_3b067_3 : decode cJ1_charAt_3b067 3 = .ok (.invokestatic 9, 3) := by decide +kernel
theorem dJ1_charAt_3b067_6 : decode cJ1_charAt_3b067 6 = .ok (.aload_n 0, 1) := by decide +kernel
theorem dJ1_charAt_3b067_7 : decode cJ1_charAt_3b067 7 = .ok (.iload_n 1, 1) := by decide +kernel
theorem dJ1_charAt_3b067_8 : decode cJ1_charAt_3b067 8 = .ok (.baload, 1) := by decide +kernel
theorem dJ1_charAt_3b067_9 : decode cJ1_charAt_3b067 9 = .ok (.sipush 255, 3) := by decide +kernel
theorem dJ1_charAt_3b067_12 : decode cJ1_charAt_3b067 12 = .ok (.iand, 1) := by decide +kernel
theorem dJ1_charAt_3b067_13 : decode cJ1_charAt_3b067 13 = .ok (.i2c, 1) := by decide +kernel
theorem dJ1_charAt_3b067_14 : decode cJ1_charAt_3b067 14 = .ok (.ireturn, 1) := by decide +kernel
theorem dJ2_getChar_3b067_0 : decode cJ2_getChar_3b067 0 = .ok (.getstatic 44, 3) := by decide +kernel
theorem dJ2_getChar_3b067_3 : decode cJ2_getChar_3b067 3 = .ok (.ifCond .ne 25, 3) := by decide +kernel
theorem dJ2_getChar_3b067_6 : decode cJ2_getChar_3b067 6 = .ok (.iload_n 1, 1) := by decide +kernel
theorem dJ2_getChar_3b067_7 : decode cJ2_getChar_3b067 7 = .ok (.ifCond .lt 11, 3) := by decide +kernel
theorem dJ2_getChar_3b067_10 : decode cJ2_getChar_3b067 10 = .ok (.iload_n 1, 1) := by decide +kernel
theorem dJ2_getChar_3b067_11 : decode cJ2_getChar_3b067 11 = .ok (.aload_n 0, 1) := by decide +kernel
theorem dJ2_getChar_3b067_12 : decode cJ2_getChar_3b067 12 = .ok (.invokestatic 48, 3) := by decide +kernel
theorem dJ2_getChar_3b067_15 : decode cJ2_getChar_3b067 15 = .ok (.if_icmp .lt 13, 3) := by decide +kernel
theorem dJ2_getChar_3b067_18 : decode cJ2_getChar_3b067 18 = .ok (.new 52, 3) := by decide +kernel
theorem dJ2_getChar_3b067_21 : decode cJ2_getChar_3b067 21 = .ok (.dup, 1) := by decide +kernel
theorem dJ2_getChar_3b067_22 : decode cJ2_getChar_3b067 22 = .ok (.ldc 54, 2) := by decide +kernel
theorem dJ2_getChar_3b067_24 : decode cJ2_getChar_3b067 24 = .ok (.invokespecial 56, 3) := by decide +kernel
theorem dJ2_getChar_3b067_27 : decode cJ2_getChar_3b067 27 = .ok (.athrow, 1) := by decide +kernel
theorem dJ2_getChar_3b067_28 : decode cJ2_getChar_3b067 28 = .ok (.iload_n 1, 1) := by decide +kernel
theorem dJ2_getChar_3b067_29 : decode cJ2_getChar_3b067 29 = .ok (.iconst 1, 1) := by decide +kernel
theorem dJ2_getChar_3b067_30 : decode cJ2_getChar_3b067 30 = .ok (.ishl, 1) := by decide +kernel
theorem dJ2_getChar_3b067_31 : decode cJ2_getChar_3b067 31 = .ok (.istore_n 1, 1) := by decide +kernel
theorem dJ2_getChar_3b067_32 : decode cJ2_getChar_3b067 32 = .ok (.aload_n 0, 1) := by decide +kernel
theorem dJ2_getChar_3b067_33 : decode cJ2_getChar_3b067 33 = .ok (.iload_n 1, 1) := by decide +kernel
theorem dJ2_getChar_3b067_34 : decode cJ2_getChar_3b067 34 = .ok (.iinc 1 1, 3) := by decide +kernel
theorem dJ2_getChar_3b067_37 : decode cJ2_getChar_3b067 37 = .ok (.baload, 1) := by decide +kernel
theorem dJ2_getChar_3b067_38 : decode cJ2_getChar_3b067 38 = .ok (.sipush 255, 3) := by decide +kernel
theorem dJ2_getChar_3b067_41 : decode cJ2_getChar_3b067 41 = .ok (.iand, 1) := by decide +kernel
theorem dJ2_getChar_3b067_42 : decode cJ2_getChar_3b067 42 = .ok (.getstatic 59, 3) := by decide +kernel
theorem dJ2_getChar_3b067_45 : decode cJ2_getChar_3b067 45 = .ok (.ishl, 1) := by decide +kernel
theorem dJ2_getChar_3b067_46 : decode cJ2_getChar_3b067 46 = .ok (.aload_n 0, 1) := by decide +kernel
theorem dJ2_getChar_3b067_47 : decode cJ2_getChar_3b067 47 = .ok (.iload_n 1, 1) := by decide +kernel
theorem dJ2_getChar_3b067_48 : decode cJ2_getChar_3b067 48 = .ok (.baload, 1) := by decide +kernel
theorem dJ2_getChar_3b067_49 : decode cJ2_getChar_3b067 49 = .ok (.sipush 255, 3) := by decide +kernel
theorem dJ2_getChar_3b067_52 : decode cJ2_getChar_3b067 52 = .ok (.iand, 1) := by decide +kernel
theorem dJ2_getChar_3b067_53 : decode cJ2_getChar_3b067 53 = .ok (.getstatic 63, 3) := by decide +kernel
theorem dJ2_getChar_3b067_56 : decode cJ2_getChar_3b067 56 = .ok (.ishl, 1) := by decide +kernel
theorem dJ2_getChar_3b067_57 : decode cJ2_getChar_3b067 57 = .ok (.ior, 1) := by decide +kernel
theorem dJ2_getChar_3b067_58 : decode cJ2_getChar_3b067 58 = .ok (.i2c, 1) := by decide +kernel
theorem dJ2_getChar_3b067_59 : decode cJ2_getChar_3b067 59 = .ok (.ireturn, 1) := by decide +kernel
theorem dJ2_length_9d52b_0 : decode cJ2_length_9d52b 0 = .ok (.aload_n 0, 1) := by decide +kernel
theorem dJ2_length_9d52b_1 : decode cJ2_length_9d52b 1 = .ok (.arraylength, 1) := by decide +kernel
theorem dJ2_length_9d52b_2 : decode cJ2_length_9d52b 2 = .ok (.iconst 1, 1) := by decide +kernel
theorem dJ2_length_9d52b_3 : decode cJ2_length_9d52b 3 = .ok (.ishr, 1) := by decide +kernel
theorem dJ2_length_9d52b_4 : decode cJ2_length_9d52b 4 = .ok (.ireturn, 1) := by decide +kernel
theorem dJ2_charAt_3b067_0 : decode cJ2_charAt_3b067 0 = .ok (.iload_n 1, 1) := by decide +kernel
theorem dJ2_charAt_3b067_1 : decode cJ2_charAt_3b067 1 = .ok (.aload_n 0, 1) := by decide +kernel
theorem dJ2_charAt_3b067_2 : decode cJ2_charAt_3b067 2 = .ok (.invokestatic 67, 3) := by decide +kernel
theorem dJ2_charAt_3b067_5 : decode cJ2_charAt_3b067 5 = .ok (.aload_n 0, 1) := by decide +kernel
theorem dJ2_charAt_3b067_6 : decode cJ2_charAt_3b067 6 = .ok (.iload_n 1, 1) := by decide +kernel
theorem dJ2_charAt_3b067_7 : decode cJ2_charAt_3b067 7 = .ok (.invokestatic 71, 3) := by decide +kernel
theorem dJ2_charAt_3b067_10 : decode cJ2_charAt_3b067 10 = .ok (.ireturn, 1) := by decide +kernel
theorem dJ2_checkIndex_2214a_0 : decode cJ2_checkIndex_2214a 0 = .ok (.iload_n 0, 1) := by decide +kernel
theorem dJ2_checkIndex_2214a_1 : decode cJ2_checkIndex_2214a 1 = .ok (.aload_n 1, 1) := by decide +kernel
theorem dJ2_checkIndex_2214a_2 : decode cJ2_checkIndex_2214a 2 = .ok (.invokestatic 48, 3) := by decide +kernel
theorem dJ2_checkIndex_2214a_5 : decode cJ2_checkIndex_2214a 5 = .ok (.invokestatic 414, 3) := by decide +kernel
theorem dJ2_checkIndex_2214a_8 : decode cJ2_checkIndex_2214a 8 = .ok (.return_, 1) := by decide +kernel
theorem dJ7_fill_53178_0 : decode cJ7_fill_53178 0 = .ok (.iconst 0, 1) := by decide +kernel
theorem dJ7_fill_53178_1 : decode cJ7_fill_53178 1 = .ok (.istore_n 2, 1) := by decide +kernel
theorem dJ7_fill_53178_2 : decode cJ7_fill_53178 2 = .ok (.aload_n 0, 1) := by decide +kernel
theorem dJ7_fill_53178_3 : decode cJ7_fill_53178 3 = .ok (.arraylength, 1) := by decide +kernel
theorem dJ7_fill_53178_4 : decode cJ7_fill_53178 4 = .ok (.istore_n 3, 1) := by decide +kernel
theorem dJ7_fill_53178_5 : decode cJ7_fill_53178 5 = .ok (.iload_n 2, 1) := by decide +kernel
theorem dJ7_fill_53178_6 : decode cJ7_fill_53178 6 = .ok (.iload_n 3, 1) := by decide +kernel
theorem dJ7_fill_53178_7 : decode cJ7_fill_53178 7 = .ok (.if_icmp .ge 13, 3) := by decide +kernel
theorem dJ7_fill_53178_10 : decode cJ7_fill_53178 10 = .ok (.aload_n 0, 1) := by decide +kernel
theorem dJ7_fill_53178_11 : decode cJ7_fill_53178 11 = .ok (.iload_n 2, 1) := by decide +kernel
theorem dJ7_fill_53178_12 : decode cJ7_fill_53178 12 = .ok (.iload_n 1, 1) := by decide +kernel
theorem dJ7_fill_53178_13 : decode cJ7_fill_53178 13 = .ok (.iastore, 1) := by decide +kernel
theorem dJ7_fill_53178_14 : decode cJ7_fill_53178 14 = .ok (.iinc 2 1, 3) := by decide +kernel
theorem dJ7_fill_53178_17 : decode cJ7_fill_53178 17 = .ok (.goto (-12), 3) := by decide +kernel
theorem dJ7_fill_53178_20 : decode cJ7_fill_53178 20 = .ok (.return_, 1) := by decide +kernel
theorem dJ3_checkIndex_8e157_0 : decode cJ3_checkIndex_8e157 0 = .ok (.iload_n 0, 1) := by decide +kernel
theorem dJ3_checkIndex_8e157_1 : decode cJ3_checkIndex_8e157 1 = .ok (.ifCond .lt 8, 3) := by decide +kernel
theorem dJ3_checkIndex_8e157_4 : decode cJ3_checkIndex_8e157 4 = .ok (.iload_n 0, 1) := by decide +kernel
theorem dJ3_checkIndex_8e157_5 : decode cJ3_checkIndex_8e157 5 = .ok (.iload_n 1, 1) := by decide +kernel
theorem dJ3_checkIndex_8e157_6 : decode cJ3_checkIndex_8e157 6 = .ok (.if_icmp .lt 10, 3) := by decide +kernel
theorem dJ3_checkIndex_8e157_9 : decode cJ3_checkIndex_8e157 9 = .ok (.aload_n 2, 1) := by decide +kernel
theorem dJ3_checkIndex_8e157_10 : decode cJ3_checkIndex_8e157 10 = .ok (.iload_n 0, 1) := by decide +kernel
theorem dJ3_checkIndex_8e157_11 : decode cJ3_checkIndex_8e157 11 = .ok (.iload_n 1, 1) := by decide +kernel
theorem dJ3_checkIndex_8e157_12 : decode cJ3_checkIndex_8e157 12 = .ok (.invokestatic 95, 3) := by decide +kernel
theorem dJ3_checkIndex_8e157_15 : decode cJ3_checkIndex_8e157 15 = .ok (.athrow, 1) := by decide +kernel
theorem dJ3_checkIndex_8e157_16 : decode cJ3_checkIndex_8e157 16 = .ok (.iload_n 0, 1) := by decide +kernel
theorem dJ3_checkIndex_8e157_17 : decode cJ3_checkIndex_8e157 17 = .ok (.ireturn, 1) := by decide +kernel
end
section
theorem dX11_init_0 : decode cX11_init 0 = .ok (.aload_n 0, 1) := by decide +kernel
theorem dX11_init_1 : decode cX11_init 1 = .ok (.invokespecial 1, 3) := by decide +kernel
theorem dX11_init_4 : decode cX11_init 4 = .ok (.aload_n 0, 1) := by decide +kernel
theorem dX11_init_5 : decode cX11_init 5 = .ok (.sipush 261, 3) := by decide +kernel
theorem dX11_init_8 : decode cX11_init 8 = .ok (.newarray .int, 2) := by decide +kernel
theorem dX11_init_10 : decode cX11_init 10 = .ok (.putfield 7, 3) := by decide +kernel
theorem dX11_init_13 : decode cX11_init 13 = .ok (.aload_n 0, 1) := by decide +kernel
theorem dX11_init_14 : decode cX11_init 14 = .ok (.iconst 2, 1) := by decide +kernel
theorem dX11_init_15 : decode cX11_init 15 = .ok (.newarray .boolean, 2) := by decide +kernel
theorem dX11_init_17 : decode cX11_init 17 = .ok (.putfield 13, 3) := by decide +kernel
theorem dX11_init_20 : decode cX11_init 20 = .ok (.aload_n 0, 1) := by decide +kernel
theorem dX11_init_21 : decode cX11_init 21 = .ok (.sipush 200, 3) := by decide +kernel
theorem dX11_init_24 : decode cX11_init 24 = .ok (.newarray .int, 2) := by decide +kernel
theorem dX11_init_26 : decode cX11_init 26 = .ok (.putfield 17, 3) := by decide +kernel
theorem dX11_init_29 : decode cX11_init 29 = .ok (.aload_n 0, 1) := by decide +kernel
theorem dX11_init_30 : decode cX11_init 30 = .ok (.bipush 60, 2) := by decide +kernel
theorem dX11_init_32 : decode cX11_init 32 = .ok (.newarray .int, 2) := by decide +kernel
theorem dX11_init_34 : decode cX11_init 34 = .ok (.putfield 20, 3) := by decide +kernel
theorem dX11_init_37 : decode cX11_init 37 = .ok (.aload_n 0, 1) := by decide +kernel
theorem dX11_init_38 : decode cX11_init 38 = .ok (.iconst 2, 1) := by decide +kernel
theorem dX11_init_39 : decode cX11_init 39 = .ok (.putfield 23, 3) := by decide +kernel
theorem dX11_init_42 : decode cX11_init 42 = .ok (.aload_n 0, 1) := by decide +kernel
theorem dX11_init_43 : decode cX11_init 43 = .ok (.iconst 2, 1) := by decide +kernel
theorem dX11_init_44 : decode cX11_init 44 = .ok (.putfield 27, 3) := by decide +kernel
theorem dX11_init_47 : decode cX11_init 47 = .ok (.aload_n 0, 1) := by decide +kernel
theorem dX11_init_48 : decode cX11_init 48 = .ok (.bipush 24, 2) := by decide +kernel
theorem dX11_init_50 : decode cX11_init 50 = .ok (.newarray .int, 2) := by decide +kernel
theorem dX11_init_52 : decode cX11_init 52 = .ok (.putfield 30, 3) := by decide +kernel
theorem dX11_init_55 : decode cX11_init 55 = .ok (.aload_n 0, 1) := by decide +kernel
theorem dX11_init_56 : decode cX11_init 56 = .ok (.bipush 6, 2) := by decide +kernel
theorem dX11_init_58 : decode cX11_init 58 = .ok (.newarray .int, 2) := by decide +kernel
theorem dX11_init_60 : decode cX11_init 60 = .ok (.putfield 33, 3) := by decide +kernel
theorem dX11_init_63 : decode cX11_init 63 = .ok (.aload_n 0, 1) := by decide +kernel
theorem dX11_init_64 : decode cX11_init 64 = .ok (.bipush 96, 2) := by decide +kernel
theorem dX11_init_66 : decode cX11_init 66 = .ok (.newarray .int, 2) := by decide +kernel
theorem dX11_init_68 : decode cX11_init 68 = .ok (.putfield 36, 3) := by decide +kernel
theorem dX11_init_71 : decode cX11_init 71 = .ok (.aload_n 0, 1) := by decide +kernel
theorem dX11_init_72 : decode cX11_init 72 = .ok (.iconst 1, 1) := by decide +kernel
theorem dX11_init_73 : decode cX11_init 73 = .ok (.putfield 39, 3) := by decide +kernel
theorem dX11_init_76 : decode cX11_init 76 = .ok (.aload_n 0, 1) := by decide +kernel
theorem dX11_init_77 : decode cX11_init 77 = .ok (.bipush 12, 2) := by decide +kernel
theorem dX11_init_79 : decode cX11_init 79 = .ok (.newarray .boolean, 2) := by decide +kernel
theorem dX11_init_81 : decode cX11_init 81 = .ok (.putfield 42, 3) := by decide +kernel
theorem dX11_init_84 : decode cX11_init 84 = .ok (.aload_n 0, 1) := by decide +kernel
theorem dX11_init_85 : decode cX11_init 85 = .ok (.sipush 5025, 3) := by decide +kernel
theorem dX11_init_88 : decode cX11_init 88 = .ok (.newarray .int, 2) := by decide +kernel
theorem dX11_init_90 : decode cX11_init 90 = .ok (.putfield 45, 3) := by decide +kernel
theorem dX11_init_93 : decode cX11_init 93 = .ok (.aload_n 0, 1) := by decide +kernel
theorem dX11_init_94 : decode cX11_init 94 = .ok (.bipush 48, 2) := by decide +kernel
theorem dX11_init_96 : decode cX11_init 96 = .ok (.newarray .int, 2) := by decide +kernel
theorem dX11_init_98 : decode cX11_init 98 = .ok (.putfield 48, 3) := by decide +kernel
theorem dX11_init_101 : decode cX11_init 101 = .ok (.aload_n 0, 1) := by decide +kernel
theorem dX11_init_102 : decode cX11_init 102 = .ok (.iconst 4, 1) := by decide +kernel
theorem dX11_init_103 : decode cX11_init 103 = .ok (.newarray .int, 2) := by decide +kernel
theorem dX11_init_105 : decode cX11_init 105 = .ok (.putfield 51, 3) := by decide +kernel
theorem dX11_init_108 : decode cX11_init 108 = .ok (.aload_n 0, 1) := by decide +kernel
theorem dX11_init_109 : decode cX11_init 109 = .ok (.iconst 4, 1) := by decide +kernel
theorem dX11_init_110 : decode cX11_init 110 = .ok (.newarray .int, 2) := by decide +kernel
theorem dX11_init_112 : decode cX11_init 112 = .ok (.putfield 54, 3) := by decide +kernel
theorem dX11_init_115 : decode cX11_init 115 = .ok (.aload_n 0, 1) := by decide +kernel
theorem dX11_init_116 : decode cX11_init 116 = .ok (.bipush 36, 2) := by decide +kernel
theorem dX11_init_118 : decode cX11_init 118 = .ok (.newarray .int, 2) := by decide +kernel
theorem dX11_init_120 : decode cX11_init 120 = .ok (.putfield 57, 3) := by decide +kernel
theorem dX11_init_123 : decode cX11_init 123 = .ok (.aload_n 0, 1) := by decide +kernel
theorem dX11_init_124 : decode cX11_init 124 = .ok (.bipush 64, 2) := by decide +kernel
theorem dX11_init_126 : decode cX11_init 126 = .ok (.newarray .int, 2) := by decide +kernel
theorem dX11_init_128 : decode cX11_init 128 = .ok (.putfield 60, 3) := by decide +kernel
theorem dX11_init_131 : decode cX11_init 131 = .ok (.aload_n 0, 1) := by decide +kernel
theorem dX11_init_132 : decode cX11_init 132 = .ok (.bipush 72, 2) := by decide +kernel
theorem dX11_init_134 : decode cX11_init 134 = .ok (.newarray .int, 2) := by decide +kernel
theorem dX11_init_136 : decode cX11_init 136 = .ok (.putfield 63, 3) := by decide +kernel
theorem dX11_init_139 : decode cX11_init 139 = .ok (.aload_n 0, 1) := by decide +kernel
theorem dX11_init_140 : decode cX11_init 140 = .ok (.bipush 64, 2) := by decide +kernel
theorem dX11_init_142 : decode cX11_init 142 = .ok (.newarray .int, 2) := by decide +kernel
theorem dX11_init_144 : decode cX11_init 144 = .ok (.putfield 66, 3) := by decide +kernel
theorem dX11_init_147 : decode cX11_init 147 = .ok (.aload_n 0, 1) := by decide +kernel
theorem dX11_init_148 : decode cX11_init 148 = .ok (.bipush 40, 2) := by decide +kernel
theorem dX11_init_150 : decode cX11_init 150 = .ok (.newarray .int, 2) := by decide +kernel
theorem dX11_init_152 : decode cX11_init 152 = .ok (.putfield 69, 3) := by decide +kernel
theorem dX11_init_155 : decode cX11_init 155 = .ok (.aload_n 0, 1) := by decide +kernel
theorem dX11_init_156 : decode cX11_init 156 = .ok (.bipush 82, 2) := by decide +kernel
theorem dX11_init_158 : decode cX11_init 158 = .ok (.newarray .int, 2) := by decide +kernel
theorem dX11_init_160 : decode cX11_init 160 = .ok (.putfield 72, 3) := by decide +kernel
theorem dX11_init_163 : decode cX11_init 163 = .ok (.aload_n 0, 1) := by decide +kernel
theorem dX11_init_164 : decode cX11_init 164 = .ok (.getfield 30, 3) := by decide +kernel
theorem dX11_init_167 : decode cX11_init 167 = .ok (.bipush 20, 2) := by decide +kernel
theorem dX11_init_169 : decode cX11_init 169 = .ok (.iconst 4, 1) := by decide +kernel
theorem dX11_init_170 : decode cX11_init 170 = .ok (.iastore, 1) := by decide +kernel
theorem dX11_init_171 : decode cX11_init 171 = .ok (.iconst 0, 1) := by decide +kernel
theorem dX11_init_172 : decode cX11_init 172 = .ok (.istore_n 1, 1) := by decide +kernel
theorem dX11_init_173 : decode cX11_init 173 = .ok (.iload_n 1, 1) := by decide +kernel
theorem dX11_init_174 : decode cX11_init 174 = .ok (.bipush 96, 2) := by decide +kernel
theorem dX11_init_176 : decode cX11_init 176 = .ok (.if_icmp .ge 16, 3) := by decide +kernel
theorem dX11_init_179 : decode cX11_init 179 = .ok (.aload_n 0, 1) := by decide +kernel
theorem dX11_init_180 : decode cX11_init 180 = .ok (.getfield 36, 3) := by decide +kernel
theorem dX11_init_183 : decode cX11_init 183 = .ok (.iload_n 1, 1) := by decide +kernel
theorem dX11_init_184 : decode cX11_init 184 = .ok (.iconst 5, 1) := by decide +kernel
theorem dX11_init_185 : decode cX11_init 185 = .ok (.iastore, 1) := by decide +kernel
theorem dX11_init_186 : decode cX11_init 186 = .ok (.iinc 1 1, 3) := by decide +kernel
theorem dX11_init_189 : decode cX11_init 189 = .ok (.goto (-16), 3) := by decide +kernel
theorem dX11_init_192 : decode cX11_init 192 = .ok (.aload_n 0, 1) := by decide +kernel
theorem dX11_init_193 : decode cX11_init 193 = .ok (.invokevirtual 75, 3) := by decide +kernel
theorem dX11_init_196 : decode cX11_init 196 = .ok (.return_, 1) := by decide +kernel
theorem dX11_begin_0 : decode cX11_begin 0 = .ok (.iconst 0, 1) := by decide +kernel
theorem dX11_begin_1 : decode cX11_begin 1 = .ok (.istore_n 1, 1) := by decide +kernel
theorem dX11_begin_2 : decode cX11_begin 2 = .ok (.iload_n 1, 1) := by decide +kernel
theorem dX11_begin_3 : decode cX11_begin 3 = .ok (.bipush 87, 2) := by decide +kernel
theorem dX11_begin_5 : decode cX11_begin 5 = .ok (.if_icmp .ge 26, 3) := by decide +kernel
theorem dX11_begin_8 : decode cX11_begin 8 = .ok (.aload_n 0, 1) := by decide +kernel
theorem dX11_begin_9 : decode cX11_begin 9 = .ok (.getfield 7, 3) := by decide +kernel
theorem dX11_begin_12 : decode cX11_begin 12 = .ok (.iload_n 1, 1) := by decide +kernel
theorem dX11_begin_13 : decode cX11_begin 13 = .ok (.iload_n 1, 1) := by decide +kernel
theorem dX11_begin_14 : decode cX11_begin 14 = .ok (.bipush 39, 2) := by decide +kernel
theorem dX11_begin_16 : decode cX11_begin 16 = .ok (.if_icmp .ge 7, 3) := by decide +kernel
theorem dX11_begin_19 : decode cX11_begin 19 = .ok (.iconst 0, 1) := by decide +kernel
theorem dX11_begin_20 : decode cX11_begin 20 = .ok (.goto 4, 3) := by decide +kernel
theorem dX11_begin_23 : decode cX11_begin 23 = .ok (.iconst (-1), 1) := by decide +kernel
theorem dX11_begin_24 : decode cX11_begin 24 = .ok (.iastore, 1) := by decide +kernel
theorem dX11_begin_25 : decode cX11_begin 25 = .ok (.iinc 1 1, 3) := by decide +kernel
theorem dX11_begin_28 : decode cX11_begin 28 = .ok (.goto (-26), 3) := by decide +kernel
theorem dX11_begin_31 : decode cX11_begin 31 = .ok (.return_, 1) := by decide +kernel
theorem dX11_in_0 : decode cX11_in 0 = .ok (.lload_n 0, 1) := by decide +kernel
theorem dX11_in_1 : decode cX11_in 1 = .ok (.lload_n 2, 1) := by decide +kernel
theorem dX11_in_2 : decode cX11_in 2 = .ok (.lcmp, 1) := by decide +kernel
theorem dX11_in_3 : decode cX11_in 3 = .ok (.ifCond .lt 14, 3) := by decide +kernel
theorem dX11_in_6 : decode cX11_in 6 = .ok (.lload_n 0, 1) := by decide +kernel
theorem dX11_in_7 : decode cX11_in 7 = .ok (.lload 4, 2) := by decide +kernel
theorem dX11_in_9 : decode cX11_in 9 = .ok (.lcmp, 1) := by decide +kernel
theorem dX11_in_10 : decode cX11_in 10 = .ok (.ifCond .gt 7, 3) := by decide +kernel
theorem dX11_in_13 : decode cX11_in 13 = .ok (.iconst 1, 1) := by decide +kernel
theorem dX11_in_14 : decode cX11_in 14 = .ok (.goto 4, 3) := by decide +kernel
theorem dX11_in_17 : decode cX11_in 17 = .ok (.iconst 0, 1) := by decide +kernel
theorem dX11_in_18 : decode cX11_in 18 = .ok (.ireturn, 1) := by decide +kernel
theorem dX11_write_0 : decode cX11_write 0 = .ok (.iload_n 3, 1) := by decide +kernel
theorem dX11_write_1 : decode cX11_write 1 = .ok (.i2l, 1) := by decide +kernel
theorem dX11_write_2 : decode cX11_write 2 = .ok (.lconst 1, 1) := by decide +kernel
theorem dX11_write_3 : decode cX11_write 3 = .ok (.ldc2_w 78, 3) := by decide +kernel
theorem dX11_write_6 : decode cX11_write 6 = .ok (.invokestatic 80, 3) := by decide +kernel
theorem dX11_write_9 : decode cX11_write 9 = .ok (.ifCond .ne 6, 3) := by decide +kernel
theorem dX11_write_12 : decode cX11_write 12 = .ok (.bipush (-3), 2) := by decide +kernel
theorem dX11_write_14 : decode cX11_write 14 = .ok (.ireturn, 1) := by decide +kernel
theorem dX11_write_15 : decode cX11_write 15 = .ok (.aload_n 0, 1) := by decide +kernel
theorem dX11_write_16 : decode cX11_write 16 = .ok (.getfield 84, 3) := by decide +kernel
theorem dX11_write_19 : decode cX11_write 19 = .ok (.iload_n 3, 1) := by decide +kernel
theorem dX11_write_20 : decode cX11_write 20 = .ok (.iadd, 1) := by decide +kernel
theorem dX11_write_21 : decode cX11_write 21 = .ok (.sipush 200, 3) := by decide +kernel
theorem dX11_write_24 : decode cX11_write 24 = .ok (.if_icmp .le 6, 3) := by decide +kernel
theorem dX11_write_27 : decode cX11_write 27 = .ok (.bipush (-5), 2) := by decide +kernel
theorem dX11_write_29 : decode cX11_write 29 = .ok (.ireturn, 1) := by decide +kernel
theorem dX11_write_30 : decode cX11_write 30 = .ok (.iconst 0, 1) := by decide +kernel
theorem dX11_write_31 : decode cX11_write 31 = .ok (.istore 4, 2) := by decide +kernel
theorem dX11_write_33 : decode cX11_write 33 = .ok (.iload 4, 2) := by decide +kernel
theorem dX11_write_35 : decode cX11_write 35 = .ok (.iload_n 3, 1) := by decide +kernel
theorem dX11_write_36 : decode cX11_write 36 = .ok (.if_icmp .ge 40, 3) := by decide +kernel
theorem dX11_write_39 : decode cX11_write 39 = .ok (.aload_n 0, 1) := by decide +kernel
theorem dX11_write_40 : decode cX11_write 40 = .ok (.getfield 17, 3) := by decide +kernel
theorem dX11_write_43 : decode cX11_write 43 = .ok (.aload_n 0, 1) := by decide +kernel
theorem dX11_write_44 : decode cX11_write 44 = .ok (.getfield 84, 3) := by decide +kernel
theorem dX11_write_47 : decode cX11_write 47 = .ok (.lload_n 1, 1) := by decide +kernel
theorem dX11_write_48 : decode cX11_write 48 = .ok (.bipush 8, 2) := by decide +kernel
theorem dX11_write_50 : decode cX11_write 50 = .ok (.iload 4, 2) := by decide +kernel
theorem dX11_write_52 : decode cX11_write 52 = .ok (.imul, 1) := by decide +kernel
theorem dX11_write_53 : decode cX11_write 53 = .ok (.lshr, 1) := by decide +kernel
theorem dX11_write_54 : decode cX11_write 54 = .ok (.ldc2_w 87, 3) := by decide +kernel
theorem dX11_write_57 : decode cX11_write 57 = .ok (.land, 1) := by decide +kernel
theorem dX11_write_58 : decode cX11_write 58 = .ok (.l2i, 1) := by decide +kernel
theorem dX11_write_59 : decode cX11_write 59 = .ok (.iastore, 1) := by decide +kernel
theorem dX11_write_60 : decode cX11_write 60 = .ok (.aload_n 0, 1) := by decide +kernel
theorem dX11_write_61 : decode cX11_write 61 = .ok (.dup, 1) := by decide +kernel
theorem dX11_write_62 : decode cX11_write 62 = .ok (.getfield 84, 3) := by decide +kernel
theorem dX11_write_65 : decode cX11_write 65 = .ok (.iconst 1, 1) := by decide +kernel
theorem dX11_write_66 : decode cX11_write 66 = .ok (.iadd, 1) := by decide +kernel
theorem dX11_write_67 : decode cX11_write 67 = .ok (.putfield 84, 3) := by decide +kernel
theorem dX11_write_70 : decode cX11_write 70 = .ok (.iinc 4 1, 3) := by decide +kernel
theorem dX11_write_73 : decode cX11_write 73 = .ok (.goto (-40), 3) := by decide +kernel
theorem dX11_write_76 : decode cX11_write 76 = .ok (.aload_n 0, 1) := by decide +kernel
theorem dX11_write_77 : decode cX11_write 77 = .ok (.getfield 84, 3) := by decide +kernel
theorem dX11_write_80 : decode cX11_write 80 = .ok (.ireturn, 1) := by decide +kernel
theorem dX11_erase_0 : decode cX11_erase 0 = .ok (.aload_n 0, 1) := by decide +kernel
theorem dX11_erase_1 : decode cX11_erase 1 = .ok (.getfield 84, 3) := by decide +kernel
theorem dX11_erase_4 : decode cX11_erase 4 = .ok (.istore_n 1, 1) := by decide +kernel
theorem dX11_erase_5 : decode cX11_erase 5 = .ok (.aload_n 0, 1) := by decide +kernel
theorem dX11_erase_6 : decode cX11_erase 6 = .ok (.iconst 0, 1) := by decide +kernel
theorem dX11_erase_7 : decode cX11_erase 7 = .ok (.putfield 84, 3) := by decide +kernel
theorem dX11_erase_10 : decode cX11_erase 10 = .ok (.iload_n 1, 1) := by decide +kernel
theorem dX11_erase_11 : decode cX11_erase 11 = .ok (.ireturn, 1) := by decide +kernel
theorem dX11_sort_0 : decode cX11_sort 0 = .ok (.iload_n 0, 1) := by decide +kernel
theorem dX11_sort_1 : decode cX11_sort 1 = .ok (.bipush 97, 2) := by decide +kernel
theorem dX11_sort_3 : decode cX11_sort 3 = .ok (.if_icmp .lt 13, 3) := by decide +kernel
theorem dX11_sort_6 : decode cX11_sort 6 = .ok (.iload_n 0, 1) := by decide +kernel
theorem dX11_sort_7 : decode cX11_sort 7 = .ok (.bipush 122, 2) := by decide +kernel
theorem dX11_sort_9 : decode cX11_sort 9 = .ok (.if_icmp .gt 7, 3) := by decide +kernel
theorem dX11_sort_12 : decode cX11_sort 12 = .ok (.iconst 1, 1) := by decide +kernel
theorem dX11_sort_13 : decode cX11_sort 13 = .ok (.goto 20, 3) := by decide +kernel
theorem dX11_sort_16 : decode cX11_sort 16 = .ok (.iload_n 0, 1) := by decide +kernel
theorem dX11_sort_17 : decode cX11_sort 17 = .ok (.bipush 48, 2) := by decide +kernel
theorem dX11_sort_19 : decode cX11_sort 19 = .ok (.if_icmp .lt 13, 3) := by decide +kernel
theorem dX11_sort_22 : decode cX11_sort 22 = .ok (.iload_n 0, 1) := by decide +kernel
theorem dX11_sort_23 : decode cX11_sort 23 = .ok (.bipush 57, 2) := by decide +kernel
theorem dX11_sort_25 : decode cX11_sort 25 = .ok (.if_icmp .gt 7, 3) := by decide +kernel
theorem dX11_sort_28 : decode cX11_sort 28 = .ok (.iconst 2, 1) := by decide +kernel
theorem dX11_sort_29 : decode cX11_sort 29 = .ok (.goto 4, 3) := by decide +kernel
theorem dX11_sort_32 : decode cX11_sort 32 = .ok (.iconst 0, 1) := by decide +kernel
theorem dX11_sort_33 : decode cX11_sort 33 = .ok (.ireturn, 1) := by decide +kernel
theorem dX11_token_0 : decode cX11_token 0 = .ok (.aload_n 0, 1) := by decide +kernel
theorem dX11_token_1 : decode cX11_token 1 = .ok (.getfield 89, 3) := by decide +kernel
theorem dX11_token_4 : decode cX11_token 4 = .ok (.aload_n 0, 1) := by decide +kernel
theorem dX11_token_5 : decode cX11_token 5 = .ok (.getfield 84, 3) := by decide +kernel
theorem dX11_token_8 : decode cX11_token 8 = .ok (.if_icmp .ge 30, 3) := by decide +kernel
theorem dX11_token_11 : decode cX11_token 11 = .ok (.aload_n 0, 1) := by decide +kernel
theorem dX11_token_12 : decode cX11_token 12 = .ok (.getfield 17, 3) := by decide +kernel
theorem dX11_token_15 : decode cX11_token 15 = .ok (.aload_n 0, 1) := by decide +kernel
theorem dX11_token_16 : decode cX11_token 16 = .ok (.getfield 89, 3) := by decide +kernel
theorem dX11_token_19 : decode cX11_token 19 = .ok (.iaload, 1) := by decide +kernel
theorem dX11_token_20 : decode cX11_token 20 = .ok (.bipush 32, 2) := by decide +kernel
theorem dX11_token_22 : decode cX11_token 22 = .ok (.if_icmp .ne 16, 3) := by decide +kernel
theorem dX11_token_25 : decode cX11_token 25 = .ok (.aload_n 0, 1) := by decide +kernel
theorem dX11_token_26 : decode cX11_token 26 = .ok (.dup, 1) := by decide +kernel
theorem dX11_token_27 : decode cX11_token 27 = .ok (.getfield 89, 3) := by decide +kernel
theorem dX11_token_30 : decode cX11_token 30 = .ok (.iconst 1, 1) := by decide +kernel
theorem dX11_token_31 : decode cX11_token 31 = .ok (.iadd, 1) := by decide +kernel
theorem dX11_token_32 : decode cX11_token 32 = .ok (.putfield 89, 3) := by decide +kernel
theorem dX11_token_35 : decode cX11_token 35 = .ok (.goto (-35), 3) := by decide +kernel
theorem dX11_token_38 : decode cX11_token 38 = .ok (.aload_n 0, 1) := by decide +kernel
theorem dX11_token_39 : decode cX11_token 39 = .ok (.aload_n 0, 1) := by decide +kernel
theorem dX11_token_40 : decode cX11_token 40 = .ok (.getfield 89, 3) := by decide +kernel
theorem dX11_token_43 : decode cX11_token 43 = .ok (.putfield 92, 3) := by decide +kernel
theorem dX11_token_46 : decode cX11_token 46 = .ok (.aload_n 0, 1) := by decide +kernel
theorem dX11_token_47 : decode cX11_token 47 = .ok (.dup, 1) := by decide +kernel
theorem dX11_token_48 : decode cX11_token 48 = .ok (.getfield 89, 3) := by decide +kernel
theorem dX11_token_51 : decode cX11_token 51 = .ok (.aload_n 0, 1) := by decide +kernel
theorem dX11_token_52 : decode cX11_token 52 = .ok (.getfield 89, 3) := by decide +kernel
theorem dX11_token_55 : decode cX11_token 55 = .ok (.aload_n 0, 1) := by decide +kernel
theorem dX11_token_56 : decode cX11_token 56 = .ok (.getfield 84, 3) := by decide +kernel
theorem dX11_token_59 : decode cX11_token 59 = .ok (.if_icmp .ge 7, 3) := by decide +kernel
theorem dX11_token_62 : decode cX11_token 62 = .ok (.iconst 1, 1) := by decide +kernel
theorem dX11_token_63 : decode cX11_token 63 = .ok (.goto 4, 3) := by decide +kernel
theorem dX11_token_66 : decode cX11_token 66 = .ok (.iconst 0, 1) := by decide +kernel
theorem dX11_token_67 : decode cX11_token 67 = .ok (.iadd, 1) := by decide +kernel
theorem dX11_token_68 : decode cX11_token 68 = .ok (.putfield 89, 3) := by decide +kernel
theorem dX11_token_71 : decode cX11_token 71 = .ok (.aload_n 0, 1) := by decide +kernel
theorem dX11_token_72 : decode cX11_token 72 = .ok (.getfield 89, 3) := by decide +kernel
theorem dX11_token_75 : decode cX11_token 75 = .ok (.aload_n 0, 1) := by decide +kernel
theorem dX11_token_76 : decode cX11_token 76 = .ok (.getfield 84, 3) := by decide +kernel
theorem dX11_token_79 : decode cX11_token 79 = .ok (.if_icmp .ge 58, 3) := by decide +kernel
theorem dX11_token_82 : decode cX11_token 82 = .ok (.aload_n 0, 1) := by decide +kernel
theorem dX11_token_83 : decode cX11_token 83 = .ok (.getfield 17, 3) := by decide +kernel
theorem dX11_token_86 : decode cX11_token 86 = .ok (.aload_n 0, 1) := by decide +kernel
theorem dX11_token_87 : decode cX11_token 87 = .ok (.getfield 92, 3) := by decide +kernel
theorem dX11_token_90 : decode cX11_token 90 = .ok (.iaload, 1) := by decide +kernel
theorem dX11_token_91 : decode cX11_token 91 = .ok (.invokestatic 95, 3) := by decide +kernel
theorem dX11_token_94 : decode cX11_token 94 = .ok (.ifCond .le 43, 3) := by decide +kernel
theorem dX11_token_97 : decode cX11_token 97 = .ok (.aload_n 0, 1) := by decide +kernel
theorem dX11_token_98 : decode cX11_token 98 = .ok (.getfield 17, 3) := by decide +kernel
theorem dX11_token_101 : decode cX11_token 101 = .ok (.aload_n 0, 1) := by decide +kernel
theorem dX11_token_102 : decode cX11_token 102 = .ok (.getfield 89, 3) := by decide +kernel
theorem dX11_token_105 : decode cX11_token 105 = .ok (.iaload, 1) := by decide +kernel
theorem dX11_token_106 : decode cX11_token 106 = .ok (.invokestatic 95, 3) := by decide +kernel
theorem dX11_token_109 : decode cX11_token 109 = .ok (.aload_n 0, 1) := by decide +kernel
theorem dX11_token_110 : decode cX11_token 110 = .ok (.getfield 17, 3) := by decide +kernel
theorem dX11_token_113 : decode cX11_token 113 = .ok (.aload_n 0, 1) := by decide +kernel
theorem dX11_token_114 : decode cX11_token 114 = .ok (.getfield 92, 3) := by decide +kernel
theorem dX11_token_117 : decode cX11_token 117 = .ok (.iaload, 1) := by decide +kernel
theorem dX11_token_118 : decode cX11_token 118 = .ok (.invokestatic 95, 3) := by decide +kernel
theorem dX11_token_121 : decode cX11_token 121 = .ok (.if_icmp .ne 16, 3) := by decide +kernel
theorem dX11_token_124 : decode cX11_token 124 = .ok (.aload_n 0, 1) := by decide +kernel
theorem dX11_token_125 : decode cX11_token 125 = .ok (.dup, 1) := by decide +kernel
theorem dX11_token_126 : decode cX11_token 126 = .ok (.getfield 89, 3) := by decide +kernel
theorem dX11_token_129 : decode cX11_token 129 = .ok (.iconst 1, 1) := by decide +kernel
theorem dX11_token_130 : decode cX11_token 130 = .ok (.iadd, 1) := by decide +kernel
theorem dX11_token_131 : decode cX11_token 131 = .ok (.putfield 89, 3) := by decide +kernel
theorem dX11_token_134 : decode cX11_token 134 = .ok (.goto (-63), 3) := by decide +kernel
theorem dX11_token_137 : decode cX11_token 137 = .ok (.aload_n 0, 1) := by decide +kernel
theorem dX11_token_138 : decode cX11_token 138 = .ok (.aload_n 0, 1) := by decide +kernel
theorem dX11_token_139 : decode cX11_token 139 = .ok (.getfield 89, 3) := by decide +kernel
theorem dX11_token_142 : decode cX11_token 142 = .ok (.putfield 99, 3) := by decide +kernel
theorem dX11_token_145 : decode cX11_token 145 = .ok (.return_, 1) := by decide +kernel
theorem dX11_isWord_0 : decode cX11_isWord 0 = .ok (.aload_n 0, 1) := by decide +kernel
theorem dX11_isWord_1 : decode cX11_isWord 1 = .ok (.getfield 99, 3) := by decide +kernel
theorem dX11_isWord_4 : decode cX11_isWord 4 = .ok (.aload_n 0, 1) := by decide +kernel
theorem dX11_isWord_5 : decode cX11_isWord 5 = .ok (.getfield 92, 3) := by decide +kernel
theorem dX11_isWord_8 : decode cX11_isWord 8 = .ok (.isub, 1) := by decide +kernel
theorem dX11_isWord_9 : decode cX11_isWord 9 = .ok (.iload_n 2, 1) := by decide +kernel
theorem dX11_isWord_10 : decode cX11_isWord 10 = .ok (.if_icmp .ne 7, 3) := by decide +kernel
theorem dX11_isWord_13 : decode cX11_isWord 13 = .ok (.iconst 1, 1) := by decide +kernel
theorem dX11_isWord_14 : decode cX11_isWord 14 = .ok (.goto 4, 3) := by decide +kernel
theorem dX11_isWord_17 : decode cX11_isWord 17 = .ok (.iconst 0, 1) := by decide +kernel
theorem dX11_isWord_18 : decode cX11_isWord 18 = .ok (.istore_n 3, 1) := by decide +kernel
theorem dX11_isWord_19 : decode cX11_isWord 19 = .ok (.iconst 0, 1) := by decide +kernel
theorem dX11_isWord_20 : decode cX11_isWord 20 = .ok (.istore 4, 2) := by decide +kernel
theorem dX11_isWord_22 : decode cX11_isWord 22 = .ok (.iload_n 3, 1) := by decide +kernel
theorem dX11_isWord_23 : decode cX11_isWord 23 = .ok (.ifCond .eq 48, 3) := by decide +kernel
theorem dX11_isWord_26 : decode cX11_isWord 26 = .ok (.iload 4, 2) := by decide +kernel
theorem dX11_isWord_28 : decode cX11_isWord 28 = .ok (.iload_n 2, 1) := by decide +kernel
theorem dX11_isWord_29 : decode cX11_isWord 29 = .ok (.if_icmp .ge 42, 3) := by decide +kernel
theorem dX11_isWord_32 : decode cX11_isWord 32 = .ok (.aload_n 0, 1) := by decide +kernel
theorem dX11_isWord_33 : decode cX11_isWord 33 = .ok (.getfield 17, 3) := by decide +kernel
theorem dX11_isWord_36 : decode cX11_isWord 36 = .ok (.aload_n 0, 1) := by decide +kernel
theorem dX11_isWord_37 : decode cX11_isWord 37 = .ok (.getfield 92, 3) := by decide +kernel
theorem dX11_isWord_40 : decode cX11_isWord 40 = .ok (.iload 4, 2) := by decide +kernel
theorem dX11_isWord_42 : decode cX11_isWord 42 = .ok (.iadd, 1) := by decide +kernel
theorem dX11_isWord_43 : decode cX11_isWord 43 = .ok (.iaload, 1) := by decide +kernel
theorem dX11_isWord_44 : decode cX11_isWord 44 = .ok (.bipush 96, 2) := by decide +kernel
theorem dX11_isWord_46 : decode cX11_isWord 46 = .ok (.iload_n 1, 1) := by decide +kernel
theorem dX11_isWord_47 : decode cX11_isWord 47 = .ok (.iconst 5, 1) := by decide +kernel
theorem dX11_isWord_48 : decode cX11_isWord 48 = .ok (.iload 4, 2) := by decide +kernel
theorem dX11_isWord_50 : decode cX11_isWord 50 = .ok (.imul, 1) := by decide +kernel
theorem dX11_isWord_51 : decode cX11_isWord 51 = .ok (.ishr, 1) := by decide +kernel
theorem dX11_isWord_52 : decode cX11_isWord 52 = .ok (.bipush 31, 2) := by decide +kernel
theorem dX11_isWord_54 : decode cX11_isWord 54 = .ok (.iand, 1) := by decide +kernel
theorem dX11_isWord_55 : decode cX11_isWord 55 = .ok (.iadd, 1) := by decide +kernel
theorem dX11_isWord_56 : decode cX11_isWord 56 = .ok (.if_icmp .ne 7, 3) := by decide +kernel
theorem dX11_isWord_59 : decode cX11_isWord 59 = .ok (.iconst 1, 1) := by decide +kernel
theorem dX11_isWord_60 : decode cX11_isWord 60 = .ok (.goto 4, 3) := by decide +kernel
theorem dX11_isWord_63 : decode cX11_isWord 63 = .ok (.iconst 0, 1) := by decide +kernel
theorem dX11_isWord_64 : decode cX11_isWord 64 = .ok (.istore_n 3, 1) := by decide +kernel
theorem dX11_isWord_65 : decode cX11_isWord 65 = .ok (.iinc 4 1, 3) := by decide +kernel
theorem dX11_isWord_68 : decode cX11_isWord 68 = .ok (.goto (-46), 3) := by decide +kernel
theorem dX11_isWord_71 : decode cX11_isWord 71 = .ok (.iload_n 3, 1) := by decide +kernel
theorem dX11_isWord_72 : decode cX11_isWord 72 = .ok (.ireturn, 1) := by decide +kernel
theorem dX11_wordOf_0 : decode cX11_wordOf 0 = .ok (.aload_n 0, 1) := by decide +kernel
theorem dX11_wordOf_1 : decode cX11_wordOf 1 = .ok (.ldc 102, 2) := by decide +kernel
theorem dX11_wordOf_3 : decode cX11_wordOf 3 = .ok (.bipush 6, 2) := by decide +kernel
theorem dX11_wordOf_5 : decode cX11_wordOf 5 = .ok (.invokevirtual 103, 3) := by decide +kernel
theorem dX11_wordOf_8 : decode cX11_wordOf 8 = .ok (.ifCond .eq 7, 3) := by decide +kernel
theorem dX11_wordOf_11 : decode cX11_wordOf 11 = .ok (.iconst 0, 1) := by decide +kernel
theorem dX11_wordOf_12 : decode cX11_wordOf 12 = .ok (.goto 74, 3) := by decide +kernel
theorem dX11_wordOf_15 : decode cX11_wordOf 15 = .ok (.aload_n 0, 1) := by decide +kernel
theorem dX11_wordOf_16 : decode cX11_wordOf 16 = .ok (.ldc 107, 2) := by decide +kernel
theorem dX11_wordOf_18 : decode cX11_wordOf 18 = .ok (.iconst 4, 1) := by decide +kernel
theorem dX11_wordOf_19 : decode cX11_wordOf 19 = .ok (.invokevirtual 103, 3) := by decide +kernel
theorem dX11_wordOf_22 : decode cX11_wordOf 22 = .ok (.ifCond .eq 7, 3) := by decide +kernel
theorem dX11_wordOf_25 : decode cX11_wordOf 25 = .ok (.iconst 1, 1) := by decide +kernel
theorem dX11_wordOf_26 : decode cX11_wordOf 26 = .ok (.goto 60, 3) := by decide +kernel
theorem dX11_wordOf_29 : decode cX11_wordOf 29 = .ok (.aload_n 0, 1) := by decide +kernel
theorem dX11_wordOf_30 : decode cX11_wordOf 30 = .ok (.ldc 108, 2) := by decide +kernel
theorem dX11_wordOf_32 : decode cX11_wordOf 32 = .ok (.iconst 4, 1) := by decide +kernel
theorem dX11_wordOf_33 : decode cX11_wordOf 33 = .ok (.invokevirtual 103, 3) := by decide +kernel
theorem dX11_wordOf_36 : decode cX11_wordOf 36 = .ok (.ifCond .eq 7, 3) := by decide +kernel
theorem dX11_wordOf_39 : decode cX11_wordOf 39 = .ok (.iconst 2, 1) := by decide +kernel
theorem dX11_wordOf_40 : decode cX11_wordOf 40 = .ok (.goto 46, 3) := by decide +kernel
theorem dX11_wordOf_43 : decode cX11_wordOf 43 = .ok (.aload_n 0, 1) := by decide +kernel
theorem dX11_wordOf_44 : decode cX11_wordOf 44 = .ok (.ldc 109, 2) := by decide +kernel
theorem dX11_wordOf_46 : decode cX11_wordOf 46 = .ok (.iconst 5, 1) := by decide +kernel
theorem dX11_wordOf_47 : decode cX11_wordOf 47 = .ok (.invokevirtual 103, 3) := by decide +kernel
theorem dX11_wordOf_50 : decode cX11_wordOf 50 = .ok (.ifCond .eq 7, 3) := by decide +kernel
theorem dX11_wordOf_53 : decode cX11_wordOf 53 = .ok (.iconst 3, 1) := by decide +kernel
theorem dX11_wordOf_54 : decode cX11_wordOf 54 = .ok (.goto 32, 3) := by decide +kernel
theorem dX11_wordOf_57 : decode cX11_wordOf 57 = .ok (.aload_n 0, 1) := by decide +kernel
theorem dX11_wordOf_58 : decode cX11_wordOf 58 = .ok (.ldc 110, 2) := by decide +kernel
theorem dX11_wordOf_60 : decode cX11_wordOf 60 = .ok (.iconst 4, 1) := by decide +kernel
theorem dX11_wordOf_61 : decode cX11_wordOf 61 = .ok (.invokevirtual 103, 3) := by decide +kernel
theorem dX11_wordOf_64 : decode cX11_wordOf 64 = .ok (.ifCond .eq 7, 3) := by decide +kernel
theorem dX11_wordOf_67 : decode cX11_wordOf 67 = .ok (.iconst 4, 1) := by decide +kernel
theorem dX11_wordOf_68 : decode cX11_wordOf 68 = .ok (.goto 18, 3) := by decide +kernel
theorem dX11_wordOf_71 : decode cX11_wordOf 71 = .ok (.aload_n 0, 1) := by decide +kernel
theorem dX11_wordOf_72 : decode cX11_wordOf 72 = .ok (.ldc 111, 2) := by decide +kernel
theorem dX11_wordOf_74 : decode cX11_wordOf 74 = .ok (.iconst 4, 1) := by decide +kernel
theorem dX11_wordOf_75 : decode cX11_wordOf 75 = .ok (.invokevirtual 103, 3) := by decide +kernel
theorem dX11_wordOf_78 : decode cX11_wordOf 78 = .ok (.ifCond .eq 7, 3) := by decide +kernel
theorem dX11_wordOf_81 : decode cX11_wordOf 81 = .ok (.iconst 5, 1) := by decide +kernel
theorem dX11_wordOf_82 : decode cX11_wordOf 82 = .ok (.goto 4, 3) := by decide +kernel
theorem dX11_wordOf_85 : decode cX11_wordOf 85 = .ok (.iconst (-1), 1) := by decide +kernel
theorem dX11_wordOf_86 : decode cX11_wordOf 86 = .ok (.ireturn, 1) := by decide +kernel
theorem dX11_reads_0 : decode cX11_reads 0 = .ok (.aload_n 0, 1) := by decide +kernel
theorem dX11_reads_1 : decode cX11_reads 1 = .ok (.getfield 92, 3) := by decide +kernel
theorem dX11_reads_4 : decode cX11_reads 4 = .ok (.aload_n 0, 1) := by decide +kernel
theorem dX11_reads_5 : decode cX11_reads 5 = .ok (.getfield 84, 3) := by decide +kernel
theorem dX11_reads_8 : decode cX11_reads 8 = .ok (.if_icmp .eq 32, 3) := by decide +kernel
theorem dX11_reads_11 : decode cX11_reads 11 = .ok (.aload_n 0, 1) := by decide +kernel
theorem dX11_reads_12 : decode cX11_reads 12 = .ok (.getfield 17, 3) := by decide +kernel
theorem dX11_reads_15 : decode cX11_reads 15 = .ok (.aload_n 0, 1) := by decide +kernel
theorem dX11_reads_16 : decode cX11_reads 16 = .ok (.getfield 92, 3) := by decide +kernel
theorem dX11_reads_19 : decode cX11_reads 19 = .ok (.iaload, 1) := by decide +kernel
theorem dX11_reads_20 : decode cX11_reads 20 = .ok (.invokestatic 95, 3) := by decide +kernel
theorem dX11_reads_23 : decode cX11_reads 23 = .ok (.iconst 2, 1) := by decide +kernel
theorem dX11_reads_24 : decode cX11_reads 24 = .ok (.if_icmp .ne 16, 3) := by decide +kernel
theorem dX11_reads_27 : decode cX11_reads 27 = .ok (.aload_n 0, 1) := by decide +kernel
theorem dX11_reads_28 : decode cX11_reads 28 = .ok (.getfield 99, 3) := by decide +kernel
theorem dX11_reads_31 : decode cX11_reads 31 = .ok (.aload_n 0, 1) := by decide +kernel
theorem dX11_reads_32 : decode cX11_reads 32 = .ok (.getfield 92, 3) := by decide +kernel
theorem dX11_reads_35 : decode cX11_reads 35 = .ok (.isub, 1) := by decide +kernel
theorem dX11_reads_36 : decode cX11_reads 36 = .ok (.iconst 2, 1) := by decide +kernel
theorem dX11_reads_37 : decode cX11_reads 37 = .ok (.if_icmp .le 5, 3) := by decide +kernel
theorem dX11_reads_40 : decode cX11_reads 40 = .ok (.iconst 0, 1) := by decide +kernel
theorem dX11_reads_41 : decode cX11_reads 41 = .ok (.ireturn, 1) := by decide +kernel
theorem dX11_reads_42 : decode cX11_reads 42 = .ok (.iconst 0, 1) := by decide +kernel
theorem dX11_reads_43 : decode cX11_reads 43 = .ok (.istore 4, 2) := by decide +kernel
theorem dX11_reads_45 : decode cX11_reads 45 = .ok (.aload_n 0, 1) := by decide +kernel
theorem dX11_reads_46 : decode cX11_reads 46 = .ok (.getfield 92, 3) := by decide +kernel
theorem dX11_reads_49 : decode cX11_reads 49 = .ok (.istore 5, 2) := by decide +kernel
theorem dX11_reads_51 : decode cX11_reads 51 = .ok (.iload 5, 2) := by decide +kernel
theorem dX11_reads_53 : decode cX11_reads 53 = .ok (.aload_n 0, 1) := by decide +kernel
theorem dX11_reads_54 : decode cX11_reads 54 = .ok (.getfield 99, 3) := by decide +kernel
theorem dX11_reads_57 : decode cX11_reads 57 = .ok (.if_icmp .ge 27, 3) := by decide +kernel
theorem dX11_reads_60 : decode cX11_reads 60 = .ok (.bipush 10, 2) := by decide +kernel
theorem dX11_reads_62 : decode cX11_reads 62 = .ok (.iload 4, 2) := by decide +kernel
theorem dX11_reads_64 : decode cX11_reads 64 = .ok (.imul, 1) := by decide +kernel
theorem dX11_reads_65 : decode cX11_reads 65 = .ok (.aload_n 0, 1) := by decide +kernel
theorem dX11_reads_66 : decode cX11_reads 66 = .ok (.getfield 17, 3) := by decide +kernel
theorem dX11_reads_69 : decode cX11_reads 69 = .ok (.iload 5, 2) := by decide +kernel
theorem dX11_reads_71 : decode cX11_reads 71 = .ok (.iaload, 1) := by decide +kernel
theorem dX11_reads_72 : decode cX11_reads 72 = .ok (.iadd, 1) := by decide +kernel
theorem dX11_reads_73 : decode cX11_reads 73 = .ok (.bipush 48, 2) := by decide +kernel
theorem dX11_reads_75 : decode cX11_reads 75 = .ok (.isub, 1) := by decide +kernel
theorem dX11_reads_76 : decode cX11_reads 76 = .ok (.istore 4, 2) := by decide +kernel
theorem dX11_reads_78 : decode cX11_reads 78 = .ok (.iinc 5 1, 3) := by decide +kernel
theorem dX11_reads_81 : decode cX11_reads 81 = .ok (.goto (-30), 3) := by decide +kernel
theorem dX11_reads_84 : decode cX11_reads 84 = .ok (.iload 4, 2) := by decide +kernel
theorem dX11_reads_86 : decode cX11_reads 86 = .ok (.i2l, 1) := by decide +kernel
theorem dX11_reads_87 : decode cX11_reads 87 = .ok (.iload_n 2, 1) := by decide +kernel
theorem dX11_reads_88 : decode cX11_reads 88 = .ok (.i2l, 1) := by decide +kernel
theorem dX11_reads_89 : decode cX11_reads 89 = .ok (.iload_n 3, 1) := by decide +kernel
theorem dX11_reads_90 : decode cX11_reads 90 = .ok (.i2l, 1) := by decide +kernel
theorem dX11_reads_91 : decode cX11_reads 91 = .ok (.invokestatic 80, 3) := by decide +kernel
theorem dX11_reads_94 : decode cX11_reads 94 = .ok (.ifCond .ne 5, 3) := by decide +kernel
theorem dX11_reads_97 : decode cX11_reads 97 = .ok (.iconst 0, 1) := by decide +kernel
theorem dX11_reads_98 : decode cX11_reads 98 = .ok (.ireturn, 1) := by decide +kernel
theorem dX11_reads_99 : decode cX11_reads 99 = .ok (.aload_n 0, 1) := by decide +kernel
theorem dX11_reads_100 : decode cX11_reads 100 = .ok (.getfield 20, 3) := by decide +kernel
theorem dX11_reads_103 : decode cX11_reads 103 = .ok (.bipush 6, 2) := by decide +kernel
theorem dX11_reads_105 : decode cX11_reads 105 = .ok (.aload_n 0, 1) := by decide +kernel
theorem dX11_reads_106 : decode cX11_reads 106 = .ok (.getfield 112, 3) := by decide +kernel
theorem dX11_reads_109 : decode cX11_reads 109 = .ok (.imul, 1) := by decide +kernel
theorem dX11_reads_110 : decode cX11_reads 110 = .ok (.iconst 1, 1) := by decide +kernel
theorem dX11_reads_111 : decode cX11_reads 111 = .ok (.iadd, 1) := by decide +kernel
theorem dX11_reads_112 : decode cX11_reads 112 = .ok (.iload_n 1, 1) := by decide +kernel
theorem dX11_reads_113 : decode cX11_reads 113 = .ok (.iadd, 1) := by decide +kernel
theorem dX11_reads_114 : decode cX11_reads 114 = .ok (.iload 4, 2) := by decide +kernel
theorem dX11_reads_116 : decode cX11_reads 116 = .ok (.iastore, 1) := by decide +kernel
theorem dX11_reads_117 : decode cX11_reads 117 = .ok (.aload_n 0, 1) := by decide +kernel
theorem dX11_reads_118 : decode cX11_reads 118 = .ok (.invokevirtual 115, 3) := by decide +kernel
theorem dX11_reads_121 : decode cX11_reads 121 = .ok (.iconst 1, 1) := by decide +kernel
theorem dX11_reads_122 : decode cX11_reads 122 = .ok (.ireturn, 1) := by decide +kernel
theorem dX11_readsBread_0 : decode cX11_readsBread 0 = .ok (.aload_n 0, 1) := by decide +kernel
theorem dX11_readsBread_1 : decode cX11_readsBread 1 = .ok (.getfield 92, 3) := by decide +kernel
theorem dX11_readsBread_4 : decode cX11_readsBread 4 = .ok (.aload_n 0, 1) := by decide +kernel
theorem dX11_readsBread_5 : decode cX11_readsBread 5 = .ok (.getfield 84, 3) := by decide +kernel
theorem dX11_readsBread_8 : decode cX11_readsBread 8 = .ok (.if_icmp .ge 40, 3) := by decide +kernel
theorem dX11_readsBread_11 : decode cX11_readsBread 11 = .ok (.aload_n 0, 1) := by decide +kernel
theorem dX11_readsBread_12 : decode cX11_readsBread 12 = .ok (.getfield 17, 3) := by decide +kernel
theorem dX11_readsBread_15 : decode cX11_readsBread 15 = .ok (.aload_n 0, 1) := by decide +kernel
theorem dX11_readsBread_16 : decode cX11_readsBread 16 = .ok (.getfield 92, 3) := by decide +kernel
theorem dX11_readsBread_19 : decode cX11_readsBread 19 = .ok (.iaload, 1) := by decide +kernel
theorem dX11_readsBread_20 : decode cX11_readsBread 20 = .ok (.bipush 45, 2) := by decide +kernel
theorem dX11_readsBread_22 : decode cX11_readsBread 22 = .ok (.if_icmp .ne 26, 3) := by decide +kernel
theorem dX11_readsBread_25 : decode cX11_readsBread 25 = .ok (.aload_n 0, 1) := by decide +kernel
theorem dX11_readsBread_26 : decode cX11_readsBread 26 = .ok (.getfield 20, 3) := by decide +kernel
theorem dX11_readsBread_29 : decode cX11_readsBread 29 = .ok (.bipush 6, 2) := by decide +kernel
theorem dX11_readsBread_31 : decode cX11_readsBread 31 = .ok (.aload_n 0, 1) := by decide +kernel
theorem dX11_readsBread_32 : decode cX11_readsBread 32 = .ok (.getfield 112, 3) := by decide +kernel
theorem dX11_readsBread_35 : decode cX11_readsBread 35 = .ok (.imul, 1) := by decide +kernel
theorem dX11_readsBread_36 : decode cX11_readsBread 36 = .ok (.iconst 1, 1) := by decide +kernel
theorem dX11_readsBread_37 : decode cX11_readsBread 37 = .ok (.iadd, 1) := by decide +kernel
theorem dX11_readsBread_38 : decode cX11_readsBread 38 = .ok (.iload_n 1, 1) := by decide +kernel
theorem dX11_readsBread_39 : decode cX11_readsBread 39 = .ok (.iadd, 1) := by decide +kernel
theorem dX11_readsBread_40 : decode cX11_readsBread 40 = .ok (.iconst (-1), 1) := by decide +kernel
theorem dX11_readsBread_41 : decode cX11_readsBread 41 = .ok (.iastore, 1) := by decide +kernel
theorem dX11_readsBread_42 : decode cX11_readsBread 42 = .ok (.aload_n 0, 1) := by decide +kernel
theorem dX11_readsBread_43 : decode cX11_readsBread 43 = .ok (.invokevirtual 115, 3) := by decide +kernel
theorem dX11_readsBread_46 : decode cX11_readsBread 46 = .ok (.iconst 1, 1) := by decide +kernel
theorem dX11_readsBread_47 : decode cX11_readsBread 47 = .ok (.ireturn, 1) := by decide +kernel
theorem dX11_readsBread_48 : decode cX11_readsBread 48 = .ok (.aload_n 0, 1) := by decide +kernel
theorem dX11_readsBread_49 : decode cX11_readsBread 49 = .ok (.iload_n 1, 1) := by decide +kernel
theorem dX11_readsBread_50 : decode cX11_readsBread 50 = .ok (.iconst 0, 1) := by decide +kernel
theorem dX11_readsBread_51 : decode cX11_readsBread 51 = .ok (.bipush 20, 2) := by decide +kernel
theorem dX11_readsBread_53 : decode cX11_readsBread 53 = .ok (.invokevirtual 118, 3) := by decide +kernel
theorem dX11_readsBread_56 : decode cX11_readsBread 56 = .ok (.ireturn, 1) := by decide +kernel
theorem dX11_readsWork_0 : decode cX11_readsWork 0 = .ok (.bipush 6, 2) := by decide +kernel
theorem dX11_readsWork_2 : decode cX11_readsWork 2 = .ok (.aload_n 0, 1) := by decide +kernel
theorem dX11_readsWork_3 : decode cX11_readsWork 3 = .ok (.getfield 112, 3) := by decide +kernel
theorem dX11_readsWork_6 : decode cX11_readsWork 6 = .ok (.imul, 1) := by decide +kernel
theorem dX11_readsWork_7 : decode cX11_readsWork 7 = .ok (.iconst 1, 1) := by decide +kernel
theorem dX11_readsWork_8 : decode cX11_readsWork 8 = .ok (.iadd, 1) := by decide +kernel
theorem dX11_readsWork_9 : decode cX11_readsWork 9 = .ok (.istore_n 1, 1) := by decide +kernel
theorem dX11_readsWork_10 : decode cX11_readsWork 10 = .ok (.aload_n 0, 1) := by decide +kernel
theorem dX11_readsWork_11 : decode cX11_readsWork 11 = .ok (.getfield 92, 3) := by decide +kernel
theorem dX11_readsWork_14 : decode cX11_readsWork 14 = .ok (.istore_n 2, 1) := by decide +kernel
theorem dX11_readsWork_15 : decode cX11_readsWork 15 = .ok (.aload_n 0, 1) := by decide +kernel
theorem dX11_readsWork_16 : decode cX11_readsWork 16 = .ok (.iconst 4, 1) := by decide +kernel
theorem dX11_readsWork_17 : decode cX11_readsWork 17 = .ok (.iconst 0, 1) := by decide +kernel
theorem dX11_readsWork_18 : decode cX11_readsWork 18 = .ok (.iconst 5, 1) := by decide +kernel
theorem dX11_readsWork_19 : decode cX11_readsWork 19 = .ok (.invokevirtual 118, 3) := by decide +kernel
theorem dX11_readsWork_22 : decode cX11_readsWork 22 = .ok (.ifCond .ne 5, 3) := by decide +kernel
theorem dX11_readsWork_25 : decode cX11_readsWork 25 = .ok (.iconst 0, 1) := by decide +kernel
theorem dX11_readsWork_26 : decode cX11_readsWork 26 = .ok (.ireturn, 1) := by decide +kernel
theorem dX11_readsWork_27 : decode cX11_readsWork 27 = .ok (.aload_n 0, 1) := by decide +kernel
theorem dX11_readsWork_28 : decode cX11_readsWork 28 = .ok (.getfield 20, 3) := by decide +kernel
theorem dX11_readsWork_31 : decode cX11_readsWork 31 = .ok (.iload_n 1, 1) := by decide +kernel
theorem dX11_readsWork_32 : decode cX11_readsWork 32 = .ok (.iconst 4, 1) := by decide +kernel
theorem dX11_readsWork_33 : decode cX11_readsWork 33 = .ok (.iadd, 1) := by decide +kernel
theorem dX11_readsWork_34 : decode cX11_readsWork 34 = .ok (.iaload, 1) := by decide +kernel
theorem dX11_readsWork_35 : decode cX11_readsWork 35 = .ok (.istore_n 3, 1) := by decide +kernel
theorem dX11_readsWork_36 : decode cX11_readsWork 36 = .ok (.iload_n 3, 1) := by decide +kernel
theorem dX11_readsWork_37 : decode cX11_readsWork 37 = .ok (.iconst 5, 1) := by decide +kernel
theorem dX11_readsWork_38 : decode cX11_readsWork 38 = .ok (.if_icmp .ge 30, 3) := by decide +kernel
theorem dX11_readsWork_41 : decode cX11_readsWork 41 = .ok (.aload_n 0, 1) := by decide +kernel
theorem dX11_readsWork_42 : decode cX11_readsWork 42 = .ok (.getfield 42, 3) := by decide +kernel
theorem dX11_readsWork_45 : decode cX11_readsWork 45 = .ok (.iconst 2, 1) := by decide +kernel
theorem dX11_readsWork_46 : decode cX11_readsWork 46 = .ok (.iload_n 3, 1) := by decide +kernel
theorem dX11_readsWork_47 : decode cX11_readsWork 47 = .ok (.imul, 1) := by decide +kernel
theorem dX11_readsWork_48 : decode cX11_readsWork 48 = .ok (.aload_n 0, 1) := by decide +kernel
theorem dX11_readsWork_49 : decode cX11_readsWork 49 = .ok (.getfield 20, 3) := by decide +kernel
theorem dX11_readsWork_52 : decode cX11_readsWork 52 = .ok (.iload_n 1, 1) := by decide +kernel
theorem dX11_readsWork_53 : decode cX11_readsWork 53 = .ok (.iconst 1, 1) := by decide +kernel
theorem dX11_readsWork_54 : decode cX11_readsWork 54 = .ok (.iadd, 1) := by decide +kernel
theorem dX11_readsWork_55 : decode cX11_readsWork 55 = .ok (.iaload, 1) := by decide +kernel
theorem dX11_readsWork_56 : decode cX11_readsWork 56 = .ok (.iadd, 1) := by decide +kernel
theorem dX11_readsWork_57 : decode cX11_readsWork 57 = .ok (.baload, 1) := by decide +kernel
theorem dX11_readsWork_58 : decode cX11_readsWork 58 = .ok (.ifCond .ne 10, 3) := by decide +kernel
theorem dX11_readsWork_61 : decode cX11_readsWork 61 = .ok (.aload_n 0, 1) := by decide +kernel
theorem dX11_readsWork_62 : decode cX11_readsWork 62 = .ok (.iload_n 2, 1) := by decide +kernel
theorem dX11_readsWork_63 : decode cX11_readsWork 63 = .ok (.putfield 92, 3) := by decide +kernel
theorem dX11_readsWork_66 : decode cX11_readsWork 66 = .ok (.iconst 0, 1) := by decide +kernel
theorem dX11_readsWork_67 : decode cX11_readsWork 67 = .ok (.ireturn, 1) := by decide +kernel
theorem dX11_readsWork_68 : decode cX11_readsWork 68 = .ok (.iconst 1, 1) := by decide +kernel
theorem dX11_readsWork_69 : decode cX11_readsWork 69 = .ok (.ireturn, 1) := by decide +kernel
theorem dX11_readsRest_0 : decode cX11_readsRest 0 = .ok (.iload_n 1, 1) := by decide +kernel
theorem dX11_readsRest_1 : decode cX11_readsRest 1 = .ok (.tableswitch 218 0 4 #[35, 62, 115, 146, 209], 35) := by decide +kernel
theorem dX11_readsRest_36 : decode cX11_readsRest 36 = .ok (.aload_n 0, 1) := by decide +kernel
theorem dX11_readsRest_37 : decode cX11_readsRest 37 = .ok (.iconst 0, 1) := by decide +kernel
theorem dX11_readsRest_38 : decode cX11_readsRest 38 = .ok (.iconst 1, 1) := by decide +kernel
theorem dX11_readsRest_39 : decode cX11_readsRest 39 = .ok (.bipush 6, 2) := by decide +kernel
theorem dX11_readsRest_41 : decode cX11_readsRest 41 = .ok (.invokevirtual 118, 3) := by decide +kernel
theorem dX11_readsRest_44 : decode cX11_readsRest 44 = .ok (.ifCond .eq 17, 3) := by decide +kernel
theorem dX11_readsRest_47 : decode cX11_readsRest 47 = .ok (.aload_n 0, 1) := by decide +kernel
theorem dX11_readsRest_48 : decode cX11_readsRest 48 = .ok (.iconst 1, 1) := by decide +kernel
theorem dX11_readsRest_49 : decode cX11_readsRest 49 = .ok (.iconst 1, 1) := by decide +kernel
theorem dX11_readsRest_50 : decode cX11_readsRest 50 = .ok (.iconst 4, 1) := by decide +kernel
theorem dX11_readsRest_51 : decode cX11_readsRest 51 = .ok (.invokevirtual 118, 3) := by decide +kernel
theorem dX11_readsRest_54 : decode cX11_readsRest 54 = .ok (.ifCond .eq 7, 3) := by decide +kernel
theorem dX11_readsRest_57 : decode cX11_readsRest 57 = .ok (.iconst 1, 1) := by decide +kernel
theorem dX11_readsRest_58 : decode cX11_readsRest 58 = .ok (.goto 4, 3) := by decide +kernel
theorem dX11_readsRest_61 : decode cX11_readsRest 61 = .ok (.iconst 0, 1) := by decide +kernel
theorem dX11_readsRest_62 : decode cX11_readsRest 62 = .ok (.ireturn, 1) := by decide +kernel
theorem dX11_readsRest_63 : decode cX11_readsRest 63 = .ok (.aload_n 0, 1) := by decide +kernel
theorem dX11_readsRest_64 : decode cX11_readsRest 64 = .ok (.iconst 0, 1) := by decide +kernel
theorem dX11_readsRest_65 : decode cX11_readsRest 65 = .ok (.iconst 0, 1) := by decide +kernel
theorem dX11_readsRest_66 : decode cX11_readsRest 66 = .ok (.iconst 4, 1) := by decide +kernel
theorem dX11_readsRest_67 : decode cX11_readsRest 67 = .ok (.invokevirtual 118, 3) := by decide +kernel
theorem dX11_readsRest_70 : decode cX11_readsRest 70 = .ok (.ifCond .eq 44, 3) := by decide +kernel
theorem dX11_readsRest_73 : decode cX11_readsRest 73 = .ok (.aload_n 0, 1) := by decide +kernel
theorem dX11_readsRest_74 : decode cX11_readsRest 74 = .ok (.iconst 1, 1) := by decide +kernel
theorem dX11_readsRest_75 : decode cX11_readsRest 75 = .ok (.iconst 0, 1) := by decide +kernel
theorem dX11_readsRest_76 : decode cX11_readsRest 76 = .ok (.iconst 3, 1) := by decide +kernel
theorem dX11_readsRest_77 : decode cX11_readsRest 77 = .ok (.invokevirtual 118, 3) := by decide +kernel
theorem dX11_readsRest_80 : decode cX11_readsRest 80 = .ok (.ifCond .eq 34, 3) := by decide +kernel
theorem dX11_readsRest_83 : decode cX11_readsRest 83 = .ok (.aload_n 0, 1) := by decide +kernel
theorem dX11_readsRest_84 : decode cX11_readsRest 84 = .ok (.iconst 2, 1) := by decide +kernel
theorem dX11_readsRest_85 : decode cX11_readsRest 85 = .ok (.invokevirtual 122, 3) := by decide +kernel
theorem dX11_readsRest_88 : decode cX11_readsRest 88 = .ok (.ifCond .eq 26, 3) := by decide +kernel
theorem dX11_readsRest_91 : decode cX11_readsRest 91 = .ok (.aload_n 0, 1) := by decide +kernel
theorem dX11_readsRest_92 : decode cX11_readsRest 92 = .ok (.iconst 3, 1) := by decide +kernel
theorem dX11_readsRest_93 : decode cX11_readsRest 93 = .ok (.invokevirtual 122, 3) := by decide +kernel
theorem dX11_readsRest_96 : decode cX11_readsRest 96 = .ok (.ifCond .eq 18, 3) := by decide +kernel
theorem dX11_readsRest_99 : decode cX11_readsRest 99 = .ok (.aload_n 0, 1) := by decide +kernel
theorem dX11_readsRest_100 : decode cX11_readsRest 100 = .ok (.iconst 4, 1) := by decide +kernel
theorem dX11_readsRest_101 : decode cX11_readsRest 101 = .ok (.iconst 0, 1) := by decide +kernel
theorem dX11_readsRest_102 : decode cX11_readsRest 102 = .ok (.bipush 20, 2) := by decide +kernel
theorem dX11_readsRest_104 : decode cX11_readsRest 104 = .ok (.invokevirtual 118, 3) := by decide +kernel
theorem dX11_readsRest_107 : decode cX11_readsRest 107 = .ok (.ifCond .eq 7, 3) := by decide +kernel
theorem dX11_readsRest_110 : decode cX11_readsRest 110 = .ok (.iconst 1, 1) := by decide +kernel
theorem dX11_readsRest_111 : decode cX11_readsRest 111 = .ok (.goto 4, 3) := by decide +kernel
theorem dX11_readsRest_114 : decode cX11_readsRest 114 = .ok (.iconst 0, 1) := by decide +kernel
theorem dX11_readsRest_115 : decode cX11_readsRest 115 = .ok (.ireturn, 1) := by decide +kernel
theorem dX11_readsRest_116 : decode cX11_readsRest 116 = .ok (.aload_n 0, 1) := by decide +kernel
theorem dX11_readsRest_117 : decode cX11_readsRest 117 = .ok (.iconst 0, 1) := by decide +kernel
theorem dX11_readsRest_118 : decode cX11_readsRest 118 = .ok (.iconst 0, 1) := by decide +kernel
theorem dX11_readsRest_119 : decode cX11_readsRest 119 = .ok (.aload_n 0, 1) := by decide +kernel
theorem dX11_readsRest_120 : decode cX11_readsRest 120 = .ok (.getfield 126, 3) := by decide +kernel
theorem dX11_readsRest_123 : decode cX11_readsRest 123 = .ok (.iconst 1, 1) := by decide +kernel
theorem dX11_readsRest_124 : decode cX11_readsRest 124 = .ok (.isub, 1) := by decide +kernel
theorem dX11_readsRest_125 : decode cX11_readsRest 125 = .ok (.invokevirtual 118, 3) := by decide +kernel
theorem dX11_readsRest_128 : decode cX11_readsRest 128 = .ok (.ifCond .eq 17, 3) := by decide +kernel
theorem dX11_readsRest_131 : decode cX11_readsRest 131 = .ok (.aload_n 0, 1) := by decide +kernel
theorem dX11_readsRest_132 : decode cX11_readsRest 132 = .ok (.iconst 1, 1) := by decide +kernel
theorem dX11_readsRest_133 : decode cX11_readsRest 133 = .ok (.iconst 0, 1) := by decide +kernel
theorem dX11_readsRest_134 : decode cX11_readsRest 134 = .ok (.iconst 3, 1) := by decide +kernel
theorem dX11_readsRest_135 : decode cX11_readsRest 135 = .ok (.invokevirtual 118, 3) := by decide +kernel
theorem dX11_readsRest_138 : decode cX11_readsRest 138 = .ok (.ifCond .eq 7, 3) := by decide +kernel
theorem dX11_readsRest_141 : decode cX11_readsRest 141 = .ok (.iconst 1, 1) := by decide +kernel
theorem dX11_readsRest_142 : decode cX11_readsRest 142 = .ok (.goto 4, 3) := by decide +kernel
theorem dX11_readsRest_145 : decode cX11_readsRest 145 = .ok (.iconst 0, 1) := by decide +kernel
theorem dX11_readsRest_146 : decode cX11_readsRest 146 = .ok (.ireturn, 1) := by decide +kernel
theorem dX11_readsRest_147 : decode cX11_readsRest 147 = .ok (.aload_n 0, 1) := by decide +kernel
theorem dX11_readsRest_148 : decode cX11_readsRest 148 = .ok (.iconst 0, 1) := by decide +kernel
theorem dX11_readsRest_149 : decode cX11_readsRest 149 = .ok (.iconst 0, 1) := by decide +kernel
theorem dX11_readsRest_150 : decode cX11_readsRest 150 = .ok (.iconst 1, 1) := by decide +kernel
theorem dX11_readsRest_151 : decode cX11_readsRest 151 = .ok (.invokevirtual 118, 3) := by decide +kernel
theorem dX11_readsRest_154 : decode cX11_readsRest 154 = .ok (.ifCond .eq 54, 3) := by decide +kernel
theorem dX11_readsRest_157 : decode cX11_readsRest 157 = .ok (.aload_n 0, 1) := by decide +kernel
theorem dX11_readsRest_158 : decode cX11_readsRest 158 = .ok (.iconst 1, 1) := by decide +kernel
theorem dX11_readsRest_159 : decode cX11_readsRest 159 = .ok (.iconst 0, 1) := by decide +kernel
theorem dX11_readsRest_160 : decode cX11_readsRest 160 = .ok (.iconst 1, 1) := by decide +kernel
theorem dX11_readsRest_161 : decode cX11_readsRest 161 = .ok (.invokevirtual 118, 3) := by decide +kernel
theorem dX11_readsRest_164 : decode cX11_readsRest 164 = .ok (.ifCond .eq 44, 3) := by decide +kernel
theorem dX11_readsRest_167 : decode cX11_readsRest 167 = .ok (.aload_n 0, 1) := by decide +kernel
theorem dX11_readsRest_168 : decode cX11_readsRest 168 = .ok (.iconst 2, 1) := by decide +kernel
theorem dX11_readsRest_169 : decode cX11_readsRest 169 = .ok (.iconst 0, 1) := by decide +kernel
theorem dX11_readsRest_170 : decode cX11_readsRest 170 = .ok (.aload_n 0, 1) := by decide +kernel
theorem dX11_readsRest_171 : decode cX11_readsRest 171 = .ok (.getfield 126, 3) := by decide +kernel
theorem dX11_readsRest_174 : decode cX11_readsRest 174 = .ok (.iconst 1, 1) := by decide +kernel
theorem dX11_readsRest_175 : decode cX11_readsRest 175 = .ok (.isub, 1) := by decide +kernel
theorem dX11_readsRest_176 : decode cX11_readsRest 176 = .ok (.invokevirtual 118, 3) := by decide +kernel
theorem dX11_readsRest_179 : decode cX11_readsRest 179 = .ok (.ifCond .eq 29, 3) := by decide +kernel
theorem dX11_readsRest_182 : decode cX11_readsRest 182 = .ok (.aload_n 0, 1) := by decide +kernel
theorem dX11_readsRest_183 : decode cX11_readsRest 183 = .ok (.iconst 3, 1) := by decide +kernel
theorem dX11_readsRest_184 : decode cX11_readsRest 184 = .ok (.iconst 0, 1) := by decide +kernel
theorem dX11_readsRest_185 : decode cX11_readsRest 185 = .ok (.aload_n 0, 1) := by decide +kernel
theorem dX11_readsRest_186 : decode cX11_readsRest 186 = .ok (.getfield 129, 3) := by decide +kernel
theorem dX11_readsRest_189 : decode cX11_readsRest 189 = .ok (.iconst 1, 1) := by decide +kernel
theorem dX11_readsRest_190 : decode cX11_readsRest 190 = .ok (.isub, 1) := by decide +kernel
theorem dX11_readsRest_191 : decode cX11_readsRest 191 = .ok (.invokevirtual 118, 3) := by decide +kernel
theorem dX11_readsRest_194 : decode cX11_readsRest 194 = .ok (.ifCond .eq 14, 3) := by decide +kernel
theorem dX11_readsRest_197 : decode cX11_readsRest 197 = .ok (.aload_n 0, 1) := by decide +kernel
theorem dX11_readsRest_198 : decode cX11_readsRest 198 = .ok (.invokevirtual 132, 3) := by decide +kernel
theorem dX11_readsRest_201 : decode cX11_readsRest 201 = .ok (.ifCond .eq 7, 3) := by decide +kernel
theorem dX11_readsRest_204 : decode cX11_readsRest 204 = .ok (.iconst 1, 1) := by decide +kernel
theorem dX11_readsRest_205 : decode cX11_readsRest 205 = .ok (.goto 4, 3) := by decide +kernel
theorem dX11_readsRest_208 : decode cX11_readsRest 208 = .ok (.iconst 0, 1) := by decide +kernel
theorem dX11_readsRest_209 : decode cX11_readsRest 209 = .ok (.ireturn, 1) := by decide +kernel
theorem dX11_readsRest_210 : decode cX11_readsRest 210 = .ok (.aload_n 0, 1) := by decide +kernel
theorem dX11_readsRest_211 : decode cX11_readsRest 211 = .ok (.iconst 0, 1) := by decide +kernel
theorem dX11_readsRest_212 : decode cX11_readsRest 212 = .ok (.iconst 0, 1) := by decide +kernel
theorem dX11_readsRest_213 : decode cX11_readsRest 213 = .ok (.bipush 20, 2) := by decide +kernel
theorem dX11_readsRest_215 : decode cX11_readsRest 215 = .ok (.invokevirtual 118, 3) := by decide +kernel
theorem dX11_readsRest_218 : decode cX11_readsRest 218 = .ok (.ireturn, 1) := by decide +kernel
theorem dX11_readsRest_219 : decode cX11_readsRest 219 = .ok (.aload_n 0, 1) := by decide +kernel
theorem dX11_readsRest_220 : decode cX11_readsRest 220 = .ok (.iconst 0, 1) := by decide +kernel
theorem dX11_readsRest_221 : decode cX11_readsRest 221 = .ok (.iconst 0, 1) := by decide +kernel
theorem dX11_readsRest_222 : decode cX11_readsRest 222 = .ok (.bipush 99, 2) := by decide +kernel
theorem dX11_readsRest_224 : decode cX11_readsRest 224 = .ok (.invokevirtual 118, 3) := by decide +kernel
theorem dX11_readsRest_227 : decode cX11_readsRest 227 = .ok (.ireturn, 1) := by decide +kernel
theorem dX11_readsLine_0 : decode cX11_readsLine 0 = .ok (.aload_n 0, 1) := by decide +kernel
theorem dX11_readsLine_1 : decode cX11_readsLine 1 = .ok (.invokevirtual 136, 3) := by decide +kernel
theorem dX11_readsLine_4 : decode cX11_readsLine 4 = .ok (.istore_n 1, 1) := by decide +kernel
theorem dX11_readsLine_5 : decode cX11_readsLine 5 = .ok (.iload_n 1, 1) := by decide +kernel
theorem dX11_readsLine_6 : decode cX11_readsLine 6 = .ok (.iconst (-1), 1) := by decide +kernel
theorem dX11_readsLine_7 : decode cX11_readsLine 7 = .ok (.if_icmp .ne 5, 3) := by decide +kernel
theorem dX11_readsLine_10 : decode cX11_readsLine 10 = .ok (.iconst 0, 1) := by decide +kernel
theorem dX11_readsLine_11 : decode cX11_readsLine 11 = .ok (.ireturn, 1) := by decide +kernel
theorem dX11_readsLine_12 : decode cX11_readsLine 12 = .ok (.aload_n 0, 1) := by decide +kernel
theorem dX11_readsLine_13 : decode cX11_readsLine 13 = .ok (.invokevirtual 115, 3) := by decide +kernel
theorem dX11_readsLine_16 : decode cX11_readsLine 16 = .ok (.bipush 6, 2) := by decide +kernel
theorem dX11_readsLine_18 : decode cX11_readsLine 18 = .ok (.aload_n 0, 1) := by decide +kernel
theorem dX11_readsLine_19 : decode cX11_readsLine 19 = .ok (.getfield 112, 3) := by decide +kernel
theorem dX11_readsLine_22 : decode cX11_readsLine 22 = .ok (.imul, 1) := by decide +kernel
theorem dX11_readsLine_23 : decode cX11_readsLine 23 = .ok (.istore_n 2, 1) := by decide +kernel
theorem dX11_readsLine_24 : decode cX11_readsLine 24 = .ok (.aload_n 0, 1) := by decide +kernel
theorem dX11_readsLine_25 : decode cX11_readsLine 25 = .ok (.getfield 20, 3) := by decide +kernel
theorem dX11_readsLine_28 : decode cX11_readsLine 28 = .ok (.iload_n 2, 1) := by decide +kernel
theorem dX11_readsLine_29 : decode cX11_readsLine 29 = .ok (.iload_n 1, 1) := by decide +kernel
theorem dX11_readsLine_30 : decode cX11_readsLine 30 = .ok (.iastore, 1) := by decide +kernel
theorem dX11_readsLine_31 : decode cX11_readsLine 31 = .ok (.aload_n 0, 1) := by decide +kernel
theorem dX11_readsLine_32 : decode cX11_readsLine 32 = .ok (.iload_n 1, 1) := by decide +kernel
theorem dX11_readsLine_33 : decode cX11_readsLine 33 = .ok (.invokevirtual 140, 3) := by decide +kernel
theorem dX11_readsLine_36 : decode cX11_readsLine 36 = .ok (.ifCond .ne 5, 3) := by decide +kernel
theorem dX11_readsLine_39 : decode cX11_readsLine 39 = .ok (.iconst 0, 1) := by decide +kernel
theorem dX11_readsLine_40 : decode cX11_readsLine 40 = .ok (.ireturn, 1) := by decide +kernel
theorem dX11_readsLine_41 : decode cX11_readsLine 41 = .ok (.iload_n 1, 1) := by decide +kernel
theorem dX11_readsLine_42 : decode cX11_readsLine 42 = .ok (.ifCond .ne 30, 3) := by decide +kernel
theorem dX11_readsLine_45 : decode cX11_readsLine 45 = .ok (.aload_n 0, 1) := by decide +kernel
theorem dX11_readsLine_46 : decode cX11_readsLine 46 = .ok (.aload_n 0, 1) := by decide +kernel
theorem dX11_readsLine_47 : decode cX11_readsLine 47 = .ok (.getfield 20, 3) := by decide +kernel
theorem dX11_readsLine_50 : decode cX11_readsLine 50 = .ok (.iload_n 2, 1) := by decide +kernel
theorem dX11_readsLine_51 : decode cX11_readsLine 51 = .ok (.iconst 1, 1) := by decide +kernel
theorem dX11_readsLine_52 : decode cX11_readsLine 52 = .ok (.iadd, 1) := by decide +kernel
theorem dX11_readsLine_53 : decode cX11_readsLine 53 = .ok (.iaload, 1) := by decide +kernel
theorem dX11_readsLine_54 : decode cX11_readsLine 54 = .ok (.putfield 126, 3) := by decide +kernel
theorem dX11_readsLine_57 : decode cX11_readsLine 57 = .ok (.aload_n 0, 1) := by decide +kernel
theorem dX11_readsLine_58 : decode cX11_readsLine 58 = .ok (.aload_n 0, 1) := by decide +kernel
theorem dX11_readsLine_59 : decode cX11_readsLine 59 = .ok (.getfield 20, 3) := by decide +kernel
theorem dX11_readsLine_62 : decode cX11_readsLine 62 = .ok (.iload_n 2, 1) := by decide +kernel
theorem dX11_readsLine_63 : decode cX11_readsLine 63 = .ok (.iconst 2, 1) := by decide +kernel
theorem dX11_readsLine_64 : decode cX11_readsLine 64 = .ok (.iadd, 1) := by decide +kernel
theorem dX11_readsLine_65 : decode cX11_readsLine 65 = .ok (.iaload, 1) := by decide +kernel
theorem dX11_readsLine_66 : decode cX11_readsLine 66 = .ok (.putfield 129, 3) := by decide +kernel
theorem dX11_readsLine_69 : decode cX11_readsLine 69 = .ok (.goto 74, 3) := by decide +kernel
theorem dX11_readsLine_72 : decode cX11_readsLine 72 = .ok (.iload_n 1, 1) := by decide +kernel
theorem dX11_readsLine_73 : decode cX11_readsLine 73 = .ok (.iconst 1, 1) := by decide +kernel
theorem dX11_readsLine_74 : decode cX11_readsLine 74 = .ok (.if_icmp .ne 69, 3) := by decide +kernel
theorem dX11_readsLine_77 : decode cX11_readsLine 77 = .ok (.aload_n 0, 1) := by decide +kernel
theorem dX11_readsLine_78 : decode cX11_readsLine 78 = .ok (.getfield 42, 3) := by decide +kernel
theorem dX11_readsLine_81 : decode cX11_readsLine 81 = .ok (.iconst 2, 1) := by decide +kernel
theorem dX11_readsLine_82 : decode cX11_readsLine 82 = .ok (.aload_n 0, 1) := by decide +kernel
theorem dX11_readsLine_83 : decode cX11_readsLine 83 = .ok (.getfield 20, 3) := by decide +kernel
theorem dX11_readsLine_86 : decode cX11_readsLine 86 = .ok (.iload_n 2, 1) := by decide +kernel
theorem dX11_readsLine_87 : decode cX11_readsLine 87 = .ok (.iconst 1, 1) := by decide +kernel
theorem dX11_readsLine_88 : decode cX11_readsLine 88 = .ok (.iadd, 1) := by decide +kernel
theorem dX11_readsLine_89 : decode cX11_readsLine 89 = .ok (.iaload, 1) := by decide +kernel
theorem dX11_readsLine_90 : decode cX11_readsLine 90 = .ok (.imul, 1) := by decide +kernel
theorem dX11_readsLine_91 : decode cX11_readsLine 91 = .ok (.aload_n 0, 1) := by decide +kernel
theorem dX11_readsLine_92 : decode cX11_readsLine 92 = .ok (.getfield 20, 3) := by decide +kernel
theorem dX11_readsLine_95 : decode cX11_readsLine 95 = .ok (.iload_n 2, 1) := by decide +kernel
theorem dX11_readsLine_96 : decode cX11_readsLine 96 = .ok (.iconst 3, 1) := by decide +kernel
theorem dX11_readsLine_97 : decode cX11_readsLine 97 = .ok (.iadd, 1) := by decide +kernel
theorem dX11_readsLine_98 : decode cX11_readsLine 98 = .ok (.iaload, 1) := by decide +kernel
theorem dX11_readsLine_99 : decode cX11_readsLine 99 = .ok (.iconst (-1), 1) := by decide +kernel
theorem dX11_readsLine_100 : decode cX11_readsLine 100 = .ok (.if_icmp .eq 7, 3) := by decide +kernel
theorem dX11_readsLine_103 : decode cX11_readsLine 103 = .ok (.iconst 1, 1) := by decide +kernel
theorem dX11_readsLine_104 : decode cX11_readsLine 104 = .ok (.goto 4, 3) := by decide +kernel
theorem dX11_readsLine_107 : decode cX11_readsLine 107 = .ok (.iconst 0, 1) := by decide +kernel
theorem dX11_readsLine_108 : decode cX11_readsLine 108 = .ok (.bastore, 1) := by decide +kernel
theorem dX11_readsLine_109 : decode cX11_readsLine 109 = .ok (.aload_n 0, 1) := by decide +kernel
theorem dX11_readsLine_110 : decode cX11_readsLine 110 = .ok (.getfield 42, 3) := by decide +kernel
theorem dX11_readsLine_113 : decode cX11_readsLine 113 = .ok (.iconst 2, 1) := by decide +kernel
theorem dX11_readsLine_114 : decode cX11_readsLine 114 = .ok (.aload_n 0, 1) := by decide +kernel
theorem dX11_readsLine_115 : decode cX11_readsLine 115 = .ok (.getfield 20, 3) := by decide +kernel
theorem dX11_readsLine_118 : decode cX11_readsLine 118 = .ok (.iload_n 2, 1) := by decide +kernel
theorem dX11_readsLine_119 : decode cX11_readsLine 119 = .ok (.iconst 1, 1) := by decide +kernel
theorem dX11_readsLine_120 : decode cX11_readsLine 120 = .ok (.iadd, 1) := by decide +kernel
theorem dX11_readsLine_121 : decode cX11_readsLine 121 = .ok (.iaload, 1) := by decide +kernel
theorem dX11_readsLine_122 : decode cX11_readsLine 122 = .ok (.imul, 1) := by decide +kernel
theorem dX11_readsLine_123 : decode cX11_readsLine 123 = .ok (.iconst 1, 1) := by decide +kernel
theorem dX11_readsLine_124 : decode cX11_readsLine 124 = .ok (.iadd, 1) := by decide +kernel
theorem dX11_readsLine_125 : decode cX11_readsLine 125 = .ok (.aload_n 0, 1) := by decide +kernel
theorem dX11_readsLine_126 : decode cX11_readsLine 126 = .ok (.getfield 20, 3) := by decide +kernel
theorem dX11_readsLine_129 : decode cX11_readsLine 129 = .ok (.iload_n 2, 1) := by decide +kernel
theorem dX11_readsLine_130 : decode cX11_readsLine 130 = .ok (.iconst 4, 1) := by decide +kernel
theorem dX11_readsLine_131 : decode cX11_readsLine 131 = .ok (.iadd, 1) := by decide +kernel
theorem dX11_readsLine_132 : decode cX11_readsLine 132 = .ok (.iaload, 1) := by decide +kernel
theorem dX11_readsLine_133 : decode cX11_readsLine 133 = .ok (.iconst (-1), 1) := by decide +kernel
theorem dX11_readsLine_134 : decode cX11_readsLine 134 = .ok (.if_icmp .eq 7, 3) := by decide +kernel
theorem dX11_readsLine_137 : decode cX11_readsLine 137 = .ok (.iconst 1, 1) := by decide +kernel
theorem dX11_readsLine_138 : decode cX11_readsLine 138 = .ok (.goto 4, 3) := by decide +kernel
theorem dX11_readsLine_141 : decode cX11_readsLine 141 = .ok (.iconst 0, 1) := by decide +kernel
theorem dX11_readsLine_142 : decode cX11_readsLine 142 = .ok (.bastore, 1) := by decide +kernel
theorem dX11_readsLine_143 : decode cX11_readsLine 143 = .ok (.aload_n 0, 1) := by decide +kernel
theorem dX11_readsLine_144 : decode cX11_readsLine 144 = .ok (.dup, 1) := by decide +kernel
theorem dX11_readsLine_145 : decode cX11_readsLine 145 = .ok (.getfield 112, 3) := by decide +kernel
theorem dX11_readsLine_148 : decode cX11_readsLine 148 = .ok (.iconst 1, 1) := by decide +kernel
theorem dX11_readsLine_149 : decode cX11_readsLine 149 = .ok (.iadd, 1) := by decide +kernel
theorem dX11_readsLine_150 : decode cX11_readsLine 150 = .ok (.putfield 112, 3) := by decide +kernel
theorem dX11_readsLine_153 : decode cX11_readsLine 153 = .ok (.iconst 1, 1) := by decide +kernel
theorem dX11_readsLine_154 : decode cX11_readsLine 154 = .ok (.ireturn, 1) := by decide +kernel
theorem dX11_fault_0 : decode cX11_fault 0 = .ok (.aload_n 0, 1) := by decide +kernel
theorem dX11_fault_1 : decode cX11_fault 1 = .ok (.iconst 0, 1) := by decide +kernel
theorem dX11_fault_2 : decode cX11_fault 2 = .ok (.putfield 89, 3) := by decide +kernel
theorem dX11_fault_5 : decode cX11_fault 5 = .ok (.aload_n 0, 1) := by decide +kernel
theorem dX11_fault_6 : decode cX11_fault 6 = .ok (.iconst 0, 1) := by decide +kernel
theorem dX11_fault_7 : decode cX11_fault 7 = .ok (.putfield 112, 3) := by decide +kernel
theorem dX11_fault_10 : decode cX11_fault 10 = .ok (.aload_n 0, 1) := by decide +kernel
theorem dX11_fault_11 : decode cX11_fault 11 = .ok (.aload_n 0, 1) := by decide +kernel
theorem dX11_fault_12 : decode cX11_fault 12 = .ok (.getfield 23, 3) := by decide +kernel
theorem dX11_fault_15 : decode cX11_fault 15 = .ok (.putfield 126, 3) := by decide +kernel
theorem dX11_fault_18 : decode cX11_fault 18 = .ok (.aload_n 0, 1) := by decide +kernel
theorem dX11_fault_19 : decode cX11_fault 19 = .ok (.aload_n 0, 1) := by decide +kernel
theorem dX11_fault_20 : decode cX11_fault 20 = .ok (.getfield 27, 3) := by decide +kernel
theorem dX11_fault_23 : decode cX11_fault 23 = .ok (.putfield 129, 3) := by decide +kernel
theorem dX11_fault_26 : decode cX11_fault 26 = .ok (.iconst 0, 1) := by decide +kernel
theorem dX11_fault_27 : decode cX11_fault 27 = .ok (.istore_n 1, 1) := by decide +kernel
theorem dX11_fault_28 : decode cX11_fault 28 = .ok (.iload_n 1, 1) := by decide +kernel
theorem dX11_fault_29 : decode cX11_fault 29 = .ok (.iconst 5, 1) := by decide +kernel
theorem dX11_fault_30 : decode cX11_fault 30 = .ok (.if_icmp .ge 65, 3) := by decide +kernel
theorem dX11_fault_33 : decode cX11_fault 33 = .ok (.aload_n 0, 1) := by decide +kernel
theorem dX11_fault_34 : decode cX11_fault 34 = .ok (.getfield 42, 3) := by decide +kernel
theorem dX11_fault_37 : decode cX11_fault 37 = .ok (.iconst 2, 1) := by decide +kernel
theorem dX11_fault_38 : decode cX11_fault 38 = .ok (.iload_n 1, 1) := by decide +kernel
theorem dX11_fault_39 : decode cX11_fault 39 = .ok (.imul, 1) := by decide +kernel
theorem dX11_fault_40 : decode cX11_fault 40 = .ok (.aload_n 0, 1) := by decide +kernel
theorem dX11_fault_41 : decode cX11_fault 41 = .ok (.getfield 30, 3) := by decide +kernel
theorem dX11_fault_44 : decode cX11_fault 44 = .ok (.iconst 4, 1) := by decide +kernel
theorem dX11_fault_45 : decode cX11_fault 45 = .ok (.iload_n 1, 1) := by decide +kernel
theorem dX11_fault_46 : decode cX11_fault 46 = .ok (.imul, 1) := by decide +kernel
theorem dX11_fault_47 : decode cX11_fault 47 = .ok (.iconst 1, 1) := by decide +kernel
theorem dX11_fault_48 : decode cX11_fault 48 = .ok (.iadd, 1) := by decide +kernel
theorem dX11_fault_49 : decode cX11_fault 49 = .ok (.iaload, 1) := by decide +kernel
theorem dX11_fault_50 : decode cX11_fault 50 = .ok (.iconst (-1), 1) := by decide +kernel
theorem dX11_fault_51 : decode cX11_fault 51 = .ok (.if_icmp .eq 7, 3) := by decide +kernel
theorem dX11_fault_54 : decode cX11_fault 54 = .ok (.iconst 1, 1) := by decide +kernel
theorem dX11_fault_55 : decode cX11_fault 55 = .ok (.goto 4, 3) := by decide +kernel
theorem dX11_fault_58 : decode cX11_fault 58 = .ok (.iconst 0, 1) := by decide +kernel
theorem dX11_fault_59 : decode cX11_fault 59 = .ok (.bastore, 1) := by decide +kernel
theorem dX11_fault_60 : decode cX11_fault 60 = .ok (.aload_n 0, 1) := by decide +kernel
theorem dX11_fault_61 : decode cX11_fault 61 = .ok (.getfield 42, 3) := by decide +kernel
theorem dX11_fault_64 : decode cX11_fault 64 = .ok (.iconst 2, 1) := by decide +kernel
theorem dX11_fault_65 : decode cX11_fault 65 = .ok (.iload_n 1, 1) := by decide +kernel
theorem dX11_fault_66 : decode cX11_fault 66 = .ok (.imul, 1) := by decide +kernel
theorem dX11_fault_67 : decode cX11_fault 67 = .ok (.iconst 1, 1) := by decide +kernel
theorem dX11_fault_68 : decode cX11_fault 68 = .ok (.iadd, 1) := by decide +kernel
theorem dX11_fault_69 : decode cX11_fault 69 = .ok (.aload_n 0, 1) := by decide +kernel
theorem dX11_fault_70 : decode cX11_fault 70 = .ok (.getfield 30, 3) := by decide +kernel
theorem dX11_fault_73 : decode cX11_fault 73 = .ok (.iconst 4, 1) := by decide +kernel
theorem dX11_fault_74 : decode cX11_fault 74 = .ok (.iload_n 1, 1) := by decide +kernel
theorem dX11_fault_75 : decode cX11_fault 75 = .ok (.imul, 1) := by decide +kernel
theorem dX11_fault_76 : decode cX11_fault 76 = .ok (.iconst 2, 1) := by decide +kernel
theorem dX11_fault_77 : decode cX11_fault 77 = .ok (.iadd, 1) := by decide +kernel
theorem dX11_fault_78 : decode cX11_fault 78 = .ok (.iaload, 1) := by decide +kernel
theorem dX11_fault_79 : decode cX11_fault 79 = .ok (.iconst (-1), 1) := by decide +kernel
theorem dX11_fault_80 : decode cX11_fault 80 = .ok (.if_icmp .eq 7, 3) := by decide +kernel
theorem dX11_fault_83 : decode cX11_fault 83 = .ok (.iconst 1, 1) := by decide +kernel
theorem dX11_fault_84 : decode cX11_fault 84 = .ok (.goto 4, 3) := by decide +kernel
theorem dX11_fault_87 : decode cX11_fault 87 = .ok (.iconst 0, 1) := by decide +kernel
theorem dX11_fault_88 : decode cX11_fault 88 = .ok (.bastore, 1) := by decide +kernel
theorem dX11_fault_89 : decode cX11_fault 89 = .ok (.iinc 1 1, 3) := by decide +kernel
theorem dX11_fault_92 : decode cX11_fault 92 = .ok (.goto (-64), 3) := by decide +kernel
theorem dX11_fault_95 : decode cX11_fault 95 = .ok (.aload_n 0, 1) := by decide +kernel
theorem dX11_fault_96 : decode cX11_fault 96 = .ok (.invokevirtual 115, 3) := by decide +kernel
theorem dX11_fault_99 : decode cX11_fault 99 = .ok (.aload_n 0, 1) := by decide +kernel
theorem dX11_fault_100 : decode cX11_fault 100 = .ok (.invokevirtual 143, 3) := by decide +kernel
theorem dX11_fault_103 : decode cX11_fault 103 = .ok (.ifCond .ne 8, 3) := by decide +kernel
theorem dX11_fault_106 : decode cX11_fault 106 = .ok (.aload_n 0, 1) := by decide +kernel
theorem dX11_fault_107 : decode cX11_fault 107 = .ok (.getfield 92, 3) := by decide +kernel
theorem dX11_fault_110 : decode cX11_fault 110 = .ok (.ireturn, 1) := by decide +kernel
theorem dX11_fault_111 : decode cX11_fault 111 = .ok (.aload_n 0, 1) := by decide +kernel
theorem dX11_fault_112 : decode cX11_fault 112 = .ok (.getfield 92, 3) := by decide +kernel
theorem dX11_fault_115 : decode cX11_fault 115 = .ok (.aload_n 0, 1) := by decide +kernel
theorem dX11_fault_116 : decode cX11_fault 116 = .ok (.getfield 84, 3) := by decide +kernel
theorem dX11_fault_119 : decode cX11_fault 119 = .ok (.if_icmp .ge 70, 3) := by decide +kernel
theorem dX11_fault_122 : decode cX11_fault 122 = .ok (.aload_n 0, 1) := by decide +kernel
theorem dX11_fault_123 : decode cX11_fault 123 = .ok (.getfield 99, 3) := by decide +kernel
theorem dX11_fault_126 : decode cX11_fault 126 = .ok (.aload_n 0, 1) := by decide +kernel
theorem dX11_fault_127 : decode cX11_fault 127 = .ok (.getfield 92, 3) := by decide +kernel
theorem dX11_fault_130 : decode cX11_fault 130 = .ok (.isub, 1) := by decide +kernel
theorem dX11_fault_131 : decode cX11_fault 131 = .ok (.iconst 1, 1) := by decide +kernel
theorem dX11_fault_132 : decode cX11_fault 132 = .ok (.if_icmp .ne 30, 3) := by decide +kernel
theorem dX11_fault_135 : decode cX11_fault 135 = .ok (.aload_n 0, 1) := by decide +kernel
theorem dX11_fault_136 : decode cX11_fault 136 = .ok (.getfield 17, 3) := by decide +kernel
theorem dX11_fault_139 : decode cX11_fault 139 = .ok (.aload_n 0, 1) := by decide +kernel
theorem dX11_fault_140 : decode cX11_fault 140 = .ok (.getfield 92, 3) := by decide +kernel
theorem dX11_fault_143 : decode cX11_fault 143 = .ok (.iaload, 1) := by decide +kernel
theorem dX11_fault_144 : decode cX11_fault 144 = .ok (.bipush 59, 2) := by decide +kernel
theorem dX11_fault_146 : decode cX11_fault 146 = .ok (.if_icmp .ne 16, 3) := by decide +kernel
theorem dX11_fault_149 : decode cX11_fault 149 = .ok (.aload_n 0, 1) := by decide +kernel
theorem dX11_fault_150 : decode cX11_fault 150 = .ok (.getfield 112, 3) := by decide +kernel
theorem dX11_fault_153 : decode cX11_fault 153 = .ok (.bipush 10, 2) := by decide +kernel
theorem dX11_fault_155 : decode cX11_fault 155 = .ok (.if_icmp .ge 7, 3) := by decide +kernel
theorem dX11_fault_158 : decode cX11_fault 158 = .ok (.iconst 1, 1) := by decide +kernel
theorem dX11_fault_159 : decode cX11_fault 159 = .ok (.goto 4, 3) := by decide +kernel
theorem dX11_fault_162 : decode cX11_fault 162 = .ok (.iconst 0, 1) := by decide +kernel
theorem dX11_fault_163 : decode cX11_fault 163 = .ok (.istore_n 1, 1) := by decide +kernel
theorem dX11_fault_164 : decode cX11_fault 164 = .ok (.iload_n 1, 1) := by decide +kernel
theorem dX11_fault_165 : decode cX11_fault 165 = .ok (.ifCond .eq 12, 3) := by decide +kernel
theorem dX11_fault_168 : decode cX11_fault 168 = .ok (.aload_n 0, 1) := by decide +kernel
theorem dX11_fault_169 : decode cX11_fault 169 = .ok (.invokevirtual 115, 3) := by decide +kernel
theorem dX11_fault_172 : decode cX11_fault 172 = .ok (.aload_n 0, 1) := by decide +kernel
theorem dX11_fault_173 : decode cX11_fault 173 = .ok (.invokevirtual 143, 3) := by decide +kernel
theorem dX11_fault_176 : decode cX11_fault 176 = .ok (.istore_n 1, 1) := by decide +kernel
theorem dX11_fault_177 : decode cX11_fault 177 = .ok (.iload_n 1, 1) := by decide +kernel
theorem dX11_fault_178 : decode cX11_fault 178 = .ok (.ifCond .ne 8, 3) := by decide +kernel
theorem dX11_fault_181 : decode cX11_fault 181 = .ok (.aload_n 0, 1) := by decide +kernel
theorem dX11_fault_182 : decode cX11_fault 182 = .ok (.getfield 92, 3) := by decide +kernel
theorem dX11_fault_185 : decode cX11_fault 185 = .ok (.ireturn, 1) := by decide +kernel
theorem dX11_fault_186 : decode cX11_fault 186 = .ok (.goto (-75), 3) := by decide +kernel
theorem dX11_fault_189 : decode cX11_fault 189 = .ok (.iconst (-1), 1) := by decide +kernel
theorem dX11_fault_190 : decode cX11_fault 190 = .ok (.ireturn, 1) := by decide +kernel
theorem dX11_meantAt_0 : decode cX11_meantAt 0 = .ok (.bipush 48, 2) := by decide +kernel
theorem dX11_meantAt_2 : decode cX11_meantAt 2 = .ok (.iload_n 0, 1) := by decide +kernel
theorem dX11_meantAt_3 : decode cX11_meantAt 3 = .ok (.imul, 1) := by decide +kernel
theorem dX11_meantAt_4 : decode cX11_meantAt 4 = .ok (.bipush 24, 2) := by decide +kernel
theorem dX11_meantAt_6 : decode cX11_meantAt 6 = .ok (.iload_n 1, 1) := by decide +kernel
theorem dX11_meantAt_7 : decode cX11_meantAt 7 = .ok (.imul, 1) := by decide +kernel
theorem dX11_meantAt_8 : decode cX11_meantAt 8 = .ok (.iadd, 1) := by decide +kernel
theorem dX11_meantAt_9 : decode cX11_meantAt 9 = .ok (.iconst 4, 1) := by decide +kernel
theorem dX11_meantAt_10 : decode cX11_meantAt 10 = .ok (.iload_n 2, 1) := by decide +kernel
theorem dX11_meantAt_11 : decode cX11_meantAt 11 = .ok (.imul, 1) := by decide +kernel
theorem dX11_meantAt_12 : decode cX11_meantAt 12 = .ok (.iadd, 1) := by decide +kernel
theorem dX11_meantAt_13 : decode cX11_meantAt 13 = .ok (.iload_n 3, 1) := by decide +kernel
theorem dX11_meantAt_14 : decode cX11_meantAt 14 = .ok (.iadd, 1) := by decide +kernel
theorem dX11_meantAt_15 : decode cX11_meantAt 15 = .ok (.ireturn, 1) := by decide +kernel
theorem dX11_tell_0 : decode cX11_tell 0 = .ok (.aload_n 0, 1) := by decide +kernel
theorem dX11_tell_1 : decode cX11_tell 1 = .ok (.getfield 20, 3) := by decide +kernel
theorem dX11_tell_4 : decode cX11_tell 4 = .ok (.iload_n 1, 1) := by decide +kernel
theorem dX11_tell_5 : decode cX11_tell 5 = .ok (.iconst 1, 1) := by decide +kernel
theorem dX11_tell_6 : decode cX11_tell 6 = .ok (.iadd, 1) := by decide +kernel
theorem dX11_tell_7 : decode cX11_tell 7 = .ok (.iaload, 1) := by decide +kernel
theorem dX11_tell_8 : decode cX11_tell 8 = .ok (.istore_n 2, 1) := by decide +kernel
theorem dX11_tell_9 : decode cX11_tell 9 = .ok (.aload_n 0, 1) := by decide +kernel
theorem dX11_tell_10 : decode cX11_tell 10 = .ok (.getfield 20, 3) := by decide +kernel
theorem dX11_tell_13 : decode cX11_tell 13 = .ok (.iload_n 1, 1) := by decide +kernel
theorem dX11_tell_14 : decode cX11_tell 14 = .ok (.iconst 2, 1) := by decide +kernel
theorem dX11_tell_15 : decode cX11_tell 15 = .ok (.iadd, 1) := by decide +kernel
theorem dX11_tell_16 : decode cX11_tell 16 = .ok (.iaload, 1) := by decide +kernel
theorem dX11_tell_17 : decode cX11_tell 17 = .ok (.istore_n 3, 1) := by decide +kernel
theorem dX11_tell_18 : decode cX11_tell 18 = .ok (.aload_n 0, 1) := by decide +kernel
theorem dX11_tell_19 : decode cX11_tell 19 = .ok (.getfield 20, 3) := by decide +kernel
theorem dX11_tell_22 : decode cX11_tell 22 = .ok (.iload_n 1, 1) := by decide +kernel
theorem dX11_tell_23 : decode cX11_tell 23 = .ok (.iaload, 1) := by decide +kernel
theorem dX11_tell_24 : decode cX11_tell 24 = .ok (.tableswitch 182 0 4 #[36, 95, 133, 141, 176], 36) := by decide +kernel
theorem dX11_tell_60 : decode cX11_tell 60 = .ok (.aload_n 0, 1) := by decide +kernel
theorem dX11_tell_61 : decode cX11_tell 61 = .ok (.iload_n 2, 1) := by decide +kernel
theorem dX11_tell_62 : decode cX11_tell 62 = .ok (.putfield 23, 3) := by decide +kernel
theorem dX11_tell_65 : decode cX11_tell 65 = .ok (.aload_n 0, 1) := by decide +kernel
theorem dX11_tell_66 : decode cX11_tell 66 = .ok (.iload_n 3, 1) := by decide +kernel
theorem dX11_tell_67 : decode cX11_tell 67 = .ok (.putfield 27, 3) := by decide +kernel
theorem dX11_tell_70 : decode cX11_tell 70 = .ok (.iconst 0, 1) := by decide +kernel
theorem dX11_tell_71 : decode cX11_tell 71 = .ok (.istore 4, 2) := by decide +kernel
theorem dX11_tell_73 : decode cX11_tell 73 = .ok (.iload 4, 2) := by decide +kernel
theorem dX11_tell_75 : decode cX11_tell 75 = .ok (.bipush 6, 2) := by decide +kernel
theorem dX11_tell_77 : decode cX11_tell 77 = .ok (.if_icmp .ge 17, 3) := by decide +kernel
theorem dX11_tell_80 : decode cX11_tell 80 = .ok (.aload_n 0, 1) := by decide +kernel
theorem dX11_tell_81 : decode cX11_tell 81 = .ok (.getfield 33, 3) := by decide +kernel
theorem dX11_tell_84 : decode cX11_tell 84 = .ok (.iload 4, 2) := by decide +kernel
theorem dX11_tell_86 : decode cX11_tell 86 = .ok (.iconst 0, 1) := by decide +kernel
theorem dX11_tell_87 : decode cX11_tell 87 = .ok (.iastore, 1) := by decide +kernel
theorem dX11_tell_88 : decode cX11_tell 88 = .ok (.iinc 4 1, 3) := by decide +kernel
theorem dX11_tell_91 : decode cX11_tell 91 = .ok (.goto (-18), 3) := by decide +kernel
theorem dX11_tell_94 : decode cX11_tell 94 = .ok (.iconst 0, 1) := by decide +kernel
theorem dX11_tell_95 : decode cX11_tell 95 = .ok (.istore 4, 2) := by decide +kernel
theorem dX11_tell_97 : decode cX11_tell 97 = .ok (.iload 4, 2) := by decide +kernel
theorem dX11_tell_99 : decode cX11_tell 99 = .ok (.bipush 96, 2) := by decide +kernel
theorem dX11_tell_101 : decode cX11_tell 101 = .ok (.if_icmp .ge 17, 3) := by decide +kernel
theorem dX11_tell_104 : decode cX11_tell 104 = .ok (.aload_n 0, 1) := by decide +kernel
theorem dX11_tell_105 : decode cX11_tell 105 = .ok (.getfield 36, 3) := by decide +kernel
theorem dX11_tell_108 : decode cX11_tell 108 = .ok (.iload 4, 2) := by decide +kernel
theorem dX11_tell_110 : decode cX11_tell 110 = .ok (.iconst 5, 1) := by decide +kernel
theorem dX11_tell_111 : decode cX11_tell 111 = .ok (.iastore, 1) := by decide +kernel
theorem dX11_tell_112 : decode cX11_tell 112 = .ok (.iinc 4 1, 3) := by decide +kernel
theorem dX11_tell_115 : decode cX11_tell 115 = .ok (.goto (-18), 3) := by decide +kernel
theorem dX11_tell_118 : decode cX11_tell 118 = .ok (.return_, 1) := by decide +kernel
theorem dX11_tell_119 : decode cX11_tell 119 = .ok (.iconst 0, 1) := by decide +kernel
theorem dX11_tell_120 : decode cX11_tell 120 = .ok (.istore 4, 2) := by decide +kernel
theorem dX11_tell_122 : decode cX11_tell 122 = .ok (.iload 4, 2) := by decide +kernel
theorem dX11_tell_124 : decode cX11_tell 124 = .ok (.iconst 4, 1) := by decide +kernel
theorem dX11_tell_125 : decode cX11_tell 125 = .ok (.if_icmp .ge 31, 3) := by decide +kernel
theorem dX11_tell_128 : decode cX11_tell 128 = .ok (.aload_n 0, 1) := by decide +kernel
theorem dX11_tell_129 : decode cX11_tell 129 = .ok (.getfield 30, 3) := by decide +kernel
theorem dX11_tell_132 : decode cX11_tell 132 = .ok (.iconst 4, 1) := by decide +kernel
theorem dX11_tell_133 : decode cX11_tell 133 = .ok (.iload_n 2, 1) := by decide +kernel
theorem dX11_tell_134 : decode cX11_tell 134 = .ok (.imul, 1) := by decide +kernel
theorem dX11_tell_135 : decode cX11_tell 135 = .ok (.iload 4, 2) := by decide +kernel
theorem dX11_tell_137 : decode cX11_tell 137 = .ok (.iadd, 1) := by decide +kernel
theorem dX11_tell_138 : decode cX11_tell 138 = .ok (.aload_n 0, 1) := by decide +kernel
theorem dX11_tell_139 : decode cX11_tell 139 = .ok (.getfield 20, 3) := by decide +kernel
theorem dX11_tell_142 : decode cX11_tell 142 = .ok (.iload_n 1, 1) := by decide +kernel
theorem dX11_tell_143 : decode cX11_tell 143 = .ok (.iconst 2, 1) := by decide +kernel
theorem dX11_tell_144 : decode cX11_tell 144 = .ok (.iadd, 1) := by decide +kernel
theorem dX11_tell_145 : decode cX11_tell 145 = .ok (.iload 4, 2) := by decide +kernel
theorem dX11_tell_147 : decode cX11_tell 147 = .ok (.iadd, 1) := by decide +kernel
theorem dX11_tell_148 : decode cX11_tell 148 = .ok (.iaload, 1) := by decide +kernel
theorem dX11_tell_149 : decode cX11_tell 149 = .ok (.iastore, 1) := by decide +kernel
theorem dX11_tell_150 : decode cX11_tell 150 = .ok (.iinc 4 1, 3) := by decide +kernel
theorem dX11_tell_153 : decode cX11_tell 153 = .ok (.goto (-31), 3) := by decide +kernel
theorem dX11_tell_156 : decode cX11_tell 156 = .ok (.return_, 1) := by decide +kernel
theorem dX11_tell_157 : decode cX11_tell 157 = .ok (.aload_n 0, 1) := by decide +kernel
theorem dX11_tell_158 : decode cX11_tell 158 = .ok (.getfield 33, 3) := by decide +kernel
theorem dX11_tell_161 : decode cX11_tell 161 = .ok (.iload_n 2, 1) := by decide +kernel
theorem dX11_tell_162 : decode cX11_tell 162 = .ok (.iload_n 3, 1) := by decide +kernel
theorem dX11_tell_163 : decode cX11_tell 163 = .ok (.iastore, 1) := by decide +kernel
theorem dX11_tell_164 : decode cX11_tell 164 = .ok (.return_, 1) := by decide +kernel
theorem dX11_tell_165 : decode cX11_tell 165 = .ok (.aload_n 0, 1) := by decide +kernel
theorem dX11_tell_166 : decode cX11_tell 166 = .ok (.getfield 36, 3) := by decide +kernel
theorem dX11_tell_169 : decode cX11_tell 169 = .ok (.iload_n 2, 1) := by decide +kernel
theorem dX11_tell_170 : decode cX11_tell 170 = .ok (.iload_n 3, 1) := by decide +kernel
theorem dX11_tell_171 : decode cX11_tell 171 = .ok (.aload_n 0, 1) := by decide +kernel
theorem dX11_tell_172 : decode cX11_tell 172 = .ok (.getfield 20, 3) := by decide +kernel
theorem dX11_tell_175 : decode cX11_tell 175 = .ok (.iload_n 1, 1) := by decide +kernel
theorem dX11_tell_176 : decode cX11_tell 176 = .ok (.iconst 3, 1) := by decide +kernel
theorem dX11_tell_177 : decode cX11_tell 177 = .ok (.iadd, 1) := by decide +kernel
theorem dX11_tell_178 : decode cX11_tell 178 = .ok (.iaload, 1) := by decide +kernel
theorem dX11_tell_179 : decode cX11_tell 179 = .ok (.aload_n 0, 1) := by decide +kernel
theorem dX11_tell_180 : decode cX11_tell 180 = .ok (.getfield 20, 3) := by decide +kernel
theorem dX11_tell_183 : decode cX11_tell 183 = .ok (.iload_n 1, 1) := by decide +kernel
theorem dX11_tell_184 : decode cX11_tell 184 = .ok (.iconst 4, 1) := by decide +kernel
theorem dX11_tell_185 : decode cX11_tell 185 = .ok (.iadd, 1) := by decide +kernel
theorem dX11_tell_186 : decode cX11_tell 186 = .ok (.iaload, 1) := by decide +kernel
theorem dX11_tell_187 : decode cX11_tell 187 = .ok (.invokestatic 146, 3) := by decide +kernel
theorem dX11_tell_190 : decode cX11_tell 190 = .ok (.aload_n 0, 1) := by decide +kernel
theorem dX11_tell_191 : decode cX11_tell 191 = .ok (.getfield 20, 3) := by decide +kernel
theorem dX11_tell_194 : decode cX11_tell 194 = .ok (.iload_n 1, 1) := by decide +kernel
theorem dX11_tell_195 : decode cX11_tell 195 = .ok (.iconst 5, 1) := by decide +kernel
theorem dX11_tell_196 : decode cX11_tell 196 = .ok (.iadd, 1) := by decide +kernel
theorem dX11_tell_197 : decode cX11_tell 197 = .ok (.iaload, 1) := by decide +kernel
theorem dX11_tell_198 : decode cX11_tell 198 = .ok (.iastore, 1) := by decide +kernel
theorem dX11_tell_199 : decode cX11_tell 199 = .ok (.return_, 1) := by decide +kernel
theorem dX11_tell_200 : decode cX11_tell 200 = .ok (.aload_n 0, 1) := by decide +kernel
theorem dX11_tell_201 : decode cX11_tell 201 = .ok (.iload_n 2, 1) := by decide +kernel
theorem dX11_tell_202 : decode cX11_tell 202 = .ok (.putfield 150, 3) := by decide +kernel
theorem dX11_tell_205 : decode cX11_tell 205 = .ok (.return_, 1) := by decide +kernel
theorem dX11_tell_206 : decode cX11_tell 206 = .ok (.aload_n 0, 1) := by decide +kernel
theorem dX11_tell_207 : decode cX11_tell 207 = .ok (.iload_n 2, 1) := by decide +kernel
theorem dX11_tell_208 : decode cX11_tell 208 = .ok (.putfield 39, 3) := by decide +kernel
theorem dX11_tell_211 : decode cX11_tell 211 = .ok (.return_, 1) := by decide +kernel
theorem dX11_treaty_0 : decode cX11_treaty 0 = .ok (.aload_n 0, 1) := by decide +kernel
theorem dX11_treaty_1 : decode cX11_treaty 1 = .ok (.invokevirtual 153, 3) := by decide +kernel
theorem dX11_treaty_4 : decode cX11_treaty 4 = .ok (.iconst (-1), 1) := by decide +kernel
theorem dX11_treaty_5 : decode cX11_treaty 5 = .ok (.if_icmp .eq 6, 3) := by decide +kernel
theorem dX11_treaty_8 : decode cX11_treaty 8 = .ok (.bipush (-4), 2) := by decide +kernel
theorem dX11_treaty_10 : decode cX11_treaty 10 = .ok (.ireturn, 1) := by decide +kernel
theorem dX11_treaty_11 : decode cX11_treaty 11 = .ok (.iconst 0, 1) := by decide +kernel
theorem dX11_treaty_12 : decode cX11_treaty 12 = .ok (.istore_n 1, 1) := by decide +kernel
theorem dX11_treaty_13 : decode cX11_treaty 13 = .ok (.iload_n 1, 1) := by decide +kernel
theorem dX11_treaty_14 : decode cX11_treaty 14 = .ok (.aload_n 0, 1) := by decide +kernel
theorem dX11_treaty_15 : decode cX11_treaty 15 = .ok (.getfield 112, 3) := by decide +kernel
theorem dX11_treaty_18 : decode cX11_treaty 18 = .ok (.if_icmp .ge 17, 3) := by decide +kernel
theorem dX11_treaty_21 : decode cX11_treaty 21 = .ok (.aload_n 0, 1) := by decide +kernel
theorem dX11_treaty_22 : decode cX11_treaty 22 = .ok (.bipush 6, 2) := by decide +kernel
theorem dX11_treaty_24 : decode cX11_treaty 24 = .ok (.iload_n 1, 1) := by decide +kernel
theorem dX11_treaty_25 : decode cX11_treaty 25 = .ok (.imul, 1) := by decide +kernel
theorem dX11_treaty_26 : decode cX11_treaty 26 = .ok (.invokevirtual 156, 3) := by decide +kernel
theorem dX11_treaty_29 : decode cX11_treaty 29 = .ok (.iinc 1 1, 3) := by decide +kernel
theorem dX11_treaty_32 : decode cX11_treaty 32 = .ok (.goto (-19), 3) := by decide +kernel
theorem dX11_treaty_35 : decode cX11_treaty 35 = .ok (.aload_n 0, 1) := by decide +kernel
theorem dX11_treaty_36 : decode cX11_treaty 36 = .ok (.invokevirtual 75, 3) := by decide +kernel
theorem dX11_treaty_39 : decode cX11_treaty 39 = .ok (.aload_n 0, 1) := by decide +kernel
theorem dX11_treaty_40 : decode cX11_treaty 40 = .ok (.getfield 13, 3) := by decide +kernel
theorem dX11_treaty_43 : decode cX11_treaty 43 = .ok (.iconst 0, 1) := by decide +kernel
theorem dX11_treaty_44 : decode cX11_treaty 44 = .ok (.iconst 0, 1) := by decide +kernel
theorem dX11_treaty_45 : decode cX11_treaty 45 = .ok (.bastore, 1) := by decide +kernel
theorem dX11_treaty_46 : decode cX11_treaty 46 = .ok (.aload_n 0, 1) := by decide +kernel
theorem dX11_treaty_47 : decode cX11_treaty 47 = .ok (.getfield 13, 3) := by decide +kernel
theorem dX11_treaty_50 : decode cX11_treaty 50 = .ok (.iconst 1, 1) := by decide +kernel
theorem dX11_treaty_51 : decode cX11_treaty 51 = .ok (.iconst 0, 1) := by decide +kernel
theorem dX11_treaty_52 : decode cX11_treaty 52 = .ok (.bastore, 1) := by decide +kernel
theorem dX11_treaty_53 : decode cX11_treaty 53 = .ok (.aload_n 0, 1) := by decide +kernel
theorem dX11_treaty_54 : decode cX11_treaty 54 = .ok (.iconst 0, 1) := by decide +kernel
theorem dX11_treaty_55 : decode cX11_treaty 55 = .ok (.putfield 84, 3) := by decide +kernel
theorem dX11_treaty_58 : decode cX11_treaty 58 = .ok (.aload_n 0, 1) := by decide +kernel
theorem dX11_treaty_59 : decode cX11_treaty 59 = .ok (.getfield 112, 3) := by decide +kernel
theorem dX11_treaty_62 : decode cX11_treaty 62 = .ok (.ireturn, 1) := by decide +kernel
theorem dX11_work_0 : decode cX11_work 0 = .ok (.iload_n 1, 1) := by decide +kernel
theorem dX11_work_1 : decode cX11_work 1 = .ok (.i2l, 1) := by decide +kernel
theorem dX11_work_2 : decode cX11_work 2 = .ok (.lconst 0, 1) := by decide +kernel
theorem dX11_work_3 : decode cX11_work 3 = .ok (.ldc2_w 160, 3) := by decide +kernel
theorem dX11_work_6 : decode cX11_work 6 = .ok (.invokestatic 80, 3) := by decide +kernel
theorem dX11_work_9 : decode cX11_work 9 = .ok (.ifCond .ne 6, 3) := by decide +kernel
theorem dX11_work_12 : decode cX11_work 12 = .ok (.bipush (-2), 2) := by decide +kernel
theorem dX11_work_14 : decode cX11_work 14 = .ok (.ireturn, 1) := by decide +kernel
theorem dX11_work_15 : decode cX11_work 15 = .ok (.iload_n 2, 1) := by decide +kernel
theorem dX11_work_16 : decode cX11_work 16 = .ok (.i2l, 1) := by decide +kernel
theorem dX11_work_17 : decode cX11_work 17 = .ok (.lconst 0, 1) := by decide +kernel
theorem dX11_work_18 : decode cX11_work 18 = .ok (.ldc2_w 162, 3) := by decide +kernel
theorem dX11_work_21 : decode cX11_work 21 = .ok (.invokestatic 80, 3) := by decide +kernel
theorem dX11_work_24 : decode cX11_work 24 = .ok (.ifCond .eq 16, 3) := by decide +kernel
theorem dX11_work_27 : decode cX11_work 27 = .ok (.aload_n 0, 1) := by decide +kernel
theorem dX11_work_28 : decode cX11_work 28 = .ok (.getfield 30, 3) := by decide +kernel
theorem dX11_work_31 : decode cX11_work 31 = .ok (.iconst 4, 1) := by decide +kernel
theorem dX11_work_32 : decode cX11_work 32 = .ok (.iload_n 1, 1) := by decide +kernel
theorem dX11_work_33 : decode cX11_work 33 = .ok (.imul, 1) := by decide +kernel
theorem dX11_work_34 : decode cX11_work 34 = .ok (.iload_n 2, 1) := by decide +kernel
theorem dX11_work_35 : decode cX11_work 35 = .ok (.iadd, 1) := by decide +kernel
theorem dX11_work_36 : decode cX11_work 36 = .ok (.iaload, 1) := by decide +kernel
theorem dX11_work_37 : decode cX11_work 37 = .ok (.goto 5, 3) := by decide +kernel
theorem dX11_work_40 : decode cX11_work 40 = .ok (.bipush (-3), 2) := by decide +kernel
theorem dX11_work_42 : decode cX11_work 42 = .ok (.ireturn, 1) := by decide +kernel
theorem dX11_isValley_0 : decode cX11_isValley 0 = .ok (.iload_n 0, 1) := by decide +kernel
theorem dX11_isValley_1 : decode cX11_isValley 1 = .ok (.i2l, 1) := by decide +kernel
theorem dX11_isValley_2 : decode cX11_isValley 2 = .ok (.lconst 0, 1) := by decide +kernel
theorem dX11_isValley_3 : decode cX11_isValley 3 = .ok (.lconst 1, 1) := by decide +kernel
theorem dX11_isValley_4 : decode cX11_isValley 4 = .ok (.invokestatic 80, 3) := by decide +kernel
theorem dX11_isValley_7 : decode cX11_isValley 7 = .ok (.ireturn, 1) := by decide +kernel
theorem dX11_isPair_0 : decode cX11_isPair 0 = .ok (.iload_n 1, 1) := by decide +kernel
theorem dX11_isPair_1 : decode cX11_isPair 1 = .ok (.i2l, 1) := by decide +kernel
theorem dX11_isPair_2 : decode cX11_isPair 2 = .ok (.lconst 0, 1) := by decide +kernel
theorem dX11_isPair_3 : decode cX11_isPair 3 = .ok (.aload_n 0, 1) := by decide +kernel
theorem dX11_isPair_4 : decode cX11_isPair 4 = .ok (.getfield 23, 3) := by decide +kernel
theorem dX11_isPair_7 : decode cX11_isPair 7 = .ok (.iconst 1, 1) := by decide +kernel
theorem dX11_isPair_8 : decode cX11_isPair 8 = .ok (.isub, 1) := by decide +kernel
theorem dX11_isPair_9 : decode cX11_isPair 9 = .ok (.i2l, 1) := by decide +kernel
theorem dX11_isPair_10 : decode cX11_isPair 10 = .ok (.invokestatic 80, 3) := by decide +kernel
theorem dX11_isPair_13 : decode cX11_isPair 13 = .ok (.ireturn, 1) := by decide +kernel
theorem dX11_isHour_0 : decode cX11_isHour 0 = .ok (.iload_n 1, 1) := by decide +kernel
theorem dX11_isHour_1 : decode cX11_isHour 1 = .ok (.i2l, 1) := by decide +kernel
theorem dX11_isHour_2 : decode cX11_isHour 2 = .ok (.lconst 0, 1) := by decide +kernel
theorem dX11_isHour_3 : decode cX11_isHour 3 = .ok (.aload_n 0, 1) := by decide +kernel
theorem dX11_isHour_4 : decode cX11_isHour 4 = .ok (.getfield 27, 3) := by decide +kernel
theorem dX11_isHour_7 : decode cX11_isHour 7 = .ok (.iconst 1, 1) := by decide +kernel
theorem dX11_isHour_8 : decode cX11_isHour 8 = .ok (.isub, 1) := by decide +kernel
theorem dX11_isHour_9 : decode cX11_isHour 9 = .ok (.i2l, 1) := by decide +kernel
theorem dX11_isHour_10 : decode cX11_isHour 10 = .ok (.invokestatic 80, 3) := by decide +kernel
theorem dX11_isHour_13 : decode cX11_isHour 13 = .ok (.ireturn, 1) := by decide +kernel
theorem dX11_meant_0 : decode cX11_meant 0 = .ok (.iload_n 2, 1) := by decide +kernel
theorem dX11_meant_1 : decode cX11_meant 1 = .ok (.invokestatic 164, 3) := by decide +kernel
theorem dX11_meant_4 : decode cX11_meant 4 = .ok (.ifCond .eq 20, 3) := by decide +kernel
theorem dX11_meant_7 : decode cX11_meant 7 = .ok (.aload_n 0, 1) := by decide +kernel
theorem dX11_meant_8 : decode cX11_meant 8 = .ok (.iload_n 3, 1) := by decide +kernel
theorem dX11_meant_9 : decode cX11_meant 9 = .ok (.invokevirtual 167, 3) := by decide +kernel
theorem dX11_meant_12 : decode cX11_meant 12 = .ok (.ifCond .eq 12, 3) := by decide +kernel
theorem dX11_meant_15 : decode cX11_meant 15 = .ok (.aload_n 0, 1) := by decide +kernel
theorem dX11_meant_16 : decode cX11_meant 16 = .ok (.iload 4, 2) := by decide +kernel
theorem dX11_meant_18 : decode cX11_meant 18 = .ok (.invokevirtual 170, 3) := by decide +kernel
theorem dX11_meant_21 : decode cX11_meant 21 = .ok (.ifCond .ne 6, 3) := by decide +kernel
theorem dX11_meant_24 : decode cX11_meant 24 = .ok (.bipush (-2), 2) := by decide +kernel
theorem dX11_meant_26 : decode cX11_meant 26 = .ok (.ireturn, 1) := by decide +kernel
theorem dX11_meant_27 : decode cX11_meant 27 = .ok (.iload_n 1, 1) := by decide +kernel
theorem dX11_meant_28 : decode cX11_meant 28 = .ok (.i2l, 1) := by decide +kernel
theorem dX11_meant_29 : decode cX11_meant 29 = .ok (.lconst 0, 1) := by decide +kernel
theorem dX11_meant_30 : decode cX11_meant 30 = .ok (.lconst 1, 1) := by decide +kernel
theorem dX11_meant_31 : decode cX11_meant 31 = .ok (.invokestatic 80, 3) := by decide +kernel
theorem dX11_meant_34 : decode cX11_meant 34 = .ok (.ifCond .eq 19, 3) := by decide +kernel
theorem dX11_meant_37 : decode cX11_meant 37 = .ok (.aload_n 0, 1) := by decide +kernel
theorem dX11_meant_38 : decode cX11_meant 38 = .ok (.getfield 36, 3) := by decide +kernel
theorem dX11_meant_41 : decode cX11_meant 41 = .ok (.iload_n 1, 1) := by decide +kernel
theorem dX11_meant_42 : decode cX11_meant 42 = .ok (.iload_n 2, 1) := by decide +kernel
theorem dX11_meant_43 : decode cX11_meant 43 = .ok (.iload_n 3, 1) := by decide +kernel
theorem dX11_meant_44 : decode cX11_meant 44 = .ok (.iload 4, 2) := by decide +kernel
theorem dX11_meant_46 : decode cX11_meant 46 = .ok (.invokestatic 146, 3) := by decide +kernel
theorem dX11_meant_49 : decode cX11_meant 49 = .ok (.iaload, 1) := by decide +kernel
theorem dX11_meant_50 : decode cX11_meant 50 = .ok (.goto 5, 3) := by decide +kernel
theorem dX11_meant_53 : decode cX11_meant 53 = .ok (.bipush (-3), 2) := by decide +kernel
theorem dX11_meant_55 : decode cX11_meant 55 = .ok (.ireturn, 1) := by decide +kernel
theorem dX11_done_0 : decode cX11_done 0 = .ok (.iload_n 1, 1) := by decide +kernel
theorem dX11_done_1 : decode cX11_done 1 = .ok (.invokestatic 164, 3) := by decide +kernel
theorem dX11_done_4 : decode cX11_done 4 = .ok (.ifCond .eq 32, 3) := by decide +kernel
theorem dX11_done_7 : decode cX11_done 7 = .ok (.aload_n 0, 1) := by decide +kernel
theorem dX11_done_8 : decode cX11_done 8 = .ok (.iload_n 2, 1) := by decide +kernel
theorem dX11_done_9 : decode cX11_done 9 = .ok (.invokevirtual 167, 3) := by decide +kernel
theorem dX11_done_12 : decode cX11_done 12 = .ok (.ifCond .eq 24, 3) := by decide +kernel
theorem dX11_done_15 : decode cX11_done 15 = .ok (.aload_n 0, 1) := by decide +kernel
theorem dX11_done_16 : decode cX11_done 16 = .ok (.iload_n 3, 1) := by decide +kernel
theorem dX11_done_17 : decode cX11_done 17 = .ok (.invokevirtual 170, 3) := by decide +kernel
theorem dX11_done_20 : decode cX11_done 20 = .ok (.ifCond .eq 16, 3) := by decide +kernel
theorem dX11_done_23 : decode cX11_done 23 = .ok (.iload 4, 2) := by decide +kernel
theorem dX11_done_25 : decode cX11_done 25 = .ok (.i2l, 1) := by decide +kernel
theorem dX11_done_26 : decode cX11_done 26 = .ok (.lconst 0, 1) := by decide +kernel
theorem dX11_done_27 : decode cX11_done 27 = .ok (.ldc2_w 160, 3) := by decide +kernel
theorem dX11_done_30 : decode cX11_done 30 = .ok (.invokestatic 80, 3) := by decide +kernel
theorem dX11_done_33 : decode cX11_done 33 = .ok (.ifCond .ne 6, 3) := by decide +kernel
theorem dX11_done_36 : decode cX11_done 36 = .ok (.bipush (-2), 2) := by decide +kernel
theorem dX11_done_38 : decode cX11_done 38 = .ok (.ireturn, 1) := by decide +kernel
theorem dX11_done_39 : decode cX11_done 39 = .ok (.aload_n 0, 1) := by decide +kernel
theorem dX11_done_40 : decode cX11_done 40 = .ok (.getfield 30, 3) := by decide +kernel
theorem dX11_done_43 : decode cX11_done 43 = .ok (.iconst 4, 1) := by decide +kernel
theorem dX11_done_44 : decode cX11_done 44 = .ok (.iload 4, 2) := by decide +kernel
theorem dX11_done_46 : decode cX11_done 46 = .ok (.imul, 1) := by decide +kernel
theorem dX11_done_47 : decode cX11_done 47 = .ok (.iconst 1, 1) := by decide +kernel
theorem dX11_done_48 : decode cX11_done 48 = .ok (.iadd, 1) := by decide +kernel
theorem dX11_done_49 : decode cX11_done 49 = .ok (.iload_n 1, 1) := by decide +kernel
theorem dX11_done_50 : decode cX11_done 50 = .ok (.iadd, 1) := by decide +kernel
theorem dX11_done_51 : decode cX11_done 51 = .ok (.iaload, 1) := by decide +kernel
theorem dX11_done_52 : decode cX11_done 52 = .ok (.iconst (-1), 1) := by decide +kernel
theorem dX11_done_53 : decode cX11_done 53 = .ok (.if_icmp .ne 6, 3) := by decide +kernel
theorem dX11_done_56 : decode cX11_done 56 = .ok (.bipush (-4), 2) := by decide +kernel
theorem dX11_done_58 : decode cX11_done 58 = .ok (.ireturn, 1) := by decide +kernel
theorem dX11_done_59 : decode cX11_done 59 = .ok (.aload_n 0, 1) := by decide +kernel
theorem dX11_done_60 : decode cX11_done 60 = .ok (.getfield 7, 3) := by decide +kernel
theorem dX11_done_63 : decode cX11_done 63 = .ok (.bipush 39, 2) := by decide +kernel
theorem dX11_done_65 : decode cX11_done 65 = .ok (.bipush 24, 2) := by decide +kernel
theorem dX11_done_67 : decode cX11_done 67 = .ok (.iload_n 1, 1) := by decide +kernel
theorem dX11_done_68 : decode cX11_done 68 = .ok (.imul, 1) := by decide +kernel
theorem dX11_done_69 : decode cX11_done 69 = .ok (.iadd, 1) := by decide +kernel
theorem dX11_done_70 : decode cX11_done 70 = .ok (.iconst 4, 1) := by decide +kernel
theorem dX11_done_71 : decode cX11_done 71 = .ok (.iload_n 2, 1) := by decide +kernel
theorem dX11_done_72 : decode cX11_done 72 = .ok (.imul, 1) := by decide +kernel
theorem dX11_done_73 : decode cX11_done 73 = .ok (.iadd, 1) := by decide +kernel
theorem dX11_done_74 : decode cX11_done 74 = .ok (.iload_n 3, 1) := by decide +kernel
theorem dX11_done_75 : decode cX11_done 75 = .ok (.iadd, 1) := by decide +kernel
theorem dX11_done_76 : decode cX11_done 76 = .ok (.iload 4, 2) := by decide +kernel
theorem dX11_done_78 : decode cX11_done 78 = .ok (.iastore, 1) := by decide +kernel
theorem dX11_done_79 : decode cX11_done 79 = .ok (.iconst 1, 1) := by decide +kernel
theorem dX11_done_80 : decode cX11_done 80 = .ok (.ireturn, 1) := by decide +kernel
theorem dX11_ill_0 : decode cX11_ill 0 = .ok (.iload_n 1, 1) := by decide +kernel
theorem dX11_ill_1 : decode cX11_ill 1 = .ok (.invokestatic 164, 3) := by decide +kernel
theorem dX11_ill_4 : decode cX11_ill 4 = .ok (.ifCond .eq 11, 3) := by decide +kernel
theorem dX11_ill_7 : decode cX11_ill 7 = .ok (.aload_n 0, 1) := by decide +kernel
theorem dX11_ill_8 : decode cX11_ill 8 = .ok (.iload_n 2, 1) := by decide +kernel
theorem dX11_ill_9 : decode cX11_ill 9 = .ok (.invokevirtual 167, 3) := by decide +kernel
theorem dX11_ill_12 : decode cX11_ill 12 = .ok (.ifCond .ne 6, 3) := by decide +kernel
theorem dX11_ill_15 : decode cX11_ill 15 = .ok (.bipush (-2), 2) := by decide +kernel
theorem dX11_ill_17 : decode cX11_ill 17 = .ok (.ireturn, 1) := by decide +kernel
theorem dX11_ill_18 : decode cX11_ill 18 = .ok (.aload_n 0, 1) := by decide +kernel
theorem dX11_ill_19 : decode cX11_ill 19 = .ok (.getfield 7, 3) := by decide +kernel
theorem dX11_ill_22 : decode cX11_ill 22 = .ok (.bipush 27, 2) := by decide +kernel
theorem dX11_ill_24 : decode cX11_ill 24 = .ok (.bipush 6, 2) := by decide +kernel
theorem dX11_ill_26 : decode cX11_ill 26 = .ok (.iload_n 1, 1) := by decide +kernel
theorem dX11_ill_27 : decode cX11_ill 27 = .ok (.imul, 1) := by decide +kernel
theorem dX11_ill_28 : decode cX11_ill 28 = .ok (.iadd, 1) := by decide +kernel
theorem dX11_ill_29 : decode cX11_ill 29 = .ok (.iload_n 2, 1) := by decide +kernel
theorem dX11_ill_30 : decode cX11_ill 30 = .ok (.iadd, 1) := by decide +kernel
theorem dX11_ill_31 : decode cX11_ill 31 = .ok (.iaload, 1) := by decide +kernel
theorem dX11_ill_32 : decode cX11_ill 32 = .ok (.istore 4, 2) := by decide +kernel
theorem dX11_ill_34 : decode cX11_ill 34 = .ok (.aload_n 0, 1) := by decide +kernel
theorem dX11_ill_35 : decode cX11_ill 35 = .ok (.getfield 7, 3) := by decide +kernel
theorem dX11_ill_38 : decode cX11_ill 38 = .ok (.bipush 27, 2) := by decide +kernel
theorem dX11_ill_40 : decode cX11_ill 40 = .ok (.bipush 6, 2) := by decide +kernel
theorem dX11_ill_42 : decode cX11_ill 42 = .ok (.iload_n 1, 1) := by decide +kernel
theorem dX11_ill_43 : decode cX11_ill 43 = .ok (.imul, 1) := by decide +kernel
theorem dX11_ill_44 : decode cX11_ill 44 = .ok (.iadd, 1) := by decide +kernel
theorem dX11_ill_45 : decode cX11_ill 45 = .ok (.iload_n 2, 1) := by decide +kernel
theorem dX11_ill_46 : decode cX11_ill 46 = .ok (.iadd, 1) := by decide +kernel
theorem dX11_ill_47 : decode cX11_ill 47 = .ok (.iload_n 3, 1) := by decide +kernel
theorem dX11_ill_48 : decode cX11_ill 48 = .ok (.ifCond .eq 7, 3) := by decide +kernel
theorem dX11_ill_51 : decode cX11_ill 51 = .ok (.iconst 1, 1) := by decide +kernel
theorem dX11_ill_52 : decode cX11_ill 52 = .ok (.goto 4, 3) := by decide +kernel
theorem dX11_ill_55 : decode cX11_ill 55 = .ok (.iconst 0, 1) := by decide +kernel
theorem dX11_ill_56 : decode cX11_ill 56 = .ok (.iastore, 1) := by decide +kernel
theorem dX11_ill_57 : decode cX11_ill 57 = .ok (.iload 4, 2) := by decide +kernel
theorem dX11_ill_59 : decode cX11_ill 59 = .ok (.ireturn, 1) := by decide +kernel
theorem dX11_meansOf_0 : decode cX11_meansOf 0 = .ok (.aload_n 0, 1) := by decide +kernel
theorem dX11_meansOf_1 : decode cX11_meansOf 1 = .ok (.getfield 36, 3) := by decide +kernel
theorem dX11_meansOf_4 : decode cX11_meansOf 4 = .ok (.aload_n 0, 1) := by decide +kernel
theorem dX11_meansOf_5 : decode cX11_meansOf 5 = .ok (.getfield 7, 3) := by decide +kernel
theorem dX11_meansOf_8 : decode cX11_meansOf 8 = .ok (.iconst 0, 1) := by decide +kernel
theorem dX11_meansOf_9 : decode cX11_meansOf 9 = .ok (.iaload, 1) := by decide +kernel
theorem dX11_meansOf_10 : decode cX11_meansOf 10 = .ok (.iconst 2, 1) := by decide +kernel
theorem dX11_meansOf_11 : decode cX11_meansOf 11 = .ok (.irem, 1) := by decide +kernel
theorem dX11_meansOf_12 : decode cX11_meansOf 12 = .ok (.iload_n 1, 1) := by decide +kernel
theorem dX11_meansOf_13 : decode cX11_meansOf 13 = .ok (.iload_n 2, 1) := by decide +kernel
theorem dX11_meansOf_14 : decode cX11_meansOf 14 = .ok (.iload_n 3, 1) := by decide +kernel
theorem dX11_meansOf_15 : decode cX11_meansOf 15 = .ok (.invokestatic 146, 3) := by decide +kernel
theorem dX11_meansOf_18 : decode cX11_meansOf 18 = .ok (.iaload, 1) := by decide +kernel
theorem dX11_meansOf_19 : decode cX11_meansOf 19 = .ok (.ireturn, 1) := by decide +kernel
theorem dX11_may_0 : decode cX11_may 0 = .ok (.aload_n 0, 1) := by decide +kernel
theorem dX11_may_1 : decode cX11_may 1 = .ok (.getfield 33, 3) := by decide +kernel
theorem dX11_may_4 : decode cX11_may 4 = .ok (.iload_n 2, 1) := by decide +kernel
theorem dX11_may_5 : decode cX11_may 5 = .ok (.iaload, 1) := by decide +kernel
theorem dX11_may_6 : decode cX11_may 6 = .ok (.iconst 1, 1) := by decide +kernel
theorem dX11_may_7 : decode cX11_may 7 = .ok (.if_icmp .ne 20, 3) := by decide +kernel
theorem dX11_may_10 : decode cX11_may 10 = .ok (.aload_n 0, 1) := by decide +kernel
theorem dX11_may_11 : decode cX11_may 11 = .ok (.getfield 30, 3) := by decide +kernel
theorem dX11_may_14 : decode cX11_may 14 = .ok (.iconst 4, 1) := by decide +kernel
theorem dX11_may_15 : decode cX11_may 15 = .ok (.iload 4, 2) := by decide +kernel
theorem dX11_may_17 : decode cX11_may 17 = .ok (.imul, 1) := by decide +kernel
theorem dX11_may_18 : decode cX11_may 18 = .ok (.iaload, 1) := by decide +kernel
theorem dX11_may_19 : decode cX11_may 19 = .ok (.iconst 3, 1) := by decide +kernel
theorem dX11_may_20 : decode cX11_may 20 = .ok (.if_icmp .ne 7, 3) := by decide +kernel
theorem dX11_may_23 : decode cX11_may 23 = .ok (.iconst 1, 1) := by decide +kernel
theorem dX11_may_24 : decode cX11_may 24 = .ok (.goto 4, 3) := by decide +kernel
theorem dX11_may_27 : decode cX11_may 27 = .ok (.iconst 0, 1) := by decide +kernel
theorem dX11_may_28 : decode cX11_may 28 = .ok (.istore 5, 2) := by decide +kernel
theorem dX11_may_30 : decode cX11_may 30 = .ok (.aload_n 0, 1) := by decide +kernel
theorem dX11_may_31 : decode cX11_may 31 = .ok (.getfield 33, 3) := by decide +kernel
theorem dX11_may_34 : decode cX11_may 34 = .ok (.iload_n 2, 1) := by decide +kernel
theorem dX11_may_35 : decode cX11_may 35 = .ok (.iaload, 1) := by decide +kernel
theorem dX11_may_36 : decode cX11_may 36 = .ok (.iconst 2, 1) := by decide +kernel
theorem dX11_may_37 : decode cX11_may 37 = .ok (.if_icmp .ne 25, 3) := by decide +kernel
theorem dX11_may_40 : decode cX11_may 40 = .ok (.aload_n 0, 1) := by decide +kernel
theorem dX11_may_41 : decode cX11_may 41 = .ok (.getfield 27, 3) := by decide +kernel
theorem dX11_may_44 : decode cX11_may 44 = .ok (.iconst 1, 1) := by decide +kernel
theorem dX11_may_45 : decode cX11_may 45 = .ok (.if_icmp .le 17, 3) := by decide +kernel
theorem dX11_may_48 : decode cX11_may 48 = .ok (.iload_n 3, 1) := by decide +kernel
theorem dX11_may_49 : decode cX11_may 49 = .ok (.aload_n 0, 1) := by decide +kernel
theorem dX11_may_50 : decode cX11_may 50 = .ok (.getfield 27, 3) := by decide +kernel
theorem dX11_may_53 : decode cX11_may 53 = .ok (.iconst 1, 1) := by decide +kernel
theorem dX11_may_54 : decode cX11_may 54 = .ok (.isub, 1) := by decide +kernel
theorem dX11_may_55 : decode cX11_may 55 = .ok (.if_icmp .ne 7, 3) := by decide +kernel
theorem dX11_may_58 : decode cX11_may 58 = .ok (.iconst 1, 1) := by decide +kernel
theorem dX11_may_59 : decode cX11_may 59 = .ok (.goto 4, 3) := by decide +kernel
theorem dX11_may_62 : decode cX11_may 62 = .ok (.iconst 0, 1) := by decide +kernel
theorem dX11_may_63 : decode cX11_may 63 = .ok (.istore 6, 2) := by decide +kernel
theorem dX11_may_65 : decode cX11_may 65 = .ok (.iload 4, 2) := by decide +kernel
theorem dX11_may_67 : decode cX11_may 67 = .ok (.iconst 5, 1) := by decide +kernel
theorem dX11_may_68 : decode cX11_may 68 = .ok (.if_icmp .eq 30, 3) := by decide +kernel
theorem dX11_may_71 : decode cX11_may 71 = .ok (.aload_n 0, 1) := by decide +kernel
theorem dX11_may_72 : decode cX11_may 72 = .ok (.getfield 30, 3) := by decide +kernel
theorem dX11_may_75 : decode cX11_may 75 = .ok (.iconst 4, 1) := by decide +kernel
theorem dX11_may_76 : decode cX11_may 76 = .ok (.iload 4, 2) := by decide +kernel
theorem dX11_may_78 : decode cX11_may 78 = .ok (.imul, 1) := by decide +kernel
theorem dX11_may_79 : decode cX11_may 79 = .ok (.iconst 1, 1) := by decide +kernel
theorem dX11_may_80 : decode cX11_may 80 = .ok (.iadd, 1) := by decide +kernel
theorem dX11_may_81 : decode cX11_may 81 = .ok (.iload_n 1, 1) := by decide +kernel
theorem dX11_may_82 : decode cX11_may 82 = .ok (.iadd, 1) := by decide +kernel
theorem dX11_may_83 : decode cX11_may 83 = .ok (.iaload, 1) := by decide +kernel
theorem dX11_may_84 : decode cX11_may 84 = .ok (.iconst (-1), 1) := by decide +kernel
theorem dX11_may_85 : decode cX11_may 85 = .ok (.if_icmp .eq 17, 3) := by decide +kernel
theorem dX11_may_88 : decode cX11_may 88 = .ok (.iload 5, 2) := by decide +kernel
theorem dX11_may_90 : decode cX11_may 90 = .ok (.ifCond .ne 12, 3) := by decide +kernel
theorem dX11_may_93 : decode cX11_may 93 = .ok (.iload 6, 2) := by decide +kernel
theorem dX11_may_95 : decode cX11_may 95 = .ok (.ifCond .ne 7, 3) := by decide +kernel
theorem dX11_may_98 : decode cX11_may 98 = .ok (.iconst 1, 1) := by decide +kernel
theorem dX11_may_99 : decode cX11_may 99 = .ok (.goto 4, 3) := by decide +kernel
theorem dX11_may_102 : decode cX11_may 102 = .ok (.iconst 0, 1) := by decide +kernel
theorem dX11_may_103 : decode cX11_may 103 = .ok (.ireturn, 1) := by decide +kernel
theorem dX11_does_0 : decode cX11_does 0 = .ok (.aload_n 0, 1) := by decide +kernel
theorem dX11_does_1 : decode cX11_does 1 = .ok (.getfield 7, 3) := by decide +kernel
theorem dX11_does_4 : decode cX11_does 4 = .ok (.bipush 39, 2) := by decide +kernel
theorem dX11_does_6 : decode cX11_does 6 = .ok (.bipush 24, 2) := by decide +kernel
theorem dX11_does_8 : decode cX11_does 8 = .ok (.iload_n 1, 1) := by decide +kernel
theorem dX11_does_9 : decode cX11_does 9 = .ok (.imul, 1) := by decide +kernel
theorem dX11_does_10 : decode cX11_does 10 = .ok (.iadd, 1) := by decide +kernel
theorem dX11_does_11 : decode cX11_does 11 = .ok (.iconst 4, 1) := by decide +kernel
theorem dX11_does_12 : decode cX11_does 12 = .ok (.iload_n 2, 1) := by decide +kernel
theorem dX11_does_13 : decode cX11_does 13 = .ok (.imul, 1) := by decide +kernel
theorem dX11_does_14 : decode cX11_does 14 = .ok (.iadd, 1) := by decide +kernel
theorem dX11_does_15 : decode cX11_does 15 = .ok (.iload_n 3, 1) := by decide +kernel
theorem dX11_does_16 : decode cX11_does 16 = .ok (.iadd, 1) := by decide +kernel
theorem dX11_does_17 : decode cX11_does 17 = .ok (.iaload, 1) := by decide +kernel
theorem dX11_does_18 : decode cX11_does 18 = .ok (.istore 4, 2) := by decide +kernel
theorem dX11_does_20 : decode cX11_does 20 = .ok (.iload 4, 2) := by decide +kernel
theorem dX11_does_22 : decode cX11_does 22 = .ok (.iconst (-1), 1) := by decide +kernel
theorem dX11_does_23 : decode cX11_does 23 = .ok (.if_icmp .ne 13, 3) := by decide +kernel
theorem dX11_does_26 : decode cX11_does 26 = .ok (.aload_n 0, 1) := by decide +kernel
theorem dX11_does_27 : decode cX11_does 27 = .ok (.iload_n 1, 1) := by decide +kernel
theorem dX11_does_28 : decode cX11_does 28 = .ok (.iload_n 2, 1) := by decide +kernel
theorem dX11_does_29 : decode cX11_does 29 = .ok (.iload_n 3, 1) := by decide +kernel
theorem dX11_does_30 : decode cX11_does 30 = .ok (.invokevirtual 173, 3) := by decide +kernel
theorem dX11_does_33 : decode cX11_does 33 = .ok (.goto 5, 3) := by decide +kernel
theorem dX11_does_36 : decode cX11_does 36 = .ok (.iload 4, 2) := by decide +kernel
theorem dX11_does_38 : decode cX11_does 38 = .ok (.istore 5, 2) := by decide +kernel
theorem dX11_does_40 : decode cX11_does 40 = .ok (.aload_n 0, 1) := by decide +kernel
theorem dX11_does_41 : decode cX11_does 41 = .ok (.getfield 7, 3) := by decide +kernel
theorem dX11_does_44 : decode cX11_does 44 = .ok (.bipush 27, 2) := by decide +kernel
theorem dX11_does_46 : decode cX11_does 46 = .ok (.bipush 6, 2) := by decide +kernel
theorem dX11_does_48 : decode cX11_does 48 = .ok (.iload_n 1, 1) := by decide +kernel
theorem dX11_does_49 : decode cX11_does 49 = .ok (.imul, 1) := by decide +kernel
theorem dX11_does_50 : decode cX11_does 50 = .ok (.iadd, 1) := by decide +kernel
theorem dX11_does_51 : decode cX11_does 51 = .ok (.iload_n 2, 1) := by decide +kernel
theorem dX11_does_52 : decode cX11_does 52 = .ok (.iadd, 1) := by decide +kernel
theorem dX11_does_53 : decode cX11_does 53 = .ok (.iaload, 1) := by decide +kernel
theorem dX11_does_54 : decode cX11_does 54 = .ok (.ifCond .ne 20, 3) := by decide +kernel
theorem dX11_does_57 : decode cX11_does 57 = .ok (.aload_n 0, 1) := by decide +kernel
theorem dX11_does_58 : decode cX11_does 58 = .ok (.iload_n 1, 1) := by decide +kernel
theorem dX11_does_59 : decode cX11_does 59 = .ok (.iload_n 2, 1) := by decide +kernel
theorem dX11_does_60 : decode cX11_does 60 = .ok (.iload_n 3, 1) := by decide +kernel
theorem dX11_does_61 : decode cX11_does 61 = .ok (.iload 5, 2) := by decide +kernel
theorem dX11_does_63 : decode cX11_does 63 = .ok (.invokevirtual 177, 3) := by decide +kernel
theorem dX11_does_66 : decode cX11_does 66 = .ok (.ifCond .eq 8, 3) := by decide +kernel
theorem dX11_does_69 : decode cX11_does 69 = .ok (.iload 5, 2) := by decide +kernel
theorem dX11_does_71 : decode cX11_does 71 = .ok (.goto 4, 3) := by decide +kernel
theorem dX11_does_74 : decode cX11_does 74 = .ok (.iconst 5, 1) := by decide +kernel
theorem dX11_does_75 : decode cX11_does 75 = .ok (.ireturn, 1) := by decide +kernel
theorem dX11_isBreach_0 : decode cX11_isBreach 0 = .ok (.aload_n 0, 1) := by decide +kernel
theorem dX11_isBreach_1 : decode cX11_isBreach 1 = .ok (.getfield 33, 3) := by decide +kernel
theorem dX11_isBreach_4 : decode cX11_isBreach 4 = .ok (.iload_n 1, 1) := by decide +kernel
theorem dX11_isBreach_5 : decode cX11_isBreach 5 = .ok (.iaload, 1) := by decide +kernel
theorem dX11_isBreach_6 : decode cX11_isBreach 6 = .ok (.iconst 3, 1) := by decide +kernel
theorem dX11_isBreach_7 : decode cX11_isBreach 7 = .ok (.if_icmp .eq 29, 3) := by decide +kernel
theorem dX11_isBreach_10 : decode cX11_isBreach 10 = .ok (.aload_n 0, 1) := by decide +kernel
theorem dX11_isBreach_11 : decode cX11_isBreach 11 = .ok (.getfield 7, 3) := by decide +kernel
theorem dX11_isBreach_14 : decode cX11_isBreach 14 = .ok (.bipush 27, 2) := by decide +kernel
theorem dX11_isBreach_16 : decode cX11_isBreach 16 = .ok (.iload_n 1, 1) := by decide +kernel
theorem dX11_isBreach_17 : decode cX11_isBreach 17 = .ok (.iadd, 1) := by decide +kernel
theorem dX11_isBreach_18 : decode cX11_isBreach 18 = .ok (.iaload, 1) := by decide +kernel
theorem dX11_isBreach_19 : decode cX11_isBreach 19 = .ok (.iconst 1, 1) := by decide +kernel
theorem dX11_isBreach_20 : decode cX11_isBreach 20 = .ok (.if_icmp .eq 16, 3) := by decide +kernel
theorem dX11_isBreach_23 : decode cX11_isBreach 23 = .ok (.aload_n 0, 1) := by decide +kernel
theorem dX11_isBreach_24 : decode cX11_isBreach 24 = .ok (.getfield 7, 3) := by decide +kernel
theorem dX11_isBreach_27 : decode cX11_isBreach 27 = .ok (.bipush 33, 2) := by decide +kernel
theorem dX11_isBreach_29 : decode cX11_isBreach 29 = .ok (.iload_n 1, 1) := by decide +kernel
theorem dX11_isBreach_30 : decode cX11_isBreach 30 = .ok (.iadd, 1) := by decide +kernel
theorem dX11_isBreach_31 : decode cX11_isBreach 31 = .ok (.iaload, 1) := by decide +kernel
theorem dX11_isBreach_32 : decode cX11_isBreach 32 = .ok (.iconst 1, 1) := by decide +kernel
theorem dX11_isBreach_33 : decode cX11_isBreach 33 = .ok (.if_icmp .ne 5, 3) := by decide +kernel
theorem dX11_isBreach_36 : decode cX11_isBreach 36 = .ok (.iconst 0, 1) := by decide +kernel
theorem dX11_isBreach_37 : decode cX11_isBreach 37 = .ok (.ireturn, 1) := by decide +kernel
theorem dX11_isBreach_38 : decode cX11_isBreach 38 = .ok (.aload_n 0, 1) := by decide +kernel
theorem dX11_isBreach_39 : decode cX11_isBreach 39 = .ok (.getfield 30, 3) := by decide +kernel
theorem dX11_isBreach_42 : decode cX11_isBreach 42 = .ok (.iconst 4, 1) := by decide +kernel
theorem dX11_isBreach_43 : decode cX11_isBreach 43 = .ok (.aload_n 0, 1) := by decide +kernel
theorem dX11_isBreach_44 : decode cX11_isBreach 44 = .ok (.iconst 0, 1) := by decide +kernel
theorem dX11_isBreach_45 : decode cX11_isBreach 45 = .ok (.iload_n 1, 1) := by decide +kernel
theorem dX11_isBreach_46 : decode cX11_isBreach 46 = .ok (.iload_n 2, 1) := by decide +kernel
theorem dX11_isBreach_47 : decode cX11_isBreach 47 = .ok (.invokevirtual 181, 3) := by decide +kernel
theorem dX11_isBreach_50 : decode cX11_isBreach 50 = .ok (.imul, 1) := by decide +kernel
theorem dX11_isBreach_51 : decode cX11_isBreach 51 = .ok (.iaload, 1) := by decide +kernel
theorem dX11_isBreach_52 : decode cX11_isBreach 52 = .ok (.aload_n 0, 1) := by decide +kernel
theorem dX11_isBreach_53 : decode cX11_isBreach 53 = .ok (.getfield 30, 3) := by decide +kernel
theorem dX11_isBreach_56 : decode cX11_isBreach 56 = .ok (.iconst 4, 1) := by decide +kernel
theorem dX11_isBreach_57 : decode cX11_isBreach 57 = .ok (.aload_n 0, 1) := by decide +kernel
theorem dX11_isBreach_58 : decode cX11_isBreach 58 = .ok (.iconst 1, 1) := by decide +kernel
theorem dX11_isBreach_59 : decode cX11_isBreach 59 = .ok (.iload_n 1, 1) := by decide +kernel
theorem dX11_isBreach_60 : decode cX11_isBreach 60 = .ok (.iload_n 2, 1) := by decide +kernel
theorem dX11_isBreach_61 : decode cX11_isBreach 61 = .ok (.invokevirtual 181, 3) := by decide +kernel
theorem dX11_isBreach_64 : decode cX11_isBreach 64 = .ok (.imul, 1) := by decide +kernel
theorem dX11_isBreach_65 : decode cX11_isBreach 65 = .ok (.iaload, 1) := by decide +kernel
theorem dX11_isBreach_66 : decode cX11_isBreach 66 = .ok (.if_icmp .ne 7, 3) := by decide +kernel
theorem dX11_isBreach_69 : decode cX11_isBreach 69 = .ok (.iconst 1, 1) := by decide +kernel
theorem dX11_isBreach_70 : decode cX11_isBreach 70 = .ok (.goto 4, 3) := by decide +kernel
theorem dX11_isBreach_73 : decode cX11_isBreach 73 = .ok (.iconst 0, 1) := by decide +kernel
theorem dX11_isBreach_74 : decode cX11_isBreach 74 = .ok (.istore_n 3, 1) := by decide +kernel
theorem dX11_isBreach_75 : decode cX11_isBreach 75 = .ok (.iload_n 3, 1) := by decide +kernel
theorem dX11_isBreach_76 : decode cX11_isBreach 76 = .ok (.aload_n 0, 1) := by decide +kernel
theorem dX11_isBreach_77 : decode cX11_isBreach 77 = .ok (.getfield 7, 3) := by decide +kernel
theorem dX11_isBreach_80 : decode cX11_isBreach 80 = .ok (.iconst 0, 1) := by decide +kernel
theorem dX11_isBreach_81 : decode cX11_isBreach 81 = .ok (.iaload, 1) := by decide +kernel
theorem dX11_isBreach_82 : decode cX11_isBreach 82 = .ok (.iconst 2, 1) := by decide +kernel
theorem dX11_isBreach_83 : decode cX11_isBreach 83 = .ok (.irem, 1) := by decide +kernel
theorem dX11_isBreach_84 : decode cX11_isBreach 84 = .ok (.iconst 1, 1) := by decide +kernel
theorem dX11_isBreach_85 : decode cX11_isBreach 85 = .ok (.if_icmp .ne 7, 3) := by decide +kernel
theorem dX11_isBreach_88 : decode cX11_isBreach 88 = .ok (.iconst 1, 1) := by decide +kernel
theorem dX11_isBreach_89 : decode cX11_isBreach 89 = .ok (.goto 4, 3) := by decide +kernel
theorem dX11_isBreach_92 : decode cX11_isBreach 92 = .ok (.iconst 0, 1) := by decide +kernel
theorem dX11_isBreach_93 : decode cX11_isBreach 93 = .ok (.if_icmp .ne 7, 3) := by decide +kernel
theorem dX11_isBreach_96 : decode cX11_isBreach 96 = .ok (.iconst 1, 1) := by decide +kernel
theorem dX11_isBreach_97 : decode cX11_isBreach 97 = .ok (.goto 4, 3) := by decide +kernel
theorem dX11_isBreach_100 : decode cX11_isBreach 100 = .ok (.iconst 0, 1) := by decide +kernel
theorem dX11_isBreach_101 : decode cX11_isBreach 101 = .ok (.ireturn, 1) := by decide +kernel
theorem dX11_strays_0 : decode cX11_strays 0 = .ok (.aload_n 0, 1) := by decide +kernel
theorem dX11_strays_1 : decode cX11_strays 1 = .ok (.getfield 7, 3) := by decide +kernel
theorem dX11_strays_4 : decode cX11_strays 4 = .ok (.bipush 39, 2) := by decide +kernel
theorem dX11_strays_6 : decode cX11_strays 6 = .ok (.bipush 24, 2) := by decide +kernel
theorem dX11_strays_8 : decode cX11_strays 8 = .ok (.iload_n 1, 1) := by decide +kernel
theorem dX11_strays_9 : decode cX11_strays 9 = .ok (.imul, 1) := by decide +kernel
theorem dX11_strays_10 : decode cX11_strays 10 = .ok (.iadd, 1) := by decide +kernel
theorem dX11_strays_11 : decode cX11_strays 11 = .ok (.iconst 4, 1) := by decide +kernel
theorem dX11_strays_12 : decode cX11_strays 12 = .ok (.iload_n 2, 1) := by decide +kernel
theorem dX11_strays_13 : decode cX11_strays 13 = .ok (.imul, 1) := by decide +kernel
theorem dX11_strays_14 : decode cX11_strays 14 = .ok (.iadd, 1) := by decide +kernel
theorem dX11_strays_15 : decode cX11_strays 15 = .ok (.iload_n 3, 1) := by decide +kernel
theorem dX11_strays_16 : decode cX11_strays 16 = .ok (.iadd, 1) := by decide +kernel
theorem dX11_strays_17 : decode cX11_strays 17 = .ok (.iaload, 1) := by decide +kernel
theorem dX11_strays_18 : decode cX11_strays 18 = .ok (.istore 4, 2) := by decide +kernel
theorem dX11_strays_20 : decode cX11_strays 20 = .ok (.iload 4, 2) := by decide +kernel
theorem dX11_strays_22 : decode cX11_strays 22 = .ok (.iconst (-1), 1) := by decide +kernel
theorem dX11_strays_23 : decode cX11_strays 23 = .ok (.if_icmp .eq 19, 3) := by decide +kernel
theorem dX11_strays_26 : decode cX11_strays 26 = .ok (.iload 4, 2) := by decide +kernel
theorem dX11_strays_28 : decode cX11_strays 28 = .ok (.aload_n 0, 1) := by decide +kernel
theorem dX11_strays_29 : decode cX11_strays 29 = .ok (.iload_n 1, 1) := by decide +kernel
theorem dX11_strays_30 : decode cX11_strays 30 = .ok (.iload_n 2, 1) := by decide +kernel
theorem dX11_strays_31 : decode cX11_strays 31 = .ok (.iload_n 3, 1) := by decide +kernel
theorem dX11_strays_32 : decode cX11_strays 32 = .ok (.invokevirtual 173, 3) := by decide +kernel
theorem dX11_strays_35 : decode cX11_strays 35 = .ok (.if_icmp .eq 7, 3) := by decide +kernel
theorem dX11_strays_38 : decode cX11_strays 38 = .ok (.iconst 1, 1) := by decide +kernel
theorem dX11_strays_39 : decode cX11_strays 39 = .ok (.goto 4, 3) := by decide +kernel
theorem dX11_strays_42 : decode cX11_strays 42 = .ok (.iconst 0, 1) := by decide +kernel
theorem dX11_strays_43 : decode cX11_strays 43 = .ok (.ireturn, 1) := by decide +kernel
theorem dX11_charge_0 : decode cX11_charge 0 = .ok (.aload_n 0, 1) := by decide +kernel
theorem dX11_charge_1 : decode cX11_charge 1 = .ok (.getfield 7, 3) := by decide +kernel
theorem dX11_charge_4 : decode cX11_charge 4 = .ok (.iconst 3, 1) := by decide +kernel
theorem dX11_charge_5 : decode cX11_charge 5 = .ok (.bipush 6, 2) := by decide +kernel
theorem dX11_charge_7 : decode cX11_charge 7 = .ok (.iload_n 1, 1) := by decide +kernel
theorem dX11_charge_8 : decode cX11_charge 8 = .ok (.imul, 1) := by decide +kernel
theorem dX11_charge_9 : decode cX11_charge 9 = .ok (.iadd, 1) := by decide +kernel
theorem dX11_charge_10 : decode cX11_charge 10 = .ok (.iload_n 2, 1) := by decide +kernel
theorem dX11_charge_11 : decode cX11_charge 11 = .ok (.iadd, 1) := by decide +kernel
theorem dX11_charge_12 : decode cX11_charge 12 = .ok (.dup2, 1) := by decide +kernel
theorem dX11_charge_13 : decode cX11_charge 13 = .ok (.iaload, 1) := by decide +kernel
theorem dX11_charge_14 : decode cX11_charge 14 = .ok (.iconst 1, 1) := by decide +kernel
theorem dX11_charge_15 : decode cX11_charge 15 = .ok (.iadd, 1) := by decide +kernel
theorem dX11_charge_16 : decode cX11_charge 16 = .ok (.iastore, 1) := by decide +kernel
theorem dX11_charge_17 : decode cX11_charge 17 = .ok (.aload_n 0, 1) := by decide +kernel
theorem dX11_charge_18 : decode cX11_charge 18 = .ok (.getfield 7, 3) := by decide +kernel
theorem dX11_charge_21 : decode cX11_charge 21 = .ok (.bipush 15, 2) := by decide +kernel
theorem dX11_charge_23 : decode cX11_charge 23 = .ok (.bipush 6, 2) := by decide +kernel
theorem dX11_charge_25 : decode cX11_charge 25 = .ok (.iload_n 1, 1) := by decide +kernel
theorem dX11_charge_26 : decode cX11_charge 26 = .ok (.imul, 1) := by decide +kernel
theorem dX11_charge_27 : decode cX11_charge 27 = .ok (.iadd, 1) := by decide +kernel
theorem dX11_charge_28 : decode cX11_charge 28 = .ok (.iload_n 2, 1) := by decide +kernel
theorem dX11_charge_29 : decode cX11_charge 29 = .ok (.iadd, 1) := by decide +kernel
theorem dX11_charge_30 : decode cX11_charge 30 = .ok (.dup2, 1) := by decide +kernel
theorem dX11_charge_31 : decode cX11_charge 31 = .ok (.iaload, 1) := by decide +kernel
theorem dX11_charge_32 : decode cX11_charge 32 = .ok (.aload_n 0, 1) := by decide +kernel
theorem dX11_charge_33 : decode cX11_charge 33 = .ok (.getfield 39, 3) := by decide +kernel
theorem dX11_charge_36 : decode cX11_charge 36 = .ok (.iadd, 1) := by decide +kernel
theorem dX11_charge_37 : decode cX11_charge 37 = .ok (.iastore, 1) := by decide +kernel
theorem dX11_charge_38 : decode cX11_charge 38 = .ok (.return_, 1) := by decide +kernel
theorem dX11_day_0 : decode cX11_day 0 = .ok (.iconst 0, 1) := by decide +kernel
theorem dX11_day_1 : decode cX11_day 1 = .ok (.istore_n 1, 1) := by decide +kernel
theorem dX11_day_2 : decode cX11_day 2 = .ok (.iload_n 1, 1) := by decide +kernel
theorem dX11_day_3 : decode cX11_day 3 = .ok (.aload_n 0, 1) := by decide +kernel
theorem dX11_day_4 : decode cX11_day 4 = .ok (.getfield 23, 3) := by decide +kernel
theorem dX11_day_7 : decode cX11_day 7 = .ok (.if_icmp .ge 170, 3) := by decide +kernel
theorem dX11_day_10 : decode cX11_day 10 = .ok (.iconst 0, 1) := by decide +kernel
theorem dX11_day_11 : decode cX11_day 11 = .ok (.istore_n 2, 1) := by decide +kernel
theorem dX11_day_12 : decode cX11_day 12 = .ok (.iload_n 2, 1) := by decide +kernel
theorem dX11_day_13 : decode cX11_day 13 = .ok (.aload_n 0, 1) := by decide +kernel
theorem dX11_day_14 : decode cX11_day 14 = .ok (.getfield 27, 3) := by decide +kernel
theorem dX11_day_17 : decode cX11_day 17 = .ok (.if_icmp .ge 128, 3) := by decide +kernel
theorem dX11_day_20 : decode cX11_day 20 = .ok (.aload_n 0, 1) := by decide +kernel
theorem dX11_day_21 : decode cX11_day 21 = .ok (.iload_n 1, 1) := by decide +kernel
theorem dX11_day_22 : decode cX11_day 22 = .ok (.iload_n 2, 1) := by decide +kernel
theorem dX11_day_23 : decode cX11_day 23 = .ok (.invokevirtual 184, 3) := by decide +kernel
theorem dX11_day_26 : decode cX11_day 26 = .ok (.ifCond .eq 50, 3) := by decide +kernel
theorem dX11_day_29 : decode cX11_day 29 = .ok (.aload_n 0, 1) := by decide +kernel
theorem dX11_day_30 : decode cX11_day 30 = .ok (.iconst 0, 1) := by decide +kernel
theorem dX11_day_31 : decode cX11_day 31 = .ok (.iload_n 1, 1) := by decide +kernel
theorem dX11_day_32 : decode cX11_day 32 = .ok (.iload_n 2, 1) := by decide +kernel
theorem dX11_day_33 : decode cX11_day 33 = .ok (.invokevirtual 187, 3) := by decide +kernel
theorem dX11_day_36 : decode cX11_day 36 = .ok (.istore_n 3, 1) := by decide +kernel
theorem dX11_day_37 : decode cX11_day 37 = .ok (.aload_n 0, 1) := by decide +kernel
theorem dX11_day_38 : decode cX11_day 38 = .ok (.iconst 1, 1) := by decide +kernel
theorem dX11_day_39 : decode cX11_day 39 = .ok (.iload_n 1, 1) := by decide +kernel
theorem dX11_day_40 : decode cX11_day 40 = .ok (.iload_n 2, 1) := by decide +kernel
theorem dX11_day_41 : decode cX11_day 41 = .ok (.invokevirtual 187, 3) := by decide +kernel
theorem dX11_day_44 : decode cX11_day 44 = .ok (.istore 4, 2) := by decide +kernel
theorem dX11_day_46 : decode cX11_day 46 = .ok (.iload_n 3, 1) := by decide +kernel
theorem dX11_day_47 : decode cX11_day 47 = .ok (.ifCond .ne 8, 3) := by decide +kernel
theorem dX11_day_50 : decode cX11_day 50 = .ok (.iload 4, 2) := by decide +kernel
theorem dX11_day_52 : decode cX11_day 52 = .ok (.ifCond .ne 9, 3) := by decide +kernel
theorem dX11_day_55 : decode cX11_day 55 = .ok (.aload_n 0, 1) := by decide +kernel
theorem dX11_day_56 : decode cX11_day 56 = .ok (.iconst 0, 1) := by decide +kernel
theorem dX11_day_57 : decode cX11_day 57 = .ok (.iload_n 1, 1) := by decide +kernel
theorem dX11_day_58 : decode cX11_day 58 = .ok (.invokevirtual 190, 3) := by decide +kernel
theorem dX11_day_61 : decode cX11_day 61 = .ok (.iload 4, 2) := by decide +kernel
theorem dX11_day_63 : decode cX11_day 63 = .ok (.ifCond .ne 7, 3) := by decide +kernel
theorem dX11_day_66 : decode cX11_day 66 = .ok (.iload_n 3, 1) := by decide +kernel
theorem dX11_day_67 : decode cX11_day 67 = .ok (.ifCond .ne 9, 3) := by decide +kernel
theorem dX11_day_70 : decode cX11_day 70 = .ok (.aload_n 0, 1) := by decide +kernel
theorem dX11_day_71 : decode cX11_day 71 = .ok (.iconst 1, 1) := by decide +kernel
theorem dX11_day_72 : decode cX11_day 72 = .ok (.iload_n 1, 1) := by decide +kernel
theorem dX11_day_73 : decode cX11_day 73 = .ok (.invokevirtual 190, 3) := by decide +kernel
theorem dX11_day_76 : decode cX11_day 76 = .ok (.iconst 0, 1) := by decide +kernel
theorem dX11_day_77 : decode cX11_day 77 = .ok (.istore_n 3, 1) := by decide +kernel
theorem dX11_day_78 : decode cX11_day 78 = .ok (.iload_n 3, 1) := by decide +kernel
theorem dX11_day_79 : decode cX11_day 79 = .ok (.iconst 2, 1) := by decide +kernel
theorem dX11_day_80 : decode cX11_day 80 = .ok (.if_icmp .ge 59, 3) := by decide +kernel
theorem dX11_day_83 : decode cX11_day 83 = .ok (.aload_n 0, 1) := by decide +kernel
theorem dX11_day_84 : decode cX11_day 84 = .ok (.getfield 30, 3) := by decide +kernel
theorem dX11_day_87 : decode cX11_day 87 = .ok (.iconst 4, 1) := by decide +kernel
theorem dX11_day_88 : decode cX11_day 88 = .ok (.aload_n 0, 1) := by decide +kernel
theorem dX11_day_89 : decode cX11_day 89 = .ok (.iload_n 3, 1) := by decide +kernel
theorem dX11_day_90 : decode cX11_day 90 = .ok (.iload_n 1, 1) := by decide +kernel
theorem dX11_day_91 : decode cX11_day 91 = .ok (.iload_n 2, 1) := by decide +kernel
theorem dX11_day_92 : decode cX11_day 92 = .ok (.invokevirtual 181, 3) := by decide +kernel
theorem dX11_day_95 : decode cX11_day 95 = .ok (.imul, 1) := by decide +kernel
theorem dX11_day_96 : decode cX11_day 96 = .ok (.iconst 1, 1) := by decide +kernel
theorem dX11_day_97 : decode cX11_day 97 = .ok (.iadd, 1) := by decide +kernel
theorem dX11_day_98 : decode cX11_day 98 = .ok (.iload_n 3, 1) := by decide +kernel
theorem dX11_day_99 : decode cX11_day 99 = .ok (.iadd, 1) := by decide +kernel
theorem dX11_day_100 : decode cX11_day 100 = .ok (.iaload, 1) := by decide +kernel
theorem dX11_day_101 : decode cX11_day 101 = .ok (.istore 4, 2) := by decide +kernel
theorem dX11_day_103 : decode cX11_day 103 = .ok (.aload_n 0, 1) := by decide +kernel
theorem dX11_day_104 : decode cX11_day 104 = .ok (.getfield 7, 3) := by decide +kernel
theorem dX11_day_107 : decode cX11_day 107 = .ok (.iconst 1, 1) := by decide +kernel
theorem dX11_day_108 : decode cX11_day 108 = .ok (.iload_n 3, 1) := by decide +kernel
theorem dX11_day_109 : decode cX11_day 109 = .ok (.iadd, 1) := by decide +kernel
theorem dX11_day_110 : decode cX11_day 110 = .ok (.dup2, 1) := by decide +kernel
theorem dX11_day_111 : decode cX11_day 111 = .ok (.iaload, 1) := by decide +kernel
theorem dX11_day_112 : decode cX11_day 112 = .ok (.aload_n 0, 1) := by decide +kernel
theorem dX11_day_113 : decode cX11_day 113 = .ok (.getfield 33, 3) := by decide +kernel
theorem dX11_day_116 : decode cX11_day 116 = .ok (.iload_n 1, 1) := by decide +kernel
theorem dX11_day_117 : decode cX11_day 117 = .ok (.iaload, 1) := by decide +kernel
theorem dX11_day_118 : decode cX11_day 118 = .ok (.iconst 2, 1) := by decide +kernel
theorem dX11_day_119 : decode cX11_day 119 = .ok (.if_icmp .ne 10, 3) := by decide +kernel
theorem dX11_day_122 : decode cX11_day 122 = .ok (.iload 4, 2) := by decide +kernel
theorem dX11_day_124 : decode cX11_day 124 = .ok (.iconst 2, 1) := by decide +kernel
theorem dX11_day_125 : decode cX11_day 125 = .ok (.idiv, 1) := by decide +kernel
theorem dX11_day_126 : decode cX11_day 126 = .ok (.goto 5, 3) := by decide +kernel
theorem dX11_day_129 : decode cX11_day 129 = .ok (.iload 4, 2) := by decide +kernel
theorem dX11_day_131 : decode cX11_day 131 = .ok (.iadd, 1) := by decide +kernel
theorem dX11_day_132 : decode cX11_day 132 = .ok (.iastore, 1) := by decide +kernel
theorem dX11_day_133 : decode cX11_day 133 = .ok (.iinc 3 1, 3) := by decide +kernel
theorem dX11_day_136 : decode cX11_day 136 = .ok (.goto (-58), 3) := by decide +kernel
theorem dX11_day_139 : decode cX11_day 139 = .ok (.iinc 2 1, 3) := by decide +kernel
theorem dX11_day_142 : decode cX11_day 142 = .ok (.goto (-130), 3) := by decide +kernel
theorem dX11_day_145 : decode cX11_day 145 = .ok (.aload_n 0, 1) := by decide +kernel
theorem dX11_day_146 : decode cX11_day 146 = .ok (.getfield 7, 3) := by decide +kernel
theorem dX11_day_149 : decode cX11_day 149 = .ok (.iconst 1, 1) := by decide +kernel
theorem dX11_day_150 : decode cX11_day 150 = .ok (.dup2, 1) := by decide +kernel
theorem dX11_day_151 : decode cX11_day 151 = .ok (.iaload, 1) := by decide +kernel
theorem dX11_day_152 : decode cX11_day 152 = .ok (.aload_n 0, 1) := by decide +kernel
theorem dX11_day_153 : decode cX11_day 153 = .ok (.getfield 150, 3) := by decide +kernel
theorem dX11_day_156 : decode cX11_day 156 = .ok (.isub, 1) := by decide +kernel
theorem dX11_day_157 : decode cX11_day 157 = .ok (.iastore, 1) := by decide +kernel
theorem dX11_day_158 : decode cX11_day 158 = .ok (.aload_n 0, 1) := by decide +kernel
theorem dX11_day_159 : decode cX11_day 159 = .ok (.getfield 7, 3) := by decide +kernel
theorem dX11_day_162 : decode cX11_day 162 = .ok (.iconst 2, 1) := by decide +kernel
theorem dX11_day_163 : decode cX11_day 163 = .ok (.dup2, 1) := by decide +kernel
theorem dX11_day_164 : decode cX11_day 164 = .ok (.iaload, 1) := by decide +kernel
theorem dX11_day_165 : decode cX11_day 165 = .ok (.aload_n 0, 1) := by decide +kernel
theorem dX11_day_166 : decode cX11_day 166 = .ok (.getfield 150, 3) := by decide +kernel
theorem dX11_day_169 : decode cX11_day 169 = .ok (.isub, 1) := by decide +kernel
theorem dX11_day_170 : decode cX11_day 170 = .ok (.iastore, 1) := by decide +kernel
theorem dX11_day_171 : decode cX11_day 171 = .ok (.iinc 1 1, 3) := by decide +kernel
theorem dX11_day_174 : decode cX11_day 174 = .ok (.goto (-172), 3) := by decide +kernel
theorem dX11_day_177 : decode cX11_day 177 = .ok (.aload_n 0, 1) := by decide +kernel
theorem dX11_day_178 : decode cX11_day 178 = .ok (.getfield 7, 3) := by decide +kernel
theorem dX11_day_181 : decode cX11_day 181 = .ok (.iconst 0, 1) := by decide +kernel
theorem dX11_day_182 : decode cX11_day 182 = .ok (.dup2, 1) := by decide +kernel
theorem dX11_day_183 : decode cX11_day 183 = .ok (.iaload, 1) := by decide +kernel
theorem dX11_day_184 : decode cX11_day 184 = .ok (.iconst 1, 1) := by decide +kernel
theorem dX11_day_185 : decode cX11_day 185 = .ok (.iadd, 1) := by decide +kernel
theorem dX11_day_186 : decode cX11_day 186 = .ok (.iastore, 1) := by decide +kernel
theorem dX11_day_187 : decode cX11_day 187 = .ok (.bipush 39, 2) := by decide +kernel
theorem dX11_day_189 : decode cX11_day 189 = .ok (.istore_n 1, 1) := by decide +kernel
theorem dX11_day_190 : decode cX11_day 190 = .ok (.iload_n 1, 1) := by decide +kernel
theorem dX11_day_191 : decode cX11_day 191 = .ok (.bipush 87, 2) := by decide +kernel
theorem dX11_day_193 : decode cX11_day 193 = .ok (.if_icmp .ge 16, 3) := by decide +kernel
theorem dX11_day_196 : decode cX11_day 196 = .ok (.aload_n 0, 1) := by decide +kernel
theorem dX11_day_197 : decode cX11_day 197 = .ok (.getfield 7, 3) := by decide +kernel
theorem dX11_day_200 : decode cX11_day 200 = .ok (.iload_n 1, 1) := by decide +kernel
theorem dX11_day_201 : decode cX11_day 201 = .ok (.iconst (-1), 1) := by decide +kernel
theorem dX11_day_202 : decode cX11_day 202 = .ok (.iastore, 1) := by decide +kernel
theorem dX11_day_203 : decode cX11_day 203 = .ok (.iinc 1 1, 3) := by decide +kernel
theorem dX11_day_206 : decode cX11_day 206 = .ok (.goto (-16), 3) := by decide +kernel
theorem dX11_day_209 : decode cX11_day 209 = .ok (.return_, 1) := by decide +kernel
theorem dX11_days_0 : decode cX11_days 0 = .ok (.iload_n 1, 1) := by decide +kernel
theorem dX11_days_1 : decode cX11_days 1 = .ok (.i2l, 1) := by decide +kernel
theorem dX11_days_2 : decode cX11_days 2 = .ok (.lconst 1, 1) := by decide +kernel
theorem dX11_days_3 : decode cX11_days 3 = .ok (.ldc2_w 194, 3) := by decide +kernel
theorem dX11_days_6 : decode cX11_days 6 = .ok (.invokestatic 80, 3) := by decide +kernel
theorem dX11_days_9 : decode cX11_days 9 = .ok (.ifCond .ne 6, 3) := by decide +kernel
theorem dX11_days_12 : decode cX11_days 12 = .ok (.bipush (-3), 2) := by decide +kernel
theorem dX11_days_14 : decode cX11_days 14 = .ok (.ireturn, 1) := by decide +kernel
theorem dX11_days_15 : decode cX11_days 15 = .ok (.iconst 0, 1) := by decide +kernel
theorem dX11_days_16 : decode cX11_days 16 = .ok (.istore_n 2, 1) := by decide +kernel
theorem dX11_days_17 : decode cX11_days 17 = .ok (.iload_n 2, 1) := by decide +kernel
theorem dX11_days_18 : decode cX11_days 18 = .ok (.iload_n 1, 1) := by decide +kernel
theorem dX11_days_19 : decode cX11_days 19 = .ok (.if_icmp .ge 13, 3) := by decide +kernel
theorem dX11_days_22 : decode cX11_days 22 = .ok (.aload_n 0, 1) := by decide +kernel
theorem dX11_days_23 : decode cX11_days 23 = .ok (.invokevirtual 196, 3) := by decide +kernel
theorem dX11_days_26 : decode cX11_days 26 = .ok (.iinc 2 1, 3) := by decide +kernel
theorem dX11_days_29 : decode cX11_days 29 = .ok (.goto (-12), 3) := by decide +kernel
theorem dX11_days_32 : decode cX11_days 32 = .ok (.aload_n 0, 1) := by decide +kernel
theorem dX11_days_33 : decode cX11_days 33 = .ok (.getfield 7, 3) := by decide +kernel
theorem dX11_days_36 : decode cX11_days 36 = .ok (.iconst 0, 1) := by decide +kernel
theorem dX11_days_37 : decode cX11_days 37 = .ok (.iaload, 1) := by decide +kernel
theorem dX11_days_38 : decode cX11_days 38 = .ok (.ireturn, 1) := by decide +kernel
theorem dX11_person_0 : decode cX11_person 0 = .ok (.iload_n 1, 1) := by decide +kernel
theorem dX11_person_1 : decode cX11_person 1 = .ok (.invokestatic 164, 3) := by decide +kernel
theorem dX11_person_4 : decode cX11_person 4 = .ok (.ifCond .eq 11, 3) := by decide +kernel
theorem dX11_person_7 : decode cX11_person 7 = .ok (.aload_n 0, 1) := by decide +kernel
theorem dX11_person_8 : decode cX11_person 8 = .ok (.iload_n 2, 1) := by decide +kernel
theorem dX11_person_9 : decode cX11_person 9 = .ok (.invokevirtual 167, 3) := by decide +kernel
theorem dX11_person_12 : decode cX11_person 12 = .ok (.ifCond .ne 6, 3) := by decide +kernel
theorem dX11_person_15 : decode cX11_person 15 = .ok (.bipush (-2), 2) := by decide +kernel
theorem dX11_person_17 : decode cX11_person 17 = .ok (.ireturn, 1) := by decide +kernel
theorem dX11_person_18 : decode cX11_person 18 = .ok (.iload_n 3, 1) := by decide +kernel
theorem dX11_person_19 : decode cX11_person 19 = .ok (.ifCond .ne 19, 3) := by decide +kernel
theorem dX11_person_22 : decode cX11_person 22 = .ok (.aload_n 0, 1) := by decide +kernel
theorem dX11_person_23 : decode cX11_person 23 = .ok (.getfield 7, 3) := by decide +kernel
theorem dX11_person_26 : decode cX11_person 26 = .ok (.iconst 3, 1) := by decide +kernel
theorem dX11_person_27 : decode cX11_person 27 = .ok (.bipush 6, 2) := by decide +kernel
theorem dX11_person_29 : decode cX11_person 29 = .ok (.iload_n 1, 1) := by decide +kernel
theorem dX11_person_30 : decode cX11_person 30 = .ok (.imul, 1) := by decide +kernel
theorem dX11_person_31 : decode cX11_person 31 = .ok (.iadd, 1) := by decide +kernel
theorem dX11_person_32 : decode cX11_person 32 = .ok (.iload_n 2, 1) := by decide +kernel
theorem dX11_person_33 : decode cX11_person 33 = .ok (.iadd, 1) := by decide +kernel
theorem dX11_person_34 : decode cX11_person 34 = .ok (.iaload, 1) := by decide +kernel
theorem dX11_person_35 : decode cX11_person 35 = .ok (.goto 59, 3) := by decide +kernel
theorem dX11_person_38 : decode cX11_person 38 = .ok (.iload_n 3, 1) := by decide +kernel
theorem dX11_person_39 : decode cX11_person 39 = .ok (.iconst 1, 1) := by decide +kernel
theorem dX11_person_40 : decode cX11_person 40 = .ok (.if_icmp .ne 20, 3) := by decide +kernel
theorem dX11_person_43 : decode cX11_person 43 = .ok (.aload_n 0, 1) := by decide +kernel
theorem dX11_person_44 : decode cX11_person 44 = .ok (.getfield 7, 3) := by decide +kernel
theorem dX11_person_47 : decode cX11_person 47 = .ok (.bipush 15, 2) := by decide +kernel
theorem dX11_person_49 : decode cX11_person 49 = .ok (.bipush 6, 2) := by decide +kernel
theorem dX11_person_51 : decode cX11_person 51 = .ok (.iload_n 1, 1) := by decide +kernel
theorem dX11_person_52 : decode cX11_person 52 = .ok (.imul, 1) := by decide +kernel
theorem dX11_person_53 : decode cX11_person 53 = .ok (.iadd, 1) := by decide +kernel
theorem dX11_person_54 : decode cX11_person 54 = .ok (.iload_n 2, 1) := by decide +kernel
theorem dX11_person_55 : decode cX11_person 55 = .ok (.iadd, 1) := by decide +kernel
theorem dX11_person_56 : decode cX11_person 56 = .ok (.iaload, 1) := by decide +kernel
theorem dX11_person_57 : decode cX11_person 57 = .ok (.goto 37, 3) := by decide +kernel
theorem dX11_person_60 : decode cX11_person 60 = .ok (.iload_n 3, 1) := by decide +kernel
theorem dX11_person_61 : decode cX11_person 61 = .ok (.i2l, 1) := by decide +kernel
theorem dX11_person_62 : decode cX11_person 62 = .ok (.ldc2_w 199, 3) := by decide +kernel
theorem dX11_person_65 : decode cX11_person 65 = .ok (.bipush 9, 2) := by decide +kernel
theorem dX11_person_67 : decode cX11_person 67 = .ok (.aload_n 0, 1) := by decide +kernel
theorem dX11_person_68 : decode cX11_person 68 = .ok (.getfield 27, 3) := by decide +kernel
theorem dX11_person_71 : decode cX11_person 71 = .ok (.iadd, 1) := by decide +kernel
theorem dX11_person_72 : decode cX11_person 72 = .ok (.i2l, 1) := by decide +kernel
theorem dX11_person_73 : decode cX11_person 73 = .ok (.invokestatic 80, 3) := by decide +kernel
theorem dX11_person_76 : decode cX11_person 76 = .ok (.ifCond .eq 16, 3) := by decide +kernel
theorem dX11_person_79 : decode cX11_person 79 = .ok (.aload_n 0, 1) := by decide +kernel
theorem dX11_person_80 : decode cX11_person 80 = .ok (.iload_n 1, 1) := by decide +kernel
theorem dX11_person_81 : decode cX11_person 81 = .ok (.iload_n 2, 1) := by decide +kernel
theorem dX11_person_82 : decode cX11_person 82 = .ok (.iload_n 3, 1) := by decide +kernel
theorem dX11_person_83 : decode cX11_person 83 = .ok (.bipush 10, 2) := by decide +kernel
theorem dX11_person_85 : decode cX11_person 85 = .ok (.isub, 1) := by decide +kernel
theorem dX11_person_86 : decode cX11_person 86 = .ok (.invokevirtual 181, 3) := by decide +kernel
theorem dX11_person_89 : decode cX11_person 89 = .ok (.goto 5, 3) := by decide +kernel
theorem dX11_person_92 : decode cX11_person 92 = .ok (.bipush (-3), 2) := by decide +kernel
theorem dX11_person_94 : decode cX11_person 94 = .ok (.ireturn, 1) := by decide +kernel
theorem dX11_bread_0 : decode cX11_bread 0 = .ok (.iload_n 1, 1) := by decide +kernel
theorem dX11_bread_1 : decode cX11_bread 1 = .ok (.invokestatic 164, 3) := by decide +kernel
theorem dX11_bread_4 : decode cX11_bread 4 = .ok (.ifCond .eq 17, 3) := by decide +kernel
theorem dX11_bread_7 : decode cX11_bread 7 = .ok (.aload_n 0, 1) := by decide +kernel
theorem dX11_bread_8 : decode cX11_bread 8 = .ok (.getfield 7, 3) := by decide +kernel
theorem dX11_bread_11 : decode cX11_bread 11 = .ok (.iconst 1, 1) := by decide +kernel
theorem dX11_bread_12 : decode cX11_bread 12 = .ok (.iload_n 1, 1) := by decide +kernel
theorem dX11_bread_13 : decode cX11_bread 13 = .ok (.iadd, 1) := by decide +kernel
theorem dX11_bread_14 : decode cX11_bread 14 = .ok (.iaload, 1) := by decide +kernel
theorem dX11_bread_15 : decode cX11_bread 15 = .ok (.ldc 201, 2) := by decide +kernel
theorem dX11_bread_17 : decode cX11_bread 17 = .ok (.iadd, 1) := by decide +kernel
theorem dX11_bread_18 : decode cX11_bread 18 = .ok (.goto 5, 3) := by decide +kernel
theorem dX11_bread_21 : decode cX11_bread 21 = .ok (.bipush (-2), 2) := by decide +kernel
theorem dX11_bread_23 : decode cX11_bread 23 = .ok (.ireturn, 1) := by decide +kernel
theorem dX11_breaches_0 : decode cX11_breaches 0 = .ok (.aload_n 0, 1) := by decide +kernel
theorem dX11_breaches_1 : decode cX11_breaches 1 = .ok (.iload_n 1, 1) := by decide +kernel
theorem dX11_breaches_2 : decode cX11_breaches 2 = .ok (.invokevirtual 167, 3) := by decide +kernel
theorem dX11_breaches_5 : decode cX11_breaches 5 = .ok (.ifCond .ne 6, 3) := by decide +kernel
theorem dX11_breaches_8 : decode cX11_breaches 8 = .ok (.bipush (-2), 2) := by decide +kernel
theorem dX11_breaches_10 : decode cX11_breaches 10 = .ok (.ireturn, 1) := by decide +kernel
theorem dX11_breaches_11 : decode cX11_breaches 11 = .ok (.iconst 0, 1) := by decide +kernel
theorem dX11_breaches_12 : decode cX11_breaches 12 = .ok (.istore_n 2, 1) := by decide +kernel
theorem dX11_breaches_13 : decode cX11_breaches 13 = .ok (.iconst 0, 1) := by decide +kernel
theorem dX11_breaches_14 : decode cX11_breaches 14 = .ok (.istore_n 3, 1) := by decide +kernel
theorem dX11_breaches_15 : decode cX11_breaches 15 = .ok (.iload_n 3, 1) := by decide +kernel
theorem dX11_breaches_16 : decode cX11_breaches 16 = .ok (.aload_n 0, 1) := by decide +kernel
theorem dX11_breaches_17 : decode cX11_breaches 17 = .ok (.getfield 27, 3) := by decide +kernel
theorem dX11_breaches_20 : decode cX11_breaches 20 = .ok (.if_icmp .ge 28, 3) := by decide +kernel
theorem dX11_breaches_23 : decode cX11_breaches 23 = .ok (.iload_n 2, 1) := by decide +kernel
theorem dX11_breaches_24 : decode cX11_breaches 24 = .ok (.aload_n 0, 1) := by decide +kernel
theorem dX11_breaches_25 : decode cX11_breaches 25 = .ok (.iload_n 1, 1) := by decide +kernel
theorem dX11_breaches_26 : decode cX11_breaches 26 = .ok (.iload_n 3, 1) := by decide +kernel
theorem dX11_breaches_27 : decode cX11_breaches 27 = .ok (.invokevirtual 184, 3) := by decide +kernel
theorem dX11_breaches_30 : decode cX11_breaches 30 = .ok (.ifCond .eq 9, 3) := by decide +kernel
theorem dX11_breaches_33 : decode cX11_breaches 33 = .ok (.iconst 1, 1) := by decide +kernel
theorem dX11_breaches_34 : decode cX11_breaches 34 = .ok (.iload_n 3, 1) := by decide +kernel
theorem dX11_breaches_35 : decode cX11_breaches 35 = .ok (.ishl, 1) := by decide +kernel
theorem dX11_breaches_36 : decode cX11_breaches 36 = .ok (.goto 4, 3) := by decide +kernel
theorem dX11_breaches_39 : decode cX11_breaches 39 = .ok (.iconst 0, 1) := by decide +kernel
theorem dX11_breaches_40 : decode cX11_breaches 40 = .ok (.ior, 1) := by decide +kernel
theorem dX11_breaches_41 : decode cX11_breaches 41 = .ok (.istore_n 2, 1) := by decide +kernel
theorem dX11_breaches_42 : decode cX11_breaches 42 = .ok (.iinc 3 1, 3) := by decide +kernel
theorem dX11_breaches_45 : decode cX11_breaches 45 = .ok (.goto (-30), 3) := by decide +kernel
theorem dX11_breaches_48 : decode cX11_breaches 48 = .ok (.iload_n 2, 1) := by decide +kernel
theorem dX11_breaches_49 : decode cX11_breaches 49 = .ok (.ireturn, 1) := by decide +kernel
theorem dX11_as_0 : decode cX11_as 0 = .ok (.aload_n 0, 1) := by decide +kernel
theorem dX11_as_1 : decode cX11_as 1 = .ok (.iload_n 1, 1) := by decide +kernel
theorem dX11_as_2 : decode cX11_as 2 = .ok (.invokevirtual 167, 3) := by decide +kernel
theorem dX11_as_5 : decode cX11_as 5 = .ok (.ifCond .ne 6, 3) := by decide +kernel
theorem dX11_as_8 : decode cX11_as 8 = .ok (.bipush (-2), 2) := by decide +kernel
theorem dX11_as_10 : decode cX11_as 10 = .ok (.ireturn, 1) := by decide +kernel
theorem dX11_as_11 : decode cX11_as 11 = .ok (.iload_n 2, 1) := by decide +kernel
theorem dX11_as_12 : decode cX11_as 12 = .ok (.i2l, 1) := by decide +kernel
theorem dX11_as_13 : decode cX11_as 13 = .ok (.lconst 0, 1) := by decide +kernel
theorem dX11_as_14 : decode cX11_as 14 = .ok (.ldc2_w 202, 3) := by decide +kernel
theorem dX11_as_17 : decode cX11_as 17 = .ok (.invokestatic 80, 3) := by decide +kernel
theorem dX11_as_20 : decode cX11_as 20 = .ok (.ifCond .ne 6, 3) := by decide +kernel
theorem dX11_as_23 : decode cX11_as 23 = .ok (.bipush (-3), 2) := by decide +kernel
theorem dX11_as_25 : decode cX11_as 25 = .ok (.ireturn, 1) := by decide +kernel
theorem dX11_as_26 : decode cX11_as 26 = .ok (.aload_n 0, 1) := by decide +kernel
theorem dX11_as_27 : decode cX11_as 27 = .ok (.getfield 33, 3) := by decide +kernel
theorem dX11_as_30 : decode cX11_as 30 = .ok (.iload_n 1, 1) := by decide +kernel
theorem dX11_as_31 : decode cX11_as 31 = .ok (.iaload, 1) := by decide +kernel
theorem dX11_as_32 : decode cX11_as 32 = .ok (.istore_n 3, 1) := by decide +kernel
theorem dX11_as_33 : decode cX11_as 33 = .ok (.iload_n 2, 1) := by decide +kernel
theorem dX11_as_34 : decode cX11_as 34 = .ok (.ifCond .eq 59, 3) := by decide +kernel
theorem dX11_as_37 : decode cX11_as 37 = .ok (.iload_n 2, 1) := by decide +kernel
theorem dX11_as_38 : decode cX11_as 38 = .ok (.iconst 1, 1) := by decide +kernel
theorem dX11_as_39 : decode cX11_as 39 = .ok (.if_icmp .ne 8, 3) := by decide +kernel
theorem dX11_as_42 : decode cX11_as 42 = .ok (.iload_n 3, 1) := by decide +kernel
theorem dX11_as_43 : decode cX11_as 43 = .ok (.iconst 3, 1) := by decide +kernel
theorem dX11_as_44 : decode cX11_as 44 = .ok (.if_icmp .lt 49, 3) := by decide +kernel
theorem dX11_as_47 : decode cX11_as 47 = .ok (.iload_n 2, 1) := by decide +kernel
theorem dX11_as_48 : decode cX11_as 48 = .ok (.iconst 2, 1) := by decide +kernel
theorem dX11_as_49 : decode cX11_as 49 = .ok (.if_icmp .eq 9, 3) := by decide +kernel
theorem dX11_as_52 : decode cX11_as 52 = .ok (.iload_n 2, 1) := by decide +kernel
theorem dX11_as_53 : decode cX11_as 53 = .ok (.bipush 6, 2) := by decide +kernel
theorem dX11_as_55 : decode cX11_as 55 = .ok (.if_icmp .ne 8, 3) := by decide +kernel
theorem dX11_as_58 : decode cX11_as 58 = .ok (.iload_n 3, 1) := by decide +kernel
theorem dX11_as_59 : decode cX11_as 59 = .ok (.iconst 3, 1) := by decide +kernel
theorem dX11_as_60 : decode cX11_as 60 = .ok (.if_icmp .eq 33, 3) := by decide +kernel
theorem dX11_as_63 : decode cX11_as 63 = .ok (.iload_n 2, 1) := by decide +kernel
theorem dX11_as_64 : decode cX11_as 64 = .ok (.iconst 3, 1) := by decide +kernel
theorem dX11_as_65 : decode cX11_as 65 = .ok (.if_icmp .ne 8, 3) := by decide +kernel
theorem dX11_as_68 : decode cX11_as 68 = .ok (.iload_n 3, 1) := by decide +kernel
theorem dX11_as_69 : decode cX11_as 69 = .ok (.iconst 2, 1) := by decide +kernel
theorem dX11_as_70 : decode cX11_as 70 = .ok (.if_icmp .lt 23, 3) := by decide +kernel
theorem dX11_as_73 : decode cX11_as 73 = .ok (.iload_n 2, 1) := by decide +kernel
theorem dX11_as_74 : decode cX11_as 74 = .ok (.iconst 4, 1) := by decide +kernel
theorem dX11_as_75 : decode cX11_as 75 = .ok (.if_icmp .ne 8, 3) := by decide +kernel
theorem dX11_as_78 : decode cX11_as 78 = .ok (.iload_n 3, 1) := by decide +kernel
theorem dX11_as_79 : decode cX11_as 79 = .ok (.iconst 1, 1) := by decide +kernel
theorem dX11_as_80 : decode cX11_as 80 = .ok (.if_icmp .eq 13, 3) := by decide +kernel
theorem dX11_as_83 : decode cX11_as 83 = .ok (.iload_n 2, 1) := by decide +kernel
theorem dX11_as_84 : decode cX11_as 84 = .ok (.iconst 5, 1) := by decide +kernel
theorem dX11_as_85 : decode cX11_as 85 = .ok (.if_icmp .ne 12, 3) := by decide +kernel
theorem dX11_as_88 : decode cX11_as 88 = .ok (.iload_n 3, 1) := by decide +kernel
theorem dX11_as_89 : decode cX11_as 89 = .ok (.iconst 2, 1) := by decide +kernel
theorem dX11_as_90 : decode cX11_as 90 = .ok (.if_icmp .ne 7, 3) := by decide +kernel
theorem dX11_as_93 : decode cX11_as 93 = .ok (.iconst 1, 1) := by decide +kernel
theorem dX11_as_94 : decode cX11_as 94 = .ok (.goto 4, 3) := by decide +kernel
theorem dX11_as_97 : decode cX11_as 97 = .ok (.iconst 0, 1) := by decide +kernel
theorem dX11_as_98 : decode cX11_as 98 = .ok (.istore 4, 2) := by decide +kernel
theorem dX11_as_100 : decode cX11_as 100 = .ok (.iload 4, 2) := by decide +kernel
theorem dX11_as_102 : decode cX11_as 102 = .ok (.ifCond .eq 24, 3) := by decide +kernel
theorem dX11_as_105 : decode cX11_as 105 = .ok (.aload_n 0, 1) := by decide +kernel
theorem dX11_as_106 : decode cX11_as 106 = .ok (.getfield 7, 3) := by decide +kernel
theorem dX11_as_109 : decode cX11_as 109 = .ok (.iconst 3, 1) := by decide +kernel
theorem dX11_as_110 : decode cX11_as 110 = .ok (.iload_n 1, 1) := by decide +kernel
theorem dX11_as_111 : decode cX11_as 111 = .ok (.iadd, 1) := by decide +kernel
theorem dX11_as_112 : decode cX11_as 112 = .ok (.iaload, 1) := by decide +kernel
theorem dX11_as_113 : decode cX11_as 113 = .ok (.aload_n 0, 1) := by decide +kernel
theorem dX11_as_114 : decode cX11_as 114 = .ok (.getfield 7, 3) := by decide +kernel
theorem dX11_as_117 : decode cX11_as 117 = .ok (.bipush 9, 2) := by decide +kernel
theorem dX11_as_119 : decode cX11_as 119 = .ok (.iload_n 1, 1) := by decide +kernel
theorem dX11_as_120 : decode cX11_as 120 = .ok (.iadd, 1) := by decide +kernel
theorem dX11_as_121 : decode cX11_as 121 = .ok (.iaload, 1) := by decide +kernel
theorem dX11_as_122 : decode cX11_as 122 = .ok (.iadd, 1) := by decide +kernel
theorem dX11_as_123 : decode cX11_as 123 = .ok (.goto 5, 3) := by decide +kernel
theorem dX11_as_126 : decode cX11_as 126 = .ok (.bipush (-4), 2) := by decide +kernel
theorem dX11_as_128 : decode cX11_as 128 = .ok (.ireturn, 1) := by decide +kernel
theorem dX11_fits_0 : decode cX11_fits 0 = .ok (.iload_n 1, 1) := by decide +kernel
theorem dX11_fits_1 : decode cX11_fits 1 = .ok (.aload_n 0, 1) := by decide +kernel
theorem dX11_fits_2 : decode cX11_fits 2 = .ok (.getfield 27, 3) := by decide +kernel
theorem dX11_fits_5 : decode cX11_fits 5 = .ok (.idiv, 1) := by decide +kernel
theorem dX11_fits_6 : decode cX11_fits 6 = .ok (.istore 5, 2) := by decide +kernel
theorem dX11_fits_8 : decode cX11_fits 8 = .ok (.iload_n 1, 1) := by decide +kernel
theorem dX11_fits_9 : decode cX11_fits 9 = .ok (.aload_n 0, 1) := by decide +kernel
theorem dX11_fits_10 : decode cX11_fits 10 = .ok (.getfield 27, 3) := by decide +kernel
theorem dX11_fits_13 : decode cX11_fits 13 = .ok (.irem, 1) := by decide +kernel
theorem dX11_fits_14 : decode cX11_fits 14 = .ok (.istore 6, 2) := by decide +kernel
theorem dX11_fits_16 : decode cX11_fits 16 = .ok (.aload_n 0, 1) := by decide +kernel
theorem dX11_fits_17 : decode cX11_fits 17 = .ok (.getfield 30, 3) := by decide +kernel
theorem dX11_fits_20 : decode cX11_fits 20 = .ok (.iconst 4, 1) := by decide +kernel
theorem dX11_fits_21 : decode cX11_fits 21 = .ok (.iload_n 3, 1) := by decide +kernel
theorem dX11_fits_22 : decode cX11_fits 22 = .ok (.imul, 1) := by decide +kernel
theorem dX11_fits_23 : decode cX11_fits 23 = .ok (.iaload, 1) := by decide +kernel
theorem dX11_fits_24 : decode cX11_fits 24 = .ok (.aload_n 0, 1) := by decide +kernel
theorem dX11_fits_25 : decode cX11_fits 25 = .ok (.getfield 30, 3) := by decide +kernel
theorem dX11_fits_28 : decode cX11_fits 28 = .ok (.iconst 4, 1) := by decide +kernel
theorem dX11_fits_29 : decode cX11_fits 29 = .ok (.iload 4, 2) := by decide +kernel
theorem dX11_fits_31 : decode cX11_fits 31 = .ok (.imul, 1) := by decide +kernel
theorem dX11_fits_32 : decode cX11_fits 32 = .ok (.iaload, 1) := by decide +kernel
theorem dX11_fits_33 : decode cX11_fits 33 = .ok (.if_icmp .ne 7, 3) := by decide +kernel
theorem dX11_fits_36 : decode cX11_fits 36 = .ok (.iconst 1, 1) := by decide +kernel
theorem dX11_fits_37 : decode cX11_fits 37 = .ok (.goto 4, 3) := by decide +kernel
theorem dX11_fits_40 : decode cX11_fits 40 = .ok (.iconst 0, 1) := by decide +kernel
theorem dX11_fits_41 : decode cX11_fits 41 = .ok (.istore 7, 2) := by decide +kernel
theorem dX11_fits_43 : decode cX11_fits 43 = .ok (.aload_n 0, 1) := by decide +kernel
theorem dX11_fits_44 : decode cX11_fits 44 = .ok (.iconst 0, 1) := by decide +kernel
theorem dX11_fits_45 : decode cX11_fits 45 = .ok (.iload 5, 2) := by decide +kernel
theorem dX11_fits_47 : decode cX11_fits 47 = .ok (.iload 6, 2) := by decide +kernel
theorem dX11_fits_49 : decode cX11_fits 49 = .ok (.iload_n 3, 1) := by decide +kernel
theorem dX11_fits_50 : decode cX11_fits 50 = .ok (.invokevirtual 177, 3) := by decide +kernel
theorem dX11_fits_53 : decode cX11_fits 53 = .ok (.ifCond .eq 46, 3) := by decide +kernel
theorem dX11_fits_56 : decode cX11_fits 56 = .ok (.aload_n 0, 1) := by decide +kernel
theorem dX11_fits_57 : decode cX11_fits 57 = .ok (.iconst 1, 1) := by decide +kernel
theorem dX11_fits_58 : decode cX11_fits 58 = .ok (.iload 5, 2) := by decide +kernel
theorem dX11_fits_60 : decode cX11_fits 60 = .ok (.iload 6, 2) := by decide +kernel
theorem dX11_fits_62 : decode cX11_fits 62 = .ok (.iload 4, 2) := by decide +kernel
theorem dX11_fits_64 : decode cX11_fits 64 = .ok (.invokevirtual 177, 3) := by decide +kernel
theorem dX11_fits_67 : decode cX11_fits 67 = .ok (.ifCond .eq 32, 3) := by decide +kernel
theorem dX11_fits_70 : decode cX11_fits 70 = .ok (.aload_n 0, 1) := by decide +kernel
theorem dX11_fits_71 : decode cX11_fits 71 = .ok (.getfield 33, 3) := by decide +kernel
theorem dX11_fits_74 : decode cX11_fits 74 = .ok (.iload 5, 2) := by decide +kernel
theorem dX11_fits_76 : decode cX11_fits 76 = .ok (.iaload, 1) := by decide +kernel
theorem dX11_fits_77 : decode cX11_fits 77 = .ok (.iconst 3, 1) := by decide +kernel
theorem dX11_fits_78 : decode cX11_fits 78 = .ok (.if_icmp .eq 17, 3) := by decide +kernel
theorem dX11_fits_81 : decode cX11_fits 81 = .ok (.iload 7, 2) := by decide +kernel
theorem dX11_fits_83 : decode cX11_fits 83 = .ok (.iload_n 2, 1) := by decide +kernel
theorem dX11_fits_84 : decode cX11_fits 84 = .ok (.ifCond .ne 7, 3) := by decide +kernel
theorem dX11_fits_87 : decode cX11_fits 87 = .ok (.iconst 1, 1) := by decide +kernel
theorem dX11_fits_88 : decode cX11_fits 88 = .ok (.goto 4, 3) := by decide +kernel
theorem dX11_fits_91 : decode cX11_fits 91 = .ok (.iconst 0, 1) := by decide +kernel
theorem dX11_fits_92 : decode cX11_fits 92 = .ok (.if_icmp .ne 7, 3) := by decide +kernel
theorem dX11_fits_95 : decode cX11_fits 95 = .ok (.iconst 1, 1) := by decide +kernel
theorem dX11_fits_96 : decode cX11_fits 96 = .ok (.goto 4, 3) := by decide +kernel
theorem dX11_fits_99 : decode cX11_fits 99 = .ok (.iconst 0, 1) := by decide +kernel
theorem dX11_fits_100 : decode cX11_fits 100 = .ok (.ireturn, 1) := by decide +kernel
theorem dX11_breadOf_0 : decode cX11_breadOf 0 = .ok (.aload_n 0, 1) := by decide +kernel
theorem dX11_breadOf_1 : decode cX11_breadOf 1 = .ok (.getfield 30, 3) := by decide +kernel
theorem dX11_breadOf_4 : decode cX11_breadOf 4 = .ok (.iconst 4, 1) := by decide +kernel
theorem dX11_breadOf_5 : decode cX11_breadOf 5 = .ok (.iload_n 2, 1) := by decide +kernel
theorem dX11_breadOf_6 : decode cX11_breadOf 6 = .ok (.imul, 1) := by decide +kernel
theorem dX11_breadOf_7 : decode cX11_breadOf 7 = .ok (.iconst 1, 1) := by decide +kernel
theorem dX11_breadOf_8 : decode cX11_breadOf 8 = .ok (.iadd, 1) := by decide +kernel
theorem dX11_breadOf_9 : decode cX11_breadOf 9 = .ok (.iaload, 1) := by decide +kernel
theorem dX11_breadOf_10 : decode cX11_breadOf 10 = .ok (.istore 4, 2) := by decide +kernel
theorem dX11_breadOf_12 : decode cX11_breadOf 12 = .ok (.aload_n 0, 1) := by decide +kernel
theorem dX11_breadOf_13 : decode cX11_breadOf 13 = .ok (.getfield 30, 3) := by decide +kernel
theorem dX11_breadOf_16 : decode cX11_breadOf 16 = .ok (.iconst 4, 1) := by decide +kernel
theorem dX11_breadOf_17 : decode cX11_breadOf 17 = .ok (.iload_n 3, 1) := by decide +kernel
theorem dX11_breadOf_18 : decode cX11_breadOf 18 = .ok (.imul, 1) := by decide +kernel
theorem dX11_breadOf_19 : decode cX11_breadOf 19 = .ok (.iconst 2, 1) := by decide +kernel
theorem dX11_breadOf_20 : decode cX11_breadOf 20 = .ok (.iadd, 1) := by decide +kernel
theorem dX11_breadOf_21 : decode cX11_breadOf 21 = .ok (.iaload, 1) := by decide +kernel
theorem dX11_breadOf_22 : decode cX11_breadOf 22 = .ok (.istore 5, 2) := by decide +kernel
theorem dX11_breadOf_24 : decode cX11_breadOf 24 = .ok (.aload_n 0, 1) := by decide +kernel
theorem dX11_breadOf_25 : decode cX11_breadOf 25 = .ok (.getfield 33, 3) := by decide +kernel
theorem dX11_breadOf_28 : decode cX11_breadOf 28 = .ok (.iload_n 1, 1) := by decide +kernel
theorem dX11_breadOf_29 : decode cX11_breadOf 29 = .ok (.aload_n 0, 1) := by decide +kernel
theorem dX11_breadOf_30 : decode cX11_breadOf 30 = .ok (.getfield 27, 3) := by decide +kernel
theorem dX11_breadOf_33 : decode cX11_breadOf 33 = .ok (.idiv, 1) := by decide +kernel
theorem dX11_breadOf_34 : decode cX11_breadOf 34 = .ok (.iaload, 1) := by decide +kernel
theorem dX11_breadOf_35 : decode cX11_breadOf 35 = .ok (.iconst 2, 1) := by decide +kernel
theorem dX11_breadOf_36 : decode cX11_breadOf 36 = .ok (.if_icmp .ne 15, 3) := by decide +kernel
theorem dX11_breadOf_39 : decode cX11_breadOf 39 = .ok (.iload 4, 2) := by decide +kernel
theorem dX11_breadOf_41 : decode cX11_breadOf 41 = .ok (.iconst 2, 1) := by decide +kernel
theorem dX11_breadOf_42 : decode cX11_breadOf 42 = .ok (.idiv, 1) := by decide +kernel
theorem dX11_breadOf_43 : decode cX11_breadOf 43 = .ok (.iload 5, 2) := by decide +kernel
theorem dX11_breadOf_45 : decode cX11_breadOf 45 = .ok (.iconst 2, 1) := by decide +kernel
theorem dX11_breadOf_46 : decode cX11_breadOf 46 = .ok (.idiv, 1) := by decide +kernel
theorem dX11_breadOf_47 : decode cX11_breadOf 47 = .ok (.iadd, 1) := by decide +kernel
theorem dX11_breadOf_48 : decode cX11_breadOf 48 = .ok (.goto 8, 3) := by decide +kernel
theorem dX11_breadOf_51 : decode cX11_breadOf 51 = .ok (.iload 4, 2) := by decide +kernel
theorem dX11_breadOf_53 : decode cX11_breadOf 53 = .ok (.iload 5, 2) := by decide +kernel
theorem dX11_breadOf_55 : decode cX11_breadOf 55 = .ok (.iadd, 1) := by decide +kernel
theorem dX11_breadOf_56 : decode cX11_breadOf 56 = .ok (.ireturn, 1) := by decide +kernel
theorem dX11_worthBy_0 : decode cX11_worthBy 0 = .ok (.aload_n 0, 1) := by decide +kernel
theorem dX11_worthBy_1 : decode cX11_worthBy 1 = .ok (.iload_n 1, 1) := by decide +kernel
theorem dX11_worthBy_2 : decode cX11_worthBy 2 = .ok (.iload_n 2, 1) := by decide +kernel
theorem dX11_worthBy_3 : decode cX11_worthBy 3 = .ok (.iload 4, 2) := by decide +kernel
theorem dX11_worthBy_5 : decode cX11_worthBy 5 = .ok (.iload 5, 2) := by decide +kernel
theorem dX11_worthBy_7 : decode cX11_worthBy 7 = .ok (.invokevirtual 204, 3) := by decide +kernel
theorem dX11_worthBy_10 : decode cX11_worthBy 10 = .ok (.ifCond .ne 5, 3) := by decide +kernel
theorem dX11_worthBy_13 : decode cX11_worthBy 13 = .ok (.iconst (-1), 1) := by decide +kernel
theorem dX11_worthBy_14 : decode cX11_worthBy 14 = .ok (.ireturn, 1) := by decide +kernel
theorem dX11_worthBy_15 : decode cX11_worthBy 15 = .ok (.iload_n 3, 1) := by decide +kernel
theorem dX11_worthBy_16 : decode cX11_worthBy 16 = .ok (.aload_n 0, 1) := by decide +kernel
theorem dX11_worthBy_17 : decode cX11_worthBy 17 = .ok (.iload_n 1, 1) := by decide +kernel
theorem dX11_worthBy_18 : decode cX11_worthBy 18 = .ok (.iload 4, 2) := by decide +kernel
theorem dX11_worthBy_20 : decode cX11_worthBy 20 = .ok (.iload 5, 2) := by decide +kernel
theorem dX11_worthBy_22 : decode cX11_worthBy 22 = .ok (.invokevirtual 207, 3) := by decide +kernel
theorem dX11_worthBy_25 : decode cX11_worthBy 25 = .ok (.isub, 1) := by decide +kernel
theorem dX11_worthBy_26 : decode cX11_worthBy 26 = .ok (.istore 6, 2) := by decide +kernel
theorem dX11_worthBy_28 : decode cX11_worthBy 28 = .ok (.aload_n 0, 1) := by decide +kernel
theorem dX11_worthBy_29 : decode cX11_worthBy 29 = .ok (.getfield 45, 3) := by decide +kernel
theorem dX11_worthBy_32 : decode cX11_worthBy 32 = .ok (.sipush 201, 3) := by decide +kernel
theorem dX11_worthBy_35 : decode cX11_worthBy 35 = .ok (.iload_n 1, 1) := by decide +kernel
theorem dX11_worthBy_36 : decode cX11_worthBy 36 = .ok (.iconst 1, 1) := by decide +kernel
theorem dX11_worthBy_37 : decode cX11_worthBy 37 = .ok (.iadd, 1) := by decide +kernel
theorem dX11_worthBy_38 : decode cX11_worthBy 38 = .ok (.imul, 1) := by decide +kernel
theorem dX11_worthBy_39 : decode cX11_worthBy 39 = .ok (.iload 6, 2) := by decide +kernel
theorem dX11_worthBy_41 : decode cX11_worthBy 41 = .ok (.ifCond .le 8, 3) := by decide +kernel
theorem dX11_worthBy_44 : decode cX11_worthBy 44 = .ok (.iload 6, 2) := by decide +kernel
theorem dX11_worthBy_46 : decode cX11_worthBy 46 = .ok (.goto 4, 3) := by decide +kernel
theorem dX11_worthBy_49 : decode cX11_worthBy 49 = .ok (.iconst 0, 1) := by decide +kernel
theorem dX11_worthBy_50 : decode cX11_worthBy 50 = .ok (.iadd, 1) := by decide +kernel
theorem dX11_worthBy_51 : decode cX11_worthBy 51 = .ok (.iaload, 1) := by decide +kernel
theorem dX11_worthBy_52 : decode cX11_worthBy 52 = .ok (.istore 7, 2) := by decide +kernel
theorem dX11_worthBy_54 : decode cX11_worthBy 54 = .ok (.iload 7, 2) := by decide +kernel
theorem dX11_worthBy_56 : decode cX11_worthBy 56 = .ok (.iconst (-1), 1) := by decide +kernel
theorem dX11_worthBy_57 : decode cX11_worthBy 57 = .ok (.if_icmp .ne 7, 3) := by decide +kernel
theorem dX11_worthBy_60 : decode cX11_worthBy 60 = .ok (.iconst (-1), 1) := by decide +kernel
theorem dX11_worthBy_61 : decode cX11_worthBy 61 = .ok (.goto 29, 3) := by decide +kernel
theorem dX11_worthBy_64 : decode cX11_worthBy 64 = .ok (.iload 7, 2) := by decide +kernel
theorem dX11_worthBy_66 : decode cX11_worthBy 66 = .ok (.aload_n 0, 1) := by decide +kernel
theorem dX11_worthBy_67 : decode cX11_worthBy 67 = .ok (.getfield 30, 3) := by decide +kernel
theorem dX11_worthBy_70 : decode cX11_worthBy 70 = .ok (.iconst 4, 1) := by decide +kernel
theorem dX11_worthBy_71 : decode cX11_worthBy 71 = .ok (.iload 4, 2) := by decide +kernel
theorem dX11_worthBy_73 : decode cX11_worthBy 73 = .ok (.imul, 1) := by decide +kernel
theorem dX11_worthBy_74 : decode cX11_worthBy 74 = .ok (.iconst 3, 1) := by decide +kernel
theorem dX11_worthBy_75 : decode cX11_worthBy 75 = .ok (.iadd, 1) := by decide +kernel
theorem dX11_worthBy_76 : decode cX11_worthBy 76 = .ok (.iaload, 1) := by decide +kernel
theorem dX11_worthBy_77 : decode cX11_worthBy 77 = .ok (.iadd, 1) := by decide +kernel
theorem dX11_worthBy_78 : decode cX11_worthBy 78 = .ok (.aload_n 0, 1) := by decide +kernel
theorem dX11_worthBy_79 : decode cX11_worthBy 79 = .ok (.getfield 30, 3) := by decide +kernel
theorem dX11_worthBy_82 : decode cX11_worthBy 82 = .ok (.iconst 4, 1) := by decide +kernel
theorem dX11_worthBy_83 : decode cX11_worthBy 83 = .ok (.iload 5, 2) := by decide +kernel
theorem dX11_worthBy_85 : decode cX11_worthBy 85 = .ok (.imul, 1) := by decide +kernel
theorem dX11_worthBy_86 : decode cX11_worthBy 86 = .ok (.iconst 3, 1) := by decide +kernel
theorem dX11_worthBy_87 : decode cX11_worthBy 87 = .ok (.iadd, 1) := by decide +kernel
theorem dX11_worthBy_88 : decode cX11_worthBy 88 = .ok (.iaload, 1) := by decide +kernel
theorem dX11_worthBy_89 : decode cX11_worthBy 89 = .ok (.iadd, 1) := by decide +kernel
theorem dX11_worthBy_90 : decode cX11_worthBy 90 = .ok (.ireturn, 1) := by decide +kernel
theorem dX11_layWorths_0 : decode cX11_layWorths 0 = .ok (.aload_n 0, 1) := by decide +kernel
theorem dX11_layWorths_1 : decode cX11_layWorths 1 = .ok (.getfield 23, 3) := by decide +kernel
theorem dX11_layWorths_4 : decode cX11_layWorths 4 = .ok (.aload_n 0, 1) := by decide +kernel
theorem dX11_layWorths_5 : decode cX11_layWorths 5 = .ok (.getfield 27, 3) := by decide +kernel
theorem dX11_layWorths_8 : decode cX11_layWorths 8 = .ok (.imul, 1) := by decide +kernel
theorem dX11_layWorths_9 : decode cX11_layWorths 9 = .ok (.istore_n 3, 1) := by decide +kernel
theorem dX11_layWorths_10 : decode cX11_layWorths 10 = .ok (.iconst 0, 1) := by decide +kernel
theorem dX11_layWorths_11 : decode cX11_layWorths 11 = .ok (.istore 4, 2) := by decide +kernel
theorem dX11_layWorths_13 : decode cX11_layWorths 13 = .ok (.iload 4, 2) := by decide +kernel
theorem dX11_layWorths_15 : decode cX11_layWorths 15 = .ok (.iload_n 2, 1) := by decide +kernel
theorem dX11_layWorths_16 : decode cX11_layWorths 16 = .ok (.if_icmp .gt 32, 3) := by decide +kernel
theorem dX11_layWorths_19 : decode cX11_layWorths 19 = .ok (.aload_n 0, 1) := by decide +kernel
theorem dX11_layWorths_20 : decode cX11_layWorths 20 = .ok (.getfield 45, 3) := by decide +kernel
theorem dX11_layWorths_23 : decode cX11_layWorths 23 = .ok (.sipush 201, 3) := by decide +kernel
theorem dX11_layWorths_26 : decode cX11_layWorths 26 = .ok (.iload_n 3, 1) := by decide +kernel
theorem dX11_layWorths_27 : decode cX11_layWorths 27 = .ok (.imul, 1) := by decide +kernel
theorem dX11_layWorths_28 : decode cX11_layWorths 28 = .ok (.iload 4, 2) := by decide +kernel
theorem dX11_layWorths_30 : decode cX11_layWorths 30 = .ok (.iadd, 1) := by decide +kernel
theorem dX11_layWorths_31 : decode cX11_layWorths 31 = .ok (.iload 4, 2) := by decide +kernel
theorem dX11_layWorths_33 : decode cX11_layWorths 33 = .ok (.ifCond .ne 7, 3) := by decide +kernel
theorem dX11_layWorths_36 : decode cX11_layWorths 36 = .ok (.iconst 0, 1) := by decide +kernel
theorem dX11_layWorths_37 : decode cX11_layWorths 37 = .ok (.goto 4, 3) := by decide +kernel
theorem dX11_layWorths_40 : decode cX11_layWorths 40 = .ok (.iconst (-1), 1) := by decide +kernel
theorem dX11_layWorths_41 : decode cX11_layWorths 41 = .ok (.iastore, 1) := by decide +kernel
theorem dX11_layWorths_42 : decode cX11_layWorths 42 = .ok (.iinc 4 1, 3) := by decide +kernel
theorem dX11_layWorths_45 : decode cX11_layWorths 45 = .ok (.goto (-32), 3) := by decide +kernel
theorem dX11_layWorths_48 : decode cX11_layWorths 48 = .ok (.iload_n 3, 1) := by decide +kernel
theorem dX11_layWorths_49 : decode cX11_layWorths 49 = .ok (.iconst 1, 1) := by decide +kernel
theorem dX11_layWorths_50 : decode cX11_layWorths 50 = .ok (.isub, 1) := by decide +kernel
theorem dX11_layWorths_51 : decode cX11_layWorths 51 = .ok (.istore 4, 2) := by decide +kernel
theorem dX11_layWorths_53 : decode cX11_layWorths 53 = .ok (.iload 4, 2) := by decide +kernel
theorem dX11_layWorths_55 : decode cX11_layWorths 55 = .ok (.ifCond .lt 96, 3) := by decide +kernel
theorem dX11_layWorths_58 : decode cX11_layWorths 58 = .ok (.iconst 0, 1) := by decide +kernel
theorem dX11_layWorths_59 : decode cX11_layWorths 59 = .ok (.istore 5, 2) := by decide +kernel
theorem dX11_layWorths_61 : decode cX11_layWorths 61 = .ok (.iload 5, 2) := by decide +kernel
theorem dX11_layWorths_63 : decode cX11_layWorths 63 = .ok (.iload_n 2, 1) := by decide +kernel
theorem dX11_layWorths_64 : decode cX11_layWorths 64 = .ok (.if_icmp .gt 81, 3) := by decide +kernel
theorem dX11_layWorths_67 : decode cX11_layWorths 67 = .ok (.iconst (-1), 1) := by decide +kernel
theorem dX11_layWorths_68 : decode cX11_layWorths 68 = .ok (.istore 6, 2) := by decide +kernel
theorem dX11_layWorths_70 : decode cX11_layWorths 70 = .ok (.iconst 0, 1) := by decide +kernel
theorem dX11_layWorths_71 : decode cX11_layWorths 71 = .ok (.istore 7, 2) := by decide +kernel
theorem dX11_layWorths_73 : decode cX11_layWorths 73 = .ok (.iload 7, 2) := by decide +kernel
theorem dX11_layWorths_75 : decode cX11_layWorths 75 = .ok (.bipush 36, 2) := by decide +kernel
theorem dX11_layWorths_77 : decode cX11_layWorths 77 = .ok (.if_icmp .ge 46, 3) := by decide +kernel
theorem dX11_layWorths_80 : decode cX11_layWorths 80 = .ok (.aload_n 0, 1) := by decide +kernel
theorem dX11_layWorths_81 : decode cX11_layWorths 81 = .ok (.iload 4, 2) := by decide +kernel
theorem dX11_layWorths_83 : decode cX11_layWorths 83 = .ok (.iload_n 1, 1) := by decide +kernel
theorem dX11_layWorths_84 : decode cX11_layWorths 84 = .ok (.iload 5, 2) := by decide +kernel
theorem dX11_layWorths_86 : decode cX11_layWorths 86 = .ok (.iload 7, 2) := by decide +kernel
theorem dX11_layWorths_88 : decode cX11_layWorths 88 = .ok (.bipush 6, 2) := by decide +kernel
theorem dX11_layWorths_90 : decode cX11_layWorths 90 = .ok (.idiv, 1) := by decide +kernel
theorem dX11_layWorths_91 : decode cX11_layWorths 91 = .ok (.iload 7, 2) := by decide +kernel
theorem dX11_layWorths_93 : decode cX11_layWorths 93 = .ok (.bipush 6, 2) := by decide +kernel
theorem dX11_layWorths_95 : decode cX11_layWorths 95 = .ok (.irem, 1) := by decide +kernel
theorem dX11_layWorths_96 : decode cX11_layWorths 96 = .ok (.invokevirtual 210, 3) := by decide +kernel
theorem dX11_layWorths_99 : decode cX11_layWorths 99 = .ok (.istore 8, 2) := by decide +kernel
theorem dX11_layWorths_101 : decode cX11_layWorths 101 = .ok (.iload 8, 2) := by decide +kernel
theorem dX11_layWorths_103 : decode cX11_layWorths 103 = .ok (.iload 6, 2) := by decide +kernel
theorem dX11_layWorths_105 : decode cX11_layWorths 105 = .ok (.if_icmp .le 8, 3) := by decide +kernel
theorem dX11_layWorths_108 : decode cX11_layWorths 108 = .ok (.iload 8, 2) := by decide +kernel
theorem dX11_layWorths_110 : decode cX11_layWorths 110 = .ok (.goto 5, 3) := by decide +kernel
theorem dX11_layWorths_113 : decode cX11_layWorths 113 = .ok (.iload 6, 2) := by decide +kernel
theorem dX11_layWorths_115 : decode cX11_layWorths 115 = .ok (.istore 6, 2) := by decide +kernel
theorem dX11_layWorths_117 : decode cX11_layWorths 117 = .ok (.iinc 7 1, 3) := by decide +kernel
theorem dX11_layWorths_120 : decode cX11_layWorths 120 = .ok (.goto (-47), 3) := by decide +kernel
theorem dX11_layWorths_123 : decode cX11_layWorths 123 = .ok (.aload_n 0, 1) := by decide +kernel
theorem dX11_layWorths_124 : decode cX11_layWorths 124 = .ok (.getfield 45, 3) := by decide +kernel
theorem dX11_layWorths_127 : decode cX11_layWorths 127 = .ok (.sipush 201, 3) := by decide +kernel
theorem dX11_layWorths_130 : decode cX11_layWorths 130 = .ok (.iload 4, 2) := by decide +kernel
theorem dX11_layWorths_132 : decode cX11_layWorths 132 = .ok (.imul, 1) := by decide +kernel
theorem dX11_layWorths_133 : decode cX11_layWorths 133 = .ok (.iload 5, 2) := by decide +kernel
theorem dX11_layWorths_135 : decode cX11_layWorths 135 = .ok (.iadd, 1) := by decide +kernel
theorem dX11_layWorths_136 : decode cX11_layWorths 136 = .ok (.iload 6, 2) := by decide +kernel
theorem dX11_layWorths_138 : decode cX11_layWorths 138 = .ok (.iastore, 1) := by decide +kernel
theorem dX11_layWorths_139 : decode cX11_layWorths 139 = .ok (.iinc 5 1, 3) := by decide +kernel
theorem dX11_layWorths_142 : decode cX11_layWorths 142 = .ok (.goto (-81), 3) := by decide +kernel
theorem dX11_layWorths_145 : decode cX11_layWorths 145 = .ok (.iinc 4 (-1), 3) := by decide +kernel
theorem dX11_layWorths_148 : decode cX11_layWorths 148 = .ok (.goto (-95), 3) := by decide +kernel
theorem dX11_layWorths_151 : decode cX11_layWorths 151 = .ok (.return_, 1) := by decide +kernel
theorem dX11_choose_0 : decode cX11_choose 0 = .ok (.aload_n 0, 1) := by decide +kernel
theorem dX11_choose_1 : decode cX11_choose 1 = .ok (.iload_n 1, 1) := by decide +kernel
theorem dX11_choose_2 : decode cX11_choose 2 = .ok (.iload_n 2, 1) := by decide +kernel
theorem dX11_choose_3 : decode cX11_choose 3 = .ok (.invokevirtual 214, 3) := by decide +kernel
theorem dX11_choose_6 : decode cX11_choose 6 = .ok (.aload_n 0, 1) := by decide +kernel
theorem dX11_choose_7 : decode cX11_choose 7 = .ok (.getfield 45, 3) := by decide +kernel
theorem dX11_choose_10 : decode cX11_choose 10 = .ok (.iload_n 2, 1) := by decide +kernel
theorem dX11_choose_11 : decode cX11_choose 11 = .ok (.iaload, 1) := by decide +kernel
theorem dX11_choose_12 : decode cX11_choose 12 = .ok (.iconst (-1), 1) := by decide +kernel
theorem dX11_choose_13 : decode cX11_choose 13 = .ok (.if_icmp .ne 5, 3) := by decide +kernel
theorem dX11_choose_16 : decode cX11_choose 16 = .ok (.iconst 0, 1) := by decide +kernel
theorem dX11_choose_17 : decode cX11_choose 17 = .ok (.ireturn, 1) := by decide +kernel
theorem dX11_choose_18 : decode cX11_choose 18 = .ok (.iload_n 2, 1) := by decide +kernel
theorem dX11_choose_19 : decode cX11_choose 19 = .ok (.istore_n 3, 1) := by decide +kernel
theorem dX11_choose_20 : decode cX11_choose 20 = .ok (.aload_n 0, 1) := by decide +kernel
theorem dX11_choose_21 : decode cX11_choose 21 = .ok (.iconst 0, 1) := by decide +kernel
theorem dX11_choose_22 : decode cX11_choose 22 = .ok (.putfield 217, 3) := by decide +kernel
theorem dX11_choose_25 : decode cX11_choose 25 = .ok (.iconst 0, 1) := by decide +kernel
theorem dX11_choose_26 : decode cX11_choose 26 = .ok (.istore 4, 2) := by decide +kernel
theorem dX11_choose_28 : decode cX11_choose 28 = .ok (.iload 4, 2) := by decide +kernel
theorem dX11_choose_30 : decode cX11_choose 30 = .ok (.aload_n 0, 1) := by decide +kernel
theorem dX11_choose_31 : decode cX11_choose 31 = .ok (.getfield 23, 3) := by decide +kernel
theorem dX11_choose_34 : decode cX11_choose 34 = .ok (.aload_n 0, 1) := by decide +kernel
theorem dX11_choose_35 : decode cX11_choose 35 = .ok (.getfield 27, 3) := by decide +kernel
theorem dX11_choose_38 : decode cX11_choose 38 = .ok (.imul, 1) := by decide +kernel
theorem dX11_choose_39 : decode cX11_choose 39 = .ok (.if_icmp .ge 126, 3) := by decide +kernel
theorem dX11_choose_42 : decode cX11_choose 42 = .ok (.iconst 0, 1) := by decide +kernel
theorem dX11_choose_43 : decode cX11_choose 43 = .ok (.istore 5, 2) := by decide +kernel
theorem dX11_choose_45 : decode cX11_choose 45 = .ok (.aload_n 0, 1) := by decide +kernel
theorem dX11_choose_46 : decode cX11_choose 46 = .ok (.iload 4, 2) := by decide +kernel
theorem dX11_choose_48 : decode cX11_choose 48 = .ok (.iload_n 1, 1) := by decide +kernel
theorem dX11_choose_49 : decode cX11_choose 49 = .ok (.iload_n 3, 1) := by decide +kernel
theorem dX11_choose_50 : decode cX11_choose 50 = .ok (.iload 5, 2) := by decide +kernel
theorem dX11_choose_52 : decode cX11_choose 52 = .ok (.bipush 6, 2) := by decide +kernel
theorem dX11_choose_54 : decode cX11_choose 54 = .ok (.idiv, 1) := by decide +kernel
theorem dX11_choose_55 : decode cX11_choose 55 = .ok (.iload 5, 2) := by decide +kernel
theorem dX11_choose_57 : decode cX11_choose 57 = .ok (.bipush 6, 2) := by decide +kernel
theorem dX11_choose_59 : decode cX11_choose 59 = .ok (.irem, 1) := by decide +kernel
theorem dX11_choose_60 : decode cX11_choose 60 = .ok (.invokevirtual 210, 3) := by decide +kernel
theorem dX11_choose_63 : decode cX11_choose 63 = .ok (.aload_n 0, 1) := by decide +kernel
theorem dX11_choose_64 : decode cX11_choose 64 = .ok (.getfield 45, 3) := by decide +kernel
theorem dX11_choose_67 : decode cX11_choose 67 = .ok (.sipush 201, 3) := by decide +kernel
theorem dX11_choose_70 : decode cX11_choose 70 = .ok (.iload 4, 2) := by decide +kernel
theorem dX11_choose_72 : decode cX11_choose 72 = .ok (.imul, 1) := by decide +kernel
theorem dX11_choose_73 : decode cX11_choose 73 = .ok (.iload_n 3, 1) := by decide +kernel
theorem dX11_choose_74 : decode cX11_choose 74 = .ok (.iadd, 1) := by decide +kernel
theorem dX11_choose_75 : decode cX11_choose 75 = .ok (.iaload, 1) := by decide +kernel
theorem dX11_choose_76 : decode cX11_choose 76 = .ok (.if_icmp .eq 9, 3) := by decide +kernel
theorem dX11_choose_79 : decode cX11_choose 79 = .ok (.iinc 5 1, 3) := by decide +kernel
theorem dX11_choose_82 : decode cX11_choose 82 = .ok (.goto (-37), 3) := by decide +kernel
theorem dX11_choose_85 : decode cX11_choose 85 = .ok (.aload_n 0, 1) := by decide +kernel
theorem dX11_choose_86 : decode cX11_choose 86 = .ok (.getfield 48, 3) := by decide +kernel
theorem dX11_choose_89 : decode cX11_choose 89 = .ok (.iconst 2, 1) := by decide +kernel
theorem dX11_choose_90 : decode cX11_choose 90 = .ok (.iload 4, 2) := by decide +kernel
theorem dX11_choose_92 : decode cX11_choose 92 = .ok (.imul, 1) := by decide +kernel
theorem dX11_choose_93 : decode cX11_choose 93 = .ok (.iload 5, 2) := by decide +kernel
theorem dX11_choose_95 : decode cX11_choose 95 = .ok (.bipush 6, 2) := by decide +kernel
theorem dX11_choose_97 : decode cX11_choose 97 = .ok (.idiv, 1) := by decide +kernel
theorem dX11_choose_98 : decode cX11_choose 98 = .ok (.iastore, 1) := by decide +kernel
theorem dX11_choose_99 : decode cX11_choose 99 = .ok (.aload_n 0, 1) := by decide +kernel
theorem dX11_choose_100 : decode cX11_choose 100 = .ok (.getfield 48, 3) := by decide +kernel
theorem dX11_choose_103 : decode cX11_choose 103 = .ok (.iconst 2, 1) := by decide +kernel
theorem dX11_choose_104 : decode cX11_choose 104 = .ok (.iload 4, 2) := by decide +kernel
theorem dX11_choose_106 : decode cX11_choose 106 = .ok (.imul, 1) := by decide +kernel
theorem dX11_choose_107 : decode cX11_choose 107 = .ok (.iconst 1, 1) := by decide +kernel
theorem dX11_choose_108 : decode cX11_choose 108 = .ok (.iadd, 1) := by decide +kernel
theorem dX11_choose_109 : decode cX11_choose 109 = .ok (.iload 5, 2) := by decide +kernel
theorem dX11_choose_111 : decode cX11_choose 111 = .ok (.bipush 6, 2) := by decide +kernel
theorem dX11_choose_113 : decode cX11_choose 113 = .ok (.irem, 1) := by decide +kernel
theorem dX11_choose_114 : decode cX11_choose 114 = .ok (.iastore, 1) := by decide +kernel
theorem dX11_choose_115 : decode cX11_choose 115 = .ok (.aload_n 0, 1) := by decide +kernel
theorem dX11_choose_116 : decode cX11_choose 116 = .ok (.iload 4, 2) := by decide +kernel
theorem dX11_choose_118 : decode cX11_choose 118 = .ok (.iload 5, 2) := by decide +kernel
theorem dX11_choose_120 : decode cX11_choose 120 = .ok (.bipush 6, 2) := by decide +kernel
theorem dX11_choose_122 : decode cX11_choose 122 = .ok (.idiv, 1) := by decide +kernel
theorem dX11_choose_123 : decode cX11_choose 123 = .ok (.iload 5, 2) := by decide +kernel
theorem dX11_choose_125 : decode cX11_choose 125 = .ok (.bipush 6, 2) := by decide +kernel
theorem dX11_choose_127 : decode cX11_choose 127 = .ok (.irem, 1) := by decide +kernel
theorem dX11_choose_128 : decode cX11_choose 128 = .ok (.invokevirtual 207, 3) := by decide +kernel
theorem dX11_choose_131 : decode cX11_choose 131 = .ok (.istore 6, 2) := by decide +kernel
theorem dX11_choose_133 : decode cX11_choose 133 = .ok (.aload_n 0, 1) := by decide +kernel
theorem dX11_choose_134 : decode cX11_choose 134 = .ok (.dup, 1) := by decide +kernel
theorem dX11_choose_135 : decode cX11_choose 135 = .ok (.getfield 217, 3) := by decide +kernel
theorem dX11_choose_138 : decode cX11_choose 138 = .ok (.iload 6, 2) := by decide +kernel
theorem dX11_choose_140 : decode cX11_choose 140 = .ok (.iadd, 1) := by decide +kernel
theorem dX11_choose_141 : decode cX11_choose 141 = .ok (.putfield 217, 3) := by decide +kernel
theorem dX11_choose_144 : decode cX11_choose 144 = .ok (.iload_n 3, 1) := by decide +kernel
theorem dX11_choose_145 : decode cX11_choose 145 = .ok (.iload 6, 2) := by decide +kernel
theorem dX11_choose_147 : decode cX11_choose 147 = .ok (.if_icmp .le 10, 3) := by decide +kernel
theorem dX11_choose_150 : decode cX11_choose 150 = .ok (.iload_n 3, 1) := by decide +kernel
theorem dX11_choose_151 : decode cX11_choose 151 = .ok (.iload 6, 2) := by decide +kernel
theorem dX11_choose_153 : decode cX11_choose 153 = .ok (.isub, 1) := by decide +kernel
theorem dX11_choose_154 : decode cX11_choose 154 = .ok (.goto 4, 3) := by decide +kernel
theorem dX11_choose_157 : decode cX11_choose 157 = .ok (.iconst 0, 1) := by decide +kernel
theorem dX11_choose_158 : decode cX11_choose 158 = .ok (.istore_n 3, 1) := by decide +kernel
theorem dX11_choose_159 : decode cX11_choose 159 = .ok (.iinc 4 1, 3) := by decide +kernel
theorem dX11_choose_162 : decode cX11_choose 162 = .ok (.goto (-134), 3) := by decide +kernel
theorem dX11_choose_165 : decode cX11_choose 165 = .ok (.iconst 1, 1) := by decide +kernel
theorem dX11_choose_166 : decode cX11_choose 166 = .ok (.ireturn, 1) := by decide +kernel
theorem dX11_isPlan_0 : decode cX11_isPlan 0 = .ok (.iload_n 0, 1) := by decide +kernel
theorem dX11_isPlan_1 : decode cX11_isPlan 1 = .ok (.i2l, 1) := by decide +kernel
theorem dX11_isPlan_2 : decode cX11_isPlan 2 = .ok (.lconst 0, 1) := by decide +kernel
theorem dX11_isPlan_3 : decode cX11_isPlan 3 = .ok (.lconst 1, 1) := by decide +kernel
theorem dX11_isPlan_4 : decode cX11_isPlan 4 = .ok (.invokestatic 80, 3) := by decide +kernel
theorem dX11_isPlan_7 : decode cX11_isPlan 7 = .ok (.ifCond .eq 19, 3) := by decide +kernel
theorem dX11_isPlan_10 : decode cX11_isPlan 10 = .ok (.iload_n 1, 1) := by decide +kernel
theorem dX11_isPlan_11 : decode cX11_isPlan 11 = .ok (.i2l, 1) := by decide +kernel
theorem dX11_isPlan_12 : decode cX11_isPlan 12 = .ok (.lconst 0, 1) := by decide +kernel
theorem dX11_isPlan_13 : decode cX11_isPlan 13 = .ok (.ldc2_w 220, 3) := by decide +kernel
theorem dX11_isPlan_16 : decode cX11_isPlan 16 = .ok (.invokestatic 80, 3) := by decide +kernel
theorem dX11_isPlan_19 : decode cX11_isPlan 19 = .ok (.ifCond .eq 7, 3) := by decide +kernel
theorem dX11_isPlan_22 : decode cX11_isPlan 22 = .ok (.iconst 1, 1) := by decide +kernel
theorem dX11_isPlan_23 : decode cX11_isPlan 23 = .ok (.goto 4, 3) := by decide +kernel
theorem dX11_isPlan_26 : decode cX11_isPlan 26 = .ok (.iconst 0, 1) := by decide +kernel
theorem dX11_isPlan_27 : decode cX11_isPlan 27 = .ok (.ireturn, 1) := by decide +kernel
theorem dX11_plan_0 : decode cX11_plan 0 = .ok (.iload_n 1, 1) := by decide +kernel
theorem dX11_plan_1 : decode cX11_plan 1 = .ok (.iload_n 2, 1) := by decide +kernel
theorem dX11_plan_2 : decode cX11_plan 2 = .ok (.invokestatic 222, 3) := by decide +kernel
theorem dX11_plan_5 : decode cX11_plan 5 = .ok (.ifCond .eq 13, 3) := by decide +kernel
theorem dX11_plan_8 : decode cX11_plan 8 = .ok (.iload_n 3, 1) := by decide +kernel
theorem dX11_plan_9 : decode cX11_plan 9 = .ok (.i2l, 1) := by decide +kernel
theorem dX11_plan_10 : decode cX11_plan 10 = .ok (.lconst 0, 1) := by decide +kernel
theorem dX11_plan_11 : decode cX11_plan 11 = .ok (.lconst 1, 1) := by decide +kernel
theorem dX11_plan_12 : decode cX11_plan 12 = .ok (.invokestatic 80, 3) := by decide +kernel
theorem dX11_plan_15 : decode cX11_plan 15 = .ok (.ifCond .ne 6, 3) := by decide +kernel
theorem dX11_plan_18 : decode cX11_plan 18 = .ok (.bipush (-3), 2) := by decide +kernel
theorem dX11_plan_20 : decode cX11_plan 20 = .ok (.ireturn, 1) := by decide +kernel
theorem dX11_plan_21 : decode cX11_plan 21 = .ok (.aload_n 0, 1) := by decide +kernel
theorem dX11_plan_22 : decode cX11_plan 22 = .ok (.iload_n 1, 1) := by decide +kernel
theorem dX11_plan_23 : decode cX11_plan 23 = .ok (.iload_n 2, 1) := by decide +kernel
theorem dX11_plan_24 : decode cX11_plan 24 = .ok (.invokevirtual 225, 3) := by decide +kernel
theorem dX11_plan_27 : decode cX11_plan 27 = .ok (.ifCond .ne 7, 3) := by decide +kernel
theorem dX11_plan_30 : decode cX11_plan 30 = .ok (.iconst (-1), 1) := by decide +kernel
theorem dX11_plan_31 : decode cX11_plan 31 = .ok (.goto 20, 3) := by decide +kernel
theorem dX11_plan_34 : decode cX11_plan 34 = .ok (.iload_n 3, 1) := by decide +kernel
theorem dX11_plan_35 : decode cX11_plan 35 = .ok (.ifCond .ne 12, 3) := by decide +kernel
theorem dX11_plan_38 : decode cX11_plan 38 = .ok (.aload_n 0, 1) := by decide +kernel
theorem dX11_plan_39 : decode cX11_plan 39 = .ok (.getfield 45, 3) := by decide +kernel
theorem dX11_plan_42 : decode cX11_plan 42 = .ok (.iload_n 2, 1) := by decide +kernel
theorem dX11_plan_43 : decode cX11_plan 43 = .ok (.iaload, 1) := by decide +kernel
theorem dX11_plan_44 : decode cX11_plan 44 = .ok (.goto 7, 3) := by decide +kernel
theorem dX11_plan_47 : decode cX11_plan 47 = .ok (.aload_n 0, 1) := by decide +kernel
theorem dX11_plan_48 : decode cX11_plan 48 = .ok (.getfield 217, 3) := by decide +kernel
theorem dX11_plan_51 : decode cX11_plan 51 = .ok (.ireturn, 1) := by decide +kernel
theorem dX11_planned_0 : decode cX11_planned 0 = .ok (.iload_n 3, 1) := by decide +kernel
theorem dX11_planned_1 : decode cX11_planned 1 = .ok (.invokestatic 164, 3) := by decide +kernel
theorem dX11_planned_4 : decode cX11_planned 4 = .ok (.ifCond .eq 21, 3) := by decide +kernel
theorem dX11_planned_7 : decode cX11_planned 7 = .ok (.aload_n 0, 1) := by decide +kernel
theorem dX11_planned_8 : decode cX11_planned 8 = .ok (.iload 4, 2) := by decide +kernel
theorem dX11_planned_10 : decode cX11_planned 10 = .ok (.invokevirtual 167, 3) := by decide +kernel
theorem dX11_planned_13 : decode cX11_planned 13 = .ok (.ifCond .eq 12, 3) := by decide +kernel
theorem dX11_planned_16 : decode cX11_planned 16 = .ok (.aload_n 0, 1) := by decide +kernel
theorem dX11_planned_17 : decode cX11_planned 17 = .ok (.iload 5, 2) := by decide +kernel
theorem dX11_planned_19 : decode cX11_planned 19 = .ok (.invokevirtual 170, 3) := by decide +kernel
theorem dX11_planned_22 : decode cX11_planned 22 = .ok (.ifCond .ne 6, 3) := by decide +kernel
theorem dX11_planned_25 : decode cX11_planned 25 = .ok (.bipush (-2), 2) := by decide +kernel
theorem dX11_planned_27 : decode cX11_planned 27 = .ok (.ireturn, 1) := by decide +kernel
theorem dX11_planned_28 : decode cX11_planned 28 = .ok (.iload_n 1, 1) := by decide +kernel
theorem dX11_planned_29 : decode cX11_planned 29 = .ok (.iload_n 2, 1) := by decide +kernel
theorem dX11_planned_30 : decode cX11_planned 30 = .ok (.invokestatic 222, 3) := by decide +kernel
theorem dX11_planned_33 : decode cX11_planned 33 = .ok (.ifCond .ne 6, 3) := by decide +kernel
theorem dX11_planned_36 : decode cX11_planned 36 = .ok (.bipush (-3), 2) := by decide +kernel
theorem dX11_planned_38 : decode cX11_planned 38 = .ok (.ireturn, 1) := by decide +kernel
theorem dX11_planned_39 : decode cX11_planned 39 = .ok (.aload_n 0, 1) := by decide +kernel
theorem dX11_planned_40 : decode cX11_planned 40 = .ok (.iload_n 1, 1) := by decide +kernel
theorem dX11_planned_41 : decode cX11_planned 41 = .ok (.iload_n 2, 1) := by decide +kernel
theorem dX11_planned_42 : decode cX11_planned 42 = .ok (.invokevirtual 225, 3) := by decide +kernel
theorem dX11_planned_45 : decode cX11_planned 45 = .ok (.ifCond .eq 25, 3) := by decide +kernel
theorem dX11_planned_48 : decode cX11_planned 48 = .ok (.aload_n 0, 1) := by decide +kernel
theorem dX11_planned_49 : decode cX11_planned 49 = .ok (.getfield 48, 3) := by decide +kernel
theorem dX11_planned_52 : decode cX11_planned 52 = .ok (.iconst 2, 1) := by decide +kernel
theorem dX11_planned_53 : decode cX11_planned 53 = .ok (.aload_n 0, 1) := by decide +kernel
theorem dX11_planned_54 : decode cX11_planned 54 = .ok (.getfield 27, 3) := by decide +kernel
theorem dX11_planned_57 : decode cX11_planned 57 = .ok (.iload 4, 2) := by decide +kernel
theorem dX11_planned_59 : decode cX11_planned 59 = .ok (.imul, 1) := by decide +kernel
theorem dX11_planned_60 : decode cX11_planned 60 = .ok (.iload 5, 2) := by decide +kernel
theorem dX11_planned_62 : decode cX11_planned 62 = .ok (.iadd, 1) := by decide +kernel
theorem dX11_planned_63 : decode cX11_planned 63 = .ok (.imul, 1) := by decide +kernel
theorem dX11_planned_64 : decode cX11_planned 64 = .ok (.iload_n 3, 1) := by decide +kernel
theorem dX11_planned_65 : decode cX11_planned 65 = .ok (.iadd, 1) := by decide +kernel
theorem dX11_planned_66 : decode cX11_planned 66 = .ok (.iaload, 1) := by decide +kernel
theorem dX11_planned_67 : decode cX11_planned 67 = .ok (.goto 4, 3) := by decide +kernel
theorem dX11_planned_70 : decode cX11_planned 70 = .ok (.iconst (-1), 1) := by decide +kernel
theorem dX11_planned_71 : decode cX11_planned 71 = .ok (.ireturn, 1) := by decide +kernel
theorem dX11_classAt_0 : decode cX11_classAt 0 = .ok (.iload_n 0, 1) := by decide +kernel
theorem dX11_classAt_1 : decode cX11_classAt 1 = .ok (.iconst 2, 1) := by decide +kernel
theorem dX11_classAt_2 : decode cX11_classAt 2 = .ok (.iload_n 1, 1) := by decide +kernel
theorem dX11_classAt_3 : decode cX11_classAt 3 = .ok (.imul, 1) := by decide +kernel
theorem dX11_classAt_4 : decode cX11_classAt 4 = .ok (.ishr, 1) := by decide +kernel
theorem dX11_classAt_5 : decode cX11_classAt 5 = .ok (.iconst 3, 1) := by decide +kernel
theorem dX11_classAt_6 : decode cX11_classAt 6 = .ok (.iand, 1) := by decide +kernel
theorem dX11_classAt_7 : decode cX11_classAt 7 = .ok (.ireturn, 1) := by decide +kernel
theorem dX11_news_0 : decode cX11_news 0 = .ok (.iload_n 2, 1) := by decide +kernel
theorem dX11_news_1 : decode cX11_news 1 = .ok (.i2l, 1) := by decide +kernel
theorem dX11_news_2 : decode cX11_news 2 = .ok (.lconst 1, 1) := by decide +kernel
theorem dX11_news_3 : decode cX11_news 3 = .ok (.ldc2_w 228, 3) := by decide +kernel
theorem dX11_news_6 : decode cX11_news 6 = .ok (.invokestatic 80, 3) := by decide +kernel
theorem dX11_news_9 : decode cX11_news 9 = .ok (.ifCond .eq 15, 3) := by decide +kernel
theorem dX11_news_12 : decode cX11_news 12 = .ok (.iload_n 3, 1) := by decide +kernel
theorem dX11_news_13 : decode cX11_news 13 = .ok (.i2l, 1) := by decide +kernel
theorem dX11_news_14 : decode cX11_news 14 = .ok (.lconst 0, 1) := by decide +kernel
theorem dX11_news_15 : decode cX11_news 15 = .ok (.ldc2_w 230, 3) := by decide +kernel
theorem dX11_news_18 : decode cX11_news 18 = .ok (.invokestatic 80, 3) := by decide +kernel
theorem dX11_news_21 : decode cX11_news 21 = .ok (.ifCond .ne 6, 3) := by decide +kernel
theorem dX11_news_24 : decode cX11_news 24 = .ok (.bipush (-3), 2) := by decide +kernel
theorem dX11_news_26 : decode cX11_news 26 = .ok (.ireturn, 1) := by decide +kernel
theorem dX11_news_27 : decode cX11_news 27 = .ok (.iconst 0, 1) := by decide +kernel
theorem dX11_news_28 : decode cX11_news 28 = .ok (.istore 5, 2) := by decide +kernel
theorem dX11_news_30 : decode cX11_news 30 = .ok (.iload 5, 2) := by decide +kernel
theorem dX11_news_32 : decode cX11_news 32 = .ok (.iconst 4, 1) := by decide +kernel
theorem dX11_news_33 : decode cX11_news 33 = .ok (.if_icmp .ge 27, 3) := by decide +kernel
theorem dX11_news_36 : decode cX11_news 36 = .ok (.aload_n 0, 1) := by decide +kernel
theorem dX11_news_37 : decode cX11_news 37 = .ok (.getfield 51, 3) := by decide +kernel
theorem dX11_news_40 : decode cX11_news 40 = .ok (.iload 5, 2) := by decide +kernel
theorem dX11_news_42 : decode cX11_news 42 = .ok (.iload 5, 2) := by decide +kernel
theorem dX11_news_44 : decode cX11_news 44 = .ok (.ifCond .ne 7, 3) := by decide +kernel
theorem dX11_news_47 : decode cX11_news 47 = .ok (.iconst 0, 1) := by decide +kernel
theorem dX11_news_48 : decode cX11_news 48 = .ok (.goto 5, 3) := by decide +kernel
theorem dX11_news_51 : decode cX11_news 51 = .ok (.ldc 232, 2) := by decide +kernel
theorem dX11_news_53 : decode cX11_news 53 = .ok (.iastore, 1) := by decide +kernel
theorem dX11_news_54 : decode cX11_news 54 = .ok (.iinc 5 1, 3) := by decide +kernel
theorem dX11_news_57 : decode cX11_news 57 = .ok (.goto (-27), 3) := by decide +kernel
theorem dX11_news_60 : decode cX11_news 60 = .ok (.iconst 0, 1) := by decide +kernel
theorem dX11_news_61 : decode cX11_news 61 = .ok (.istore 5, 2) := by decide +kernel
theorem dX11_news_63 : decode cX11_news 63 = .ok (.iload 5, 2) := by decide +kernel
theorem dX11_news_65 : decode cX11_news 65 = .ok (.iload_n 2, 1) := by decide +kernel
theorem dX11_news_66 : decode cX11_news 66 = .ok (.if_icmp .ge 180, 3) := by decide +kernel
theorem dX11_news_69 : decode cX11_news 69 = .ok (.iconst 0, 1) := by decide +kernel
theorem dX11_news_70 : decode cX11_news 70 = .ok (.istore 6, 2) := by decide +kernel
theorem dX11_news_72 : decode cX11_news 72 = .ok (.iload 6, 2) := by decide +kernel
theorem dX11_news_74 : decode cX11_news 74 = .ok (.iconst 4, 1) := by decide +kernel
theorem dX11_news_75 : decode cX11_news 75 = .ok (.if_icmp .ge 136, 3) := by decide +kernel
theorem dX11_news_78 : decode cX11_news 78 = .ok (.aload_n 0, 1) := by decide +kernel
theorem dX11_news_79 : decode cX11_news 79 = .ok (.getfield 54, 3) := by decide +kernel
theorem dX11_news_82 : decode cX11_news 82 = .ok (.iload 6, 2) := by decide +kernel
theorem dX11_news_84 : decode cX11_news 84 = .ok (.ldc 232, 2) := by decide +kernel
theorem dX11_news_86 : decode cX11_news 86 = .ok (.iastore, 1) := by decide +kernel
theorem dX11_news_87 : decode cX11_news 87 = .ok (.iconst 0, 1) := by decide +kernel
theorem dX11_news_88 : decode cX11_news 88 = .ok (.istore 7, 2) := by decide +kernel
theorem dX11_news_90 : decode cX11_news 90 = .ok (.iload 7, 2) := by decide +kernel
theorem dX11_news_92 : decode cX11_news 92 = .ok (.iconst 4, 1) := by decide +kernel
theorem dX11_news_93 : decode cX11_news 93 = .ok (.if_icmp .ge 112, 3) := by decide +kernel
theorem dX11_news_96 : decode cX11_news 96 = .ok (.iload 6, 2) := by decide +kernel
theorem dX11_news_98 : decode cX11_news 98 = .ok (.iload 7, 2) := by decide +kernel
theorem dX11_news_100 : decode cX11_news 100 = .ok (.if_icmp .ne 13, 3) := by decide +kernel
theorem dX11_news_103 : decode cX11_news 103 = .ok (.aload_n 0, 1) := by decide +kernel
theorem dX11_news_104 : decode cX11_news 104 = .ok (.getfield 51, 3) := by decide +kernel
theorem dX11_news_107 : decode cX11_news 107 = .ok (.iload 7, 2) := by decide +kernel
theorem dX11_news_109 : decode cX11_news 109 = .ok (.iaload, 1) := by decide +kernel
theorem dX11_news_110 : decode cX11_news 110 = .ok (.goto 23, 3) := by decide +kernel
theorem dX11_news_113 : decode cX11_news 113 = .ok (.iload 5, 2) := by decide +kernel
theorem dX11_news_115 : decode cX11_news 115 = .ok (.iload_n 3, 1) := by decide +kernel
theorem dX11_news_116 : decode cX11_news 116 = .ok (.if_icmp .lt 15, 3) := by decide +kernel
theorem dX11_news_119 : decode cX11_news 119 = .ok (.aload_n 0, 1) := by decide +kernel
theorem dX11_news_120 : decode cX11_news 120 = .ok (.getfield 51, 3) := by decide +kernel
theorem dX11_news_123 : decode cX11_news 123 = .ok (.iload 7, 2) := by decide +kernel
theorem dX11_news_125 : decode cX11_news 125 = .ok (.iaload, 1) := by decide +kernel
theorem dX11_news_126 : decode cX11_news 126 = .ok (.iconst 1, 1) := by decide +kernel
theorem dX11_news_127 : decode cX11_news 127 = .ok (.iadd, 1) := by decide +kernel
theorem dX11_news_128 : decode cX11_news 128 = .ok (.goto 5, 3) := by decide +kernel
theorem dX11_news_131 : decode cX11_news 131 = .ok (.ldc 232, 2) := by decide +kernel
theorem dX11_news_133 : decode cX11_news 133 = .ok (.istore 8, 2) := by decide +kernel
theorem dX11_news_135 : decode cX11_news 135 = .ok (.iload_n 1, 1) := by decide +kernel
theorem dX11_news_136 : decode cX11_news 136 = .ok (.iload 5, 2) := by decide +kernel
theorem dX11_news_138 : decode cX11_news 138 = .ok (.invokestatic 233, 3) := by decide +kernel
theorem dX11_news_141 : decode cX11_news 141 = .ok (.iload 6, 2) := by decide +kernel
theorem dX11_news_143 : decode cX11_news 143 = .ok (.if_icmp .ne 7, 3) := by decide +kernel
theorem dX11_news_146 : decode cX11_news 146 = .ok (.iconst 1, 1) := by decide +kernel
theorem dX11_news_147 : decode cX11_news 147 = .ok (.goto 4, 3) := by decide +kernel
theorem dX11_news_150 : decode cX11_news 150 = .ok (.iconst 0, 1) := by decide +kernel
theorem dX11_news_151 : decode cX11_news 151 = .ok (.iload 4, 2) := by decide +kernel
theorem dX11_news_153 : decode cX11_news 153 = .ok (.if_icmp .ne 7, 3) := by decide +kernel
theorem dX11_news_156 : decode cX11_news 156 = .ok (.iconst 1, 1) := by decide +kernel
theorem dX11_news_157 : decode cX11_news 157 = .ok (.goto 4, 3) := by decide +kernel
theorem dX11_news_160 : decode cX11_news 160 = .ok (.iconst 0, 1) := by decide +kernel
theorem dX11_news_161 : decode cX11_news 161 = .ok (.istore 9, 2) := by decide +kernel
theorem dX11_news_163 : decode cX11_news 163 = .ok (.aload_n 0, 1) := by decide +kernel
theorem dX11_news_164 : decode cX11_news 164 = .ok (.getfield 54, 3) := by decide +kernel
theorem dX11_news_167 : decode cX11_news 167 = .ok (.iload 6, 2) := by decide +kernel
theorem dX11_news_169 : decode cX11_news 169 = .ok (.iload 9, 2) := by decide +kernel
theorem dX11_news_171 : decode cX11_news 171 = .ok (.ifCond .eq 20, 3) := by decide +kernel
theorem dX11_news_174 : decode cX11_news 174 = .ok (.iload 8, 2) := by decide +kernel
theorem dX11_news_176 : decode cX11_news 176 = .ok (.aload_n 0, 1) := by decide +kernel
theorem dX11_news_177 : decode cX11_news 177 = .ok (.getfield 54, 3) := by decide +kernel
theorem dX11_news_180 : decode cX11_news 180 = .ok (.iload 6, 2) := by decide +kernel
theorem dX11_news_182 : decode cX11_news 182 = .ok (.iaload, 1) := by decide +kernel
theorem dX11_news_183 : decode cX11_news 183 = .ok (.if_icmp .ge 8, 3) := by decide +kernel
theorem dX11_news_186 : decode cX11_news 186 = .ok (.iload 8, 2) := by decide +kernel
theorem dX11_news_188 : decode cX11_news 188 = .ok (.goto 10, 3) := by decide +kernel
theorem dX11_news_191 : decode cX11_news 191 = .ok (.aload_n 0, 1) := by decide +kernel
theorem dX11_news_192 : decode cX11_news 192 = .ok (.getfield 54, 3) := by decide +kernel
theorem dX11_news_195 : decode cX11_news 195 = .ok (.iload 6, 2) := by decide +kernel
theorem dX11_news_197 : decode cX11_news 197 = .ok (.iaload, 1) := by decide +kernel
theorem dX11_news_198 : decode cX11_news 198 = .ok (.iastore, 1) := by decide +kernel
theorem dX11_news_199 : decode cX11_news 199 = .ok (.iinc 7 1, 3) := by decide +kernel
theorem dX11_news_202 : decode cX11_news 202 = .ok (.goto (-112), 3) := by decide +kernel
theorem dX11_news_205 : decode cX11_news 205 = .ok (.iinc 6 1, 3) := by decide +kernel
theorem dX11_news_208 : decode cX11_news 208 = .ok (.goto (-136), 3) := by decide +kernel
theorem dX11_news_211 : decode cX11_news 211 = .ok (.iconst 0, 1) := by decide +kernel
theorem dX11_news_212 : decode cX11_news 212 = .ok (.istore 6, 2) := by decide +kernel
theorem dX11_news_214 : decode cX11_news 214 = .ok (.iload 6, 2) := by decide +kernel
theorem dX11_news_216 : decode cX11_news 216 = .ok (.iconst 4, 1) := by decide +kernel
theorem dX11_news_217 : decode cX11_news 217 = .ok (.if_icmp .ge 23, 3) := by decide +kernel
theorem dX11_news_220 : decode cX11_news 220 = .ok (.aload_n 0, 1) := by decide +kernel
theorem dX11_news_221 : decode cX11_news 221 = .ok (.getfield 51, 3) := by decide +kernel
theorem dX11_news_224 : decode cX11_news 224 = .ok (.iload 6, 2) := by decide +kernel
theorem dX11_news_226 : decode cX11_news 226 = .ok (.aload_n 0, 1) := by decide +kernel
theorem dX11_news_227 : decode cX11_news 227 = .ok (.getfield 54, 3) := by decide +kernel
theorem dX11_news_230 : decode cX11_news 230 = .ok (.iload 6, 2) := by decide +kernel
theorem dX11_news_232 : decode cX11_news 232 = .ok (.iaload, 1) := by decide +kernel
theorem dX11_news_233 : decode cX11_news 233 = .ok (.iastore, 1) := by decide +kernel
theorem dX11_news_234 : decode cX11_news 234 = .ok (.iinc 6 1, 3) := by decide +kernel
theorem dX11_news_237 : decode cX11_news 237 = .ok (.goto (-23), 3) := by decide +kernel
theorem dX11_news_240 : decode cX11_news 240 = .ok (.iinc 5 1, 3) := by decide +kernel
theorem dX11_news_243 : decode cX11_news 243 = .ok (.goto (-180), 3) := by decide +kernel
theorem dX11_news_246 : decode cX11_news 246 = .ok (.ldc 232, 2) := by decide +kernel
theorem dX11_news_248 : decode cX11_news 248 = .ok (.istore 5, 2) := by decide +kernel
theorem dX11_news_250 : decode cX11_news 250 = .ok (.iconst 0, 1) := by decide +kernel
theorem dX11_news_251 : decode cX11_news 251 = .ok (.istore 6, 2) := by decide +kernel
theorem dX11_news_253 : decode cX11_news 253 = .ok (.iload 6, 2) := by decide +kernel
theorem dX11_news_255 : decode cX11_news 255 = .ok (.iconst 4, 1) := by decide +kernel
theorem dX11_news_256 : decode cX11_news 256 = .ok (.if_icmp .ge 35, 3) := by decide +kernel
theorem dX11_news_259 : decode cX11_news 259 = .ok (.aload_n 0, 1) := by decide +kernel
theorem dX11_news_260 : decode cX11_news 260 = .ok (.getfield 51, 3) := by decide +kernel
theorem dX11_news_263 : decode cX11_news 263 = .ok (.iload 6, 2) := by decide +kernel
theorem dX11_news_265 : decode cX11_news 265 = .ok (.iaload, 1) := by decide +kernel
theorem dX11_news_266 : decode cX11_news 266 = .ok (.iload 5, 2) := by decide +kernel
theorem dX11_news_268 : decode cX11_news 268 = .ok (.if_icmp .ge 13, 3) := by decide +kernel
theorem dX11_news_271 : decode cX11_news 271 = .ok (.aload_n 0, 1) := by decide +kernel
theorem dX11_news_272 : decode cX11_news 272 = .ok (.getfield 51, 3) := by decide +kernel
theorem dX11_news_275 : decode cX11_news 275 = .ok (.iload 6, 2) := by decide +kernel
theorem dX11_news_277 : decode cX11_news 277 = .ok (.iaload, 1) := by decide +kernel
theorem dX11_news_278 : decode cX11_news 278 = .ok (.goto 5, 3) := by decide +kernel
theorem dX11_news_281 : decode cX11_news 281 = .ok (.iload 5, 2) := by decide +kernel
theorem dX11_news_283 : decode cX11_news 283 = .ok (.istore 5, 2) := by decide +kernel
theorem dX11_news_285 : decode cX11_news 285 = .ok (.iinc 6 1, 3) := by decide +kernel
theorem dX11_news_288 : decode cX11_news 288 = .ok (.goto (-35), 3) := by decide +kernel
theorem dX11_news_291 : decode cX11_news 291 = .ok (.iload 5, 2) := by decide +kernel
theorem dX11_news_293 : decode cX11_news 293 = .ok (.ldc 232, 2) := by decide +kernel
theorem dX11_news_295 : decode cX11_news 295 = .ok (.if_icmp .lt 7, 3) := by decide +kernel
theorem dX11_news_298 : decode cX11_news 298 = .ok (.iconst (-1), 1) := by decide +kernel
theorem dX11_news_299 : decode cX11_news 299 = .ok (.goto 5, 3) := by decide +kernel
theorem dX11_news_302 : decode cX11_news 302 = .ok (.iload 5, 2) := by decide +kernel
theorem dX11_news_304 : decode cX11_news 304 = .ok (.ireturn, 1) := by decide +kernel
theorem dX11_harm_0 : decode cX11_harm 0 = .ok (.aload_n 0, 1) := by decide +kernel
theorem dX11_harm_1 : decode cX11_harm 1 = .ok (.iload_n 1, 1) := by decide +kernel
theorem dX11_harm_2 : decode cX11_harm 2 = .ok (.invokevirtual 167, 3) := by decide +kernel
theorem dX11_harm_5 : decode cX11_harm 5 = .ok (.ifCond .eq 11, 3) := by decide +kernel
theorem dX11_harm_8 : decode cX11_harm 8 = .ok (.aload_n 0, 1) := by decide +kernel
theorem dX11_harm_9 : decode cX11_harm 9 = .ok (.iload_n 2, 1) := by decide +kernel
theorem dX11_harm_10 : decode cX11_harm 10 = .ok (.invokevirtual 167, 3) := by decide +kernel
theorem dX11_harm_13 : decode cX11_harm 13 = .ok (.ifCond .ne 6, 3) := by decide +kernel
theorem dX11_harm_16 : decode cX11_harm 16 = .ok (.bipush (-2), 2) := by decide +kernel
theorem dX11_harm_18 : decode cX11_harm 18 = .ok (.ireturn, 1) := by decide +kernel
theorem dX11_harm_19 : decode cX11_harm 19 = .ok (.iload_n 3, 1) := by decide +kernel
theorem dX11_harm_20 : decode cX11_harm 20 = .ok (.i2l, 1) := by decide +kernel
theorem dX11_harm_21 : decode cX11_harm 21 = .ok (.lconst 0, 1) := by decide +kernel
theorem dX11_harm_22 : decode cX11_harm 22 = .ok (.ldc2_w 194, 3) := by decide +kernel
theorem dX11_harm_25 : decode cX11_harm 25 = .ok (.invokestatic 80, 3) := by decide +kernel
theorem dX11_harm_28 : decode cX11_harm 28 = .ok (.ifCond .ne 6, 3) := by decide +kernel
theorem dX11_harm_31 : decode cX11_harm 31 = .ok (.bipush (-3), 2) := by decide +kernel
theorem dX11_harm_33 : decode cX11_harm 33 = .ok (.ireturn, 1) := by decide +kernel
theorem dX11_harm_34 : decode cX11_harm 34 = .ok (.aload_n 0, 1) := by decide +kernel
theorem dX11_harm_35 : decode cX11_harm 35 = .ok (.getfield 57, 3) := by decide +kernel
theorem dX11_harm_38 : decode cX11_harm 38 = .ok (.bipush 6, 2) := by decide +kernel
theorem dX11_harm_40 : decode cX11_harm 40 = .ok (.iload_n 1, 1) := by decide +kernel
theorem dX11_harm_41 : decode cX11_harm 41 = .ok (.imul, 1) := by decide +kernel
theorem dX11_harm_42 : decode cX11_harm 42 = .ok (.iload_n 2, 1) := by decide +kernel
theorem dX11_harm_43 : decode cX11_harm 43 = .ok (.iadd, 1) := by decide +kernel
theorem dX11_harm_44 : decode cX11_harm 44 = .ok (.iaload, 1) := by decide +kernel
theorem dX11_harm_45 : decode cX11_harm 45 = .ok (.istore 4, 2) := by decide +kernel
theorem dX11_harm_47 : decode cX11_harm 47 = .ok (.aload_n 0, 1) := by decide +kernel
theorem dX11_harm_48 : decode cX11_harm 48 = .ok (.getfield 57, 3) := by decide +kernel
theorem dX11_harm_51 : decode cX11_harm 51 = .ok (.bipush 6, 2) := by decide +kernel
theorem dX11_harm_53 : decode cX11_harm 53 = .ok (.iload_n 1, 1) := by decide +kernel
theorem dX11_harm_54 : decode cX11_harm 54 = .ok (.imul, 1) := by decide +kernel
theorem dX11_harm_55 : decode cX11_harm 55 = .ok (.iload_n 2, 1) := by decide +kernel
theorem dX11_harm_56 : decode cX11_harm 56 = .ok (.iadd, 1) := by decide +kernel
theorem dX11_harm_57 : decode cX11_harm 57 = .ok (.iload_n 3, 1) := by decide +kernel
theorem dX11_harm_58 : decode cX11_harm 58 = .ok (.iastore, 1) := by decide +kernel
theorem dX11_harm_59 : decode cX11_harm 59 = .ok (.iload 4, 2) := by decide +kernel
theorem dX11_harm_61 : decode cX11_harm 61 = .ok (.ireturn, 1) := by decide +kernel
theorem dX11_bits_0 : decode cX11_bits 0 = .ok (.iconst 0, 1) := by decide +kernel
theorem dX11_bits_1 : decode cX11_bits 1 = .ok (.istore_n 1, 1) := by decide +kernel
theorem dX11_bits_2 : decode cX11_bits 2 = .ok (.iconst 0, 1) := by decide +kernel
theorem dX11_bits_3 : decode cX11_bits 3 = .ok (.istore_n 2, 1) := by decide +kernel
theorem dX11_bits_4 : decode cX11_bits 4 = .ok (.iload_n 2, 1) := by decide +kernel
theorem dX11_bits_5 : decode cX11_bits 5 = .ok (.bipush 6, 2) := by decide +kernel
theorem dX11_bits_7 : decode cX11_bits 7 = .ok (.if_icmp .ge 17, 3) := by decide +kernel
theorem dX11_bits_10 : decode cX11_bits 10 = .ok (.iload_n 1, 1) := by decide +kernel
theorem dX11_bits_11 : decode cX11_bits 11 = .ok (.iload_n 0, 1) := by decide +kernel
theorem dX11_bits_12 : decode cX11_bits 12 = .ok (.iload_n 2, 1) := by decide +kernel
theorem dX11_bits_13 : decode cX11_bits 13 = .ok (.ishr, 1) := by decide +kernel
theorem dX11_bits_14 : decode cX11_bits 14 = .ok (.iconst 1, 1) := by decide +kernel
theorem dX11_bits_15 : decode cX11_bits 15 = .ok (.iand, 1) := by decide +kernel
theorem dX11_bits_16 : decode cX11_bits 16 = .ok (.iadd, 1) := by decide +kernel
theorem dX11_bits_17 : decode cX11_bits 17 = .ok (.istore_n 1, 1) := by decide +kernel
theorem dX11_bits_18 : decode cX11_bits 18 = .ok (.iinc 2 1, 3) := by decide +kernel
theorem dX11_bits_21 : decode cX11_bits 21 = .ok (.goto (-17), 3) := by decide +kernel
theorem dX11_bits_24 : decode cX11_bits 24 = .ok (.iload_n 1, 1) := by decide +kernel
theorem dX11_bits_25 : decode cX11_bits 25 = .ok (.ireturn, 1) := by decide +kernel
theorem dX11_harmBy_0 : decode cX11_harmBy 0 = .ok (.iload_n 1, 1) := by decide +kernel
theorem dX11_harmBy_1 : decode cX11_harmBy 1 = .ok (.invokestatic 237, 3) := by decide +kernel
theorem dX11_harmBy_4 : decode cX11_harmBy 4 = .ok (.istore 5, 2) := by decide +kernel
theorem dX11_harmBy_6 : decode cX11_harmBy 6 = .ok (.iload_n 1, 1) := by decide +kernel
theorem dX11_harmBy_7 : decode cX11_harmBy 7 = .ok (.iload_n 2, 1) := by decide +kernel
theorem dX11_harmBy_8 : decode cX11_harmBy 8 = .ok (.ishr, 1) := by decide +kernel
theorem dX11_harmBy_9 : decode cX11_harmBy 9 = .ok (.iconst 1, 1) := by decide +kernel
theorem dX11_harmBy_10 : decode cX11_harmBy 10 = .ok (.iand, 1) := by decide +kernel
theorem dX11_harmBy_11 : decode cX11_harmBy 11 = .ok (.ifCond .ne 37, 3) := by decide +kernel
theorem dX11_harmBy_14 : decode cX11_harmBy 14 = .ok (.iload_n 3, 1) := by decide +kernel
theorem dX11_harmBy_15 : decode cX11_harmBy 15 = .ok (.iconst (-1), 1) := by decide +kernel
theorem dX11_harmBy_16 : decode cX11_harmBy 16 = .ok (.if_icmp .eq 28, 3) := by decide +kernel
theorem dX11_harmBy_19 : decode cX11_harmBy 19 = .ok (.iload 5, 2) := by decide +kernel
theorem dX11_harmBy_21 : decode cX11_harmBy 21 = .ok (.iload_n 3, 1) := by decide +kernel
theorem dX11_harmBy_22 : decode cX11_harmBy 22 = .ok (.if_icmp .ne 7, 3) := by decide +kernel
theorem dX11_harmBy_25 : decode cX11_harmBy 25 = .ok (.iconst 1, 1) := by decide +kernel
theorem dX11_harmBy_26 : decode cX11_harmBy 26 = .ok (.goto 4, 3) := by decide +kernel
theorem dX11_harmBy_29 : decode cX11_harmBy 29 = .ok (.iconst 0, 1) := by decide +kernel
theorem dX11_harmBy_30 : decode cX11_harmBy 30 = .ok (.iload_n 2, 1) := by decide +kernel
theorem dX11_harmBy_31 : decode cX11_harmBy 31 = .ok (.iload 4, 2) := by decide +kernel
theorem dX11_harmBy_33 : decode cX11_harmBy 33 = .ok (.if_icmp .ne 7, 3) := by decide +kernel
theorem dX11_harmBy_36 : decode cX11_harmBy 36 = .ok (.iconst 1, 1) := by decide +kernel
theorem dX11_harmBy_37 : decode cX11_harmBy 37 = .ok (.goto 4, 3) := by decide +kernel
theorem dX11_harmBy_40 : decode cX11_harmBy 40 = .ok (.iconst 0, 1) := by decide +kernel
theorem dX11_harmBy_41 : decode cX11_harmBy 41 = .ok (.if_icmp .ne 7, 3) := by decide +kernel
theorem dX11_harmBy_44 : decode cX11_harmBy 44 = .ok (.iconst 1, 1) := by decide +kernel
theorem dX11_harmBy_45 : decode cX11_harmBy 45 = .ok (.goto 4, 3) := by decide +kernel
theorem dX11_harmBy_48 : decode cX11_harmBy 48 = .ok (.iconst 0, 1) := by decide +kernel
theorem dX11_harmBy_49 : decode cX11_harmBy 49 = .ok (.istore 6, 2) := by decide +kernel
theorem dX11_harmBy_51 : decode cX11_harmBy 51 = .ok (.iload 6, 2) := by decide +kernel
theorem dX11_harmBy_53 : decode cX11_harmBy 53 = .ok (.ifCond .eq 29, 3) := by decide +kernel
theorem dX11_harmBy_56 : decode cX11_harmBy 56 = .ok (.aload_n 0, 1) := by decide +kernel
theorem dX11_harmBy_57 : decode cX11_harmBy 57 = .ok (.getfield 57, 3) := by decide +kernel
theorem dX11_harmBy_60 : decode cX11_harmBy 60 = .ok (.bipush 6, 2) := by decide +kernel
theorem dX11_harmBy_62 : decode cX11_harmBy 62 = .ok (.iload 5, 2) := by decide +kernel
theorem dX11_harmBy_64 : decode cX11_harmBy 64 = .ok (.imul, 1) := by decide +kernel
theorem dX11_harmBy_65 : decode cX11_harmBy 65 = .ok (.iload_n 2, 1) := by decide +kernel
theorem dX11_harmBy_66 : decode cX11_harmBy 66 = .ok (.iadd, 1) := by decide +kernel
theorem dX11_harmBy_67 : decode cX11_harmBy 67 = .ok (.iaload, 1) := by decide +kernel
theorem dX11_harmBy_68 : decode cX11_harmBy 68 = .ok (.aload_n 0, 1) := by decide +kernel
theorem dX11_harmBy_69 : decode cX11_harmBy 69 = .ok (.getfield 60, 3) := by decide +kernel
theorem dX11_harmBy_72 : decode cX11_harmBy 72 = .ok (.iload_n 1, 1) := by decide +kernel
theorem dX11_harmBy_73 : decode cX11_harmBy 73 = .ok (.iconst 1, 1) := by decide +kernel
theorem dX11_harmBy_74 : decode cX11_harmBy 74 = .ok (.iload_n 2, 1) := by decide +kernel
theorem dX11_harmBy_75 : decode cX11_harmBy 75 = .ok (.ishl, 1) := by decide +kernel
theorem dX11_harmBy_76 : decode cX11_harmBy 76 = .ok (.ior, 1) := by decide +kernel
theorem dX11_harmBy_77 : decode cX11_harmBy 77 = .ok (.iaload, 1) := by decide +kernel
theorem dX11_harmBy_78 : decode cX11_harmBy 78 = .ok (.iadd, 1) := by decide +kernel
theorem dX11_harmBy_79 : decode cX11_harmBy 79 = .ok (.goto 5, 3) := by decide +kernel
theorem dX11_harmBy_82 : decode cX11_harmBy 82 = .ok (.ldc 232, 2) := by decide +kernel
theorem dX11_harmBy_84 : decode cX11_harmBy 84 = .ok (.ireturn, 1) := by decide +kernel
theorem dX11_layRests_0 : decode cX11_layRests 0 = .ok (.iconst 1, 1) := by decide +kernel
theorem dX11_layRests_1 : decode cX11_layRests 1 = .ok (.aload_n 0, 1) := by decide +kernel
theorem dX11_layRests_2 : decode cX11_layRests 2 = .ok (.getfield 23, 3) := by decide +kernel
theorem dX11_layRests_5 : decode cX11_layRests 5 = .ok (.ishl, 1) := by decide +kernel
theorem dX11_layRests_6 : decode cX11_layRests 6 = .ok (.iconst 1, 1) := by decide +kernel
theorem dX11_layRests_7 : decode cX11_layRests 7 = .ok (.isub, 1) := by decide +kernel
theorem dX11_layRests_8 : decode cX11_layRests 8 = .ok (.istore_n 3, 1) := by decide +kernel
theorem dX11_layRests_9 : decode cX11_layRests 9 = .ok (.iload_n 3, 1) := by decide +kernel
theorem dX11_layRests_10 : decode cX11_layRests 10 = .ok (.ifCond .lt 97, 3) := by decide +kernel
theorem dX11_layRests_13 : decode cX11_layRests 13 = .ok (.iload_n 3, 1) := by decide +kernel
theorem dX11_layRests_14 : decode cX11_layRests 14 = .ok (.invokestatic 237, 3) := by decide +kernel
theorem dX11_layRests_17 : decode cX11_layRests 17 = .ok (.aload_n 0, 1) := by decide +kernel
theorem dX11_layRests_18 : decode cX11_layRests 18 = .ok (.getfield 23, 3) := by decide +kernel
theorem dX11_layRests_21 : decode cX11_layRests 21 = .ok (.if_icmp .ne 7, 3) := by decide +kernel
theorem dX11_layRests_24 : decode cX11_layRests 24 = .ok (.iconst 0, 1) := by decide +kernel
theorem dX11_layRests_25 : decode cX11_layRests 25 = .ok (.goto 5, 3) := by decide +kernel
theorem dX11_layRests_28 : decode cX11_layRests 28 = .ok (.ldc 232, 2) := by decide +kernel
theorem dX11_layRests_30 : decode cX11_layRests 30 = .ok (.istore 4, 2) := by decide +kernel
theorem dX11_layRests_32 : decode cX11_layRests 32 = .ok (.iconst 0, 1) := by decide +kernel
theorem dX11_layRests_33 : decode cX11_layRests 33 = .ok (.istore 5, 2) := by decide +kernel
theorem dX11_layRests_35 : decode cX11_layRests 35 = .ok (.iload 5, 2) := by decide +kernel
theorem dX11_layRests_37 : decode cX11_layRests 37 = .ok (.aload_n 0, 1) := by decide +kernel
theorem dX11_layRests_38 : decode cX11_layRests 38 = .ok (.getfield 23, 3) := by decide +kernel
theorem dX11_layRests_41 : decode cX11_layRests 41 = .ok (.if_icmp .ge 52, 3) := by decide +kernel
theorem dX11_layRests_44 : decode cX11_layRests 44 = .ok (.iload_n 3, 1) := by decide +kernel
theorem dX11_layRests_45 : decode cX11_layRests 45 = .ok (.invokestatic 237, 3) := by decide +kernel
theorem dX11_layRests_48 : decode cX11_layRests 48 = .ok (.aload_n 0, 1) := by decide +kernel
theorem dX11_layRests_49 : decode cX11_layRests 49 = .ok (.getfield 23, 3) := by decide +kernel
theorem dX11_layRests_52 : decode cX11_layRests 52 = .ok (.if_icmp .ge 15, 3) := by decide +kernel
theorem dX11_layRests_55 : decode cX11_layRests 55 = .ok (.aload_n 0, 1) := by decide +kernel
theorem dX11_layRests_56 : decode cX11_layRests 56 = .ok (.iload_n 3, 1) := by decide +kernel
theorem dX11_layRests_57 : decode cX11_layRests 57 = .ok (.iload 5, 2) := by decide +kernel
theorem dX11_layRests_59 : decode cX11_layRests 59 = .ok (.iload_n 1, 1) := by decide +kernel
theorem dX11_layRests_60 : decode cX11_layRests 60 = .ok (.iload_n 2, 1) := by decide +kernel
theorem dX11_layRests_61 : decode cX11_layRests 61 = .ok (.invokevirtual 240, 3) := by decide +kernel
theorem dX11_layRests_64 : decode cX11_layRests 64 = .ok (.goto 5, 3) := by decide +kernel
theorem dX11_layRests_67 : decode cX11_layRests 67 = .ok (.ldc 232, 2) := by decide +kernel
theorem dX11_layRests_69 : decode cX11_layRests 69 = .ok (.istore 6, 2) := by decide +kernel
theorem dX11_layRests_71 : decode cX11_layRests 71 = .ok (.iload 6, 2) := by decide +kernel
theorem dX11_layRests_73 : decode cX11_layRests 73 = .ok (.iload 4, 2) := by decide +kernel
theorem dX11_layRests_75 : decode cX11_layRests 75 = .ok (.if_icmp .ge 8, 3) := by decide +kernel
theorem dX11_layRests_78 : decode cX11_layRests 78 = .ok (.iload 6, 2) := by decide +kernel
theorem dX11_layRests_80 : decode cX11_layRests 80 = .ok (.goto 5, 3) := by decide +kernel
theorem dX11_layRests_83 : decode cX11_layRests 83 = .ok (.iload 4, 2) := by decide +kernel
theorem dX11_layRests_85 : decode cX11_layRests 85 = .ok (.istore 4, 2) := by decide +kernel
theorem dX11_layRests_87 : decode cX11_layRests 87 = .ok (.iinc 5 1, 3) := by decide +kernel
theorem dX11_layRests_90 : decode cX11_layRests 90 = .ok (.goto (-55), 3) := by decide +kernel
theorem dX11_layRests_93 : decode cX11_layRests 93 = .ok (.aload_n 0, 1) := by decide +kernel
theorem dX11_layRests_94 : decode cX11_layRests 94 = .ok (.getfield 60, 3) := by decide +kernel
theorem dX11_layRests_97 : decode cX11_layRests 97 = .ok (.iload_n 3, 1) := by decide +kernel
theorem dX11_layRests_98 : decode cX11_layRests 98 = .ok (.iload 4, 2) := by decide +kernel
theorem dX11_layRests_100 : decode cX11_layRests 100 = .ok (.iastore, 1) := by decide +kernel
theorem dX11_layRests_101 : decode cX11_layRests 101 = .ok (.iinc 3 (-1), 3) := by decide +kernel
theorem dX11_layRests_104 : decode cX11_layRests 104 = .ok (.goto (-95), 3) := by decide +kernel
theorem dX11_layRests_107 : decode cX11_layRests 107 = .ok (.aload_n 0, 1) := by decide +kernel
theorem dX11_layRests_108 : decode cX11_layRests 108 = .ok (.getfield 60, 3) := by decide +kernel
theorem dX11_layRests_111 : decode cX11_layRests 111 = .ok (.iconst 0, 1) := by decide +kernel
theorem dX11_layRests_112 : decode cX11_layRests 112 = .ok (.iaload, 1) := by decide +kernel
theorem dX11_layRests_113 : decode cX11_layRests 113 = .ok (.ireturn, 1) := by decide +kernel
theorem dX11_anew_0 : decode cX11_anew 0 = .ok (.iload_n 1, 1) := by decide +kernel
theorem dX11_anew_1 : decode cX11_anew 1 = .ok (.iconst (-1), 1) := by decide +kernel
theorem dX11_anew_2 : decode cX11_anew 2 = .ok (.if_icmp .eq 14, 3) := by decide +kernel
theorem dX11_anew_5 : decode cX11_anew 5 = .ok (.aload_n 0, 1) := by decide +kernel
theorem dX11_anew_6 : decode cX11_anew 6 = .ok (.iload_n 1, 1) := by decide +kernel
theorem dX11_anew_7 : decode cX11_anew 7 = .ok (.invokevirtual 167, 3) := by decide +kernel
theorem dX11_anew_10 : decode cX11_anew 10 = .ok (.ifCond .ne 6, 3) := by decide +kernel
theorem dX11_anew_13 : decode cX11_anew 13 = .ok (.bipush (-2), 2) := by decide +kernel
theorem dX11_anew_15 : decode cX11_anew 15 = .ok (.ireturn, 1) := by decide +kernel
theorem dX11_anew_16 : decode cX11_anew 16 = .ok (.aload_n 0, 1) := by decide +kernel
theorem dX11_anew_17 : decode cX11_anew 17 = .ok (.iconst (-1), 1) := by decide +kernel
theorem dX11_anew_18 : decode cX11_anew 18 = .ok (.iconst (-1), 1) := by decide +kernel
theorem dX11_anew_19 : decode cX11_anew 19 = .ok (.invokevirtual 243, 3) := by decide +kernel
theorem dX11_anew_22 : decode cX11_anew 22 = .ok (.istore_n 2, 1) := by decide +kernel
theorem dX11_anew_23 : decode cX11_anew 23 = .ok (.iconst 0, 1) := by decide +kernel
theorem dX11_anew_24 : decode cX11_anew 24 = .ok (.istore_n 3, 1) := by decide +kernel
theorem dX11_anew_25 : decode cX11_anew 25 = .ok (.iconst (-1), 1) := by decide +kernel
theorem dX11_anew_26 : decode cX11_anew 26 = .ok (.istore 4, 2) := by decide +kernel
theorem dX11_anew_28 : decode cX11_anew 28 = .ok (.iconst 0, 1) := by decide +kernel
theorem dX11_anew_29 : decode cX11_anew 29 = .ok (.istore 5, 2) := by decide +kernel
theorem dX11_anew_31 : decode cX11_anew 31 = .ok (.iload 5, 2) := by decide +kernel
theorem dX11_anew_33 : decode cX11_anew 33 = .ok (.iload_n 1, 1) := by decide +kernel
theorem dX11_anew_34 : decode cX11_anew 34 = .ok (.if_icmp .gt 43, 3) := by decide +kernel
theorem dX11_anew_37 : decode cX11_anew 37 = .ok (.iconst 0, 1) := by decide +kernel
theorem dX11_anew_38 : decode cX11_anew 38 = .ok (.istore 4, 2) := by decide +kernel
theorem dX11_anew_40 : decode cX11_anew 40 = .ok (.aload_n 0, 1) := by decide +kernel
theorem dX11_anew_41 : decode cX11_anew 41 = .ok (.iload_n 3, 1) := by decide +kernel
theorem dX11_anew_42 : decode cX11_anew 42 = .ok (.iload 4, 2) := by decide +kernel
theorem dX11_anew_44 : decode cX11_anew 44 = .ok (.iconst (-1), 1) := by decide +kernel
theorem dX11_anew_45 : decode cX11_anew 45 = .ok (.iconst (-1), 1) := by decide +kernel
theorem dX11_anew_46 : decode cX11_anew 46 = .ok (.invokevirtual 240, 3) := by decide +kernel
theorem dX11_anew_49 : decode cX11_anew 49 = .ok (.aload_n 0, 1) := by decide +kernel
theorem dX11_anew_50 : decode cX11_anew 50 = .ok (.getfield 60, 3) := by decide +kernel
theorem dX11_anew_53 : decode cX11_anew 53 = .ok (.iload_n 3, 1) := by decide +kernel
theorem dX11_anew_54 : decode cX11_anew 54 = .ok (.iaload, 1) := by decide +kernel
theorem dX11_anew_55 : decode cX11_anew 55 = .ok (.if_icmp .eq 9, 3) := by decide +kernel
theorem dX11_anew_58 : decode cX11_anew 58 = .ok (.iinc 4 1, 3) := by decide +kernel
theorem dX11_anew_61 : decode cX11_anew 61 = .ok (.goto (-21), 3) := by decide +kernel
theorem dX11_anew_64 : decode cX11_anew 64 = .ok (.iload_n 3, 1) := by decide +kernel
theorem dX11_anew_65 : decode cX11_anew 65 = .ok (.iconst 1, 1) := by decide +kernel
theorem dX11_anew_66 : decode cX11_anew 66 = .ok (.iload 4, 2) := by decide +kernel
theorem dX11_anew_68 : decode cX11_anew 68 = .ok (.ishl, 1) := by decide +kernel
theorem dX11_anew_69 : decode cX11_anew 69 = .ok (.ior, 1) := by decide +kernel
theorem dX11_anew_70 : decode cX11_anew 70 = .ok (.istore_n 3, 1) := by decide +kernel
theorem dX11_anew_71 : decode cX11_anew 71 = .ok (.iinc 5 1, 3) := by decide +kernel
theorem dX11_anew_74 : decode cX11_anew 74 = .ok (.goto (-43), 3) := by decide +kernel
theorem dX11_anew_77 : decode cX11_anew 77 = .ok (.iload_n 1, 1) := by decide +kernel
theorem dX11_anew_78 : decode cX11_anew 78 = .ok (.iconst (-1), 1) := by decide +kernel
theorem dX11_anew_79 : decode cX11_anew 79 = .ok (.if_icmp .ne 7, 3) := by decide +kernel
theorem dX11_anew_82 : decode cX11_anew 82 = .ok (.iload_n 2, 1) := by decide +kernel
theorem dX11_anew_83 : decode cX11_anew 83 = .ok (.goto 5, 3) := by decide +kernel
theorem dX11_anew_86 : decode cX11_anew 86 = .ok (.iload 4, 2) := by decide +kernel
theorem dX11_anew_88 : decode cX11_anew 88 = .ok (.ireturn, 1) := by decide +kernel
theorem dX11_forced_0 : decode cX11_forced 0 = .ok (.aload_n 0, 1) := by decide +kernel
theorem dX11_forced_1 : decode cX11_forced 1 = .ok (.iload_n 1, 1) := by decide +kernel
theorem dX11_forced_2 : decode cX11_forced 2 = .ok (.invokevirtual 167, 3) := by decide +kernel
theorem dX11_forced_5 : decode cX11_forced 5 = .ok (.ifCond .eq 20, 3) := by decide +kernel
theorem dX11_forced_8 : decode cX11_forced 8 = .ok (.aload_n 0, 1) := by decide +kernel
theorem dX11_forced_9 : decode cX11_forced 9 = .ok (.iload_n 2, 1) := by decide +kernel
theorem dX11_forced_10 : decode cX11_forced 10 = .ok (.invokevirtual 167, 3) := by decide +kernel
theorem dX11_forced_13 : decode cX11_forced 13 = .ok (.ifCond .eq 12, 3) := by decide +kernel
theorem dX11_forced_16 : decode cX11_forced 16 = .ok (.aload_n 0, 1) := by decide +kernel
theorem dX11_forced_17 : decode cX11_forced 17 = .ok (.iload_n 1, 1) := by decide +kernel
theorem dX11_forced_18 : decode cX11_forced 18 = .ok (.iload_n 2, 1) := by decide +kernel
theorem dX11_forced_19 : decode cX11_forced 19 = .ok (.invokevirtual 243, 3) := by decide +kernel
theorem dX11_forced_22 : decode cX11_forced 22 = .ok (.goto 5, 3) := by decide +kernel
theorem dX11_forced_25 : decode cX11_forced 25 = .ok (.bipush (-2), 2) := by decide +kernel
theorem dX11_forced_27 : decode cX11_forced 27 = .ok (.ireturn, 1) := by decide +kernel
theorem dX11_like_0 : decode cX11_like 0 = .ok (.iload_n 1, 1) := by decide +kernel
theorem dX11_like_1 : decode cX11_like 1 = .ok (.invokestatic 164, 3) := by decide +kernel
theorem dX11_like_4 : decode cX11_like 4 = .ok (.ifCond .eq 19, 3) := by decide +kernel
theorem dX11_like_7 : decode cX11_like 7 = .ok (.aload_n 0, 1) := by decide +kernel
theorem dX11_like_8 : decode cX11_like 8 = .ok (.iload_n 2, 1) := by decide +kernel
theorem dX11_like_9 : decode cX11_like 9 = .ok (.invokevirtual 167, 3) := by decide +kernel
theorem dX11_like_12 : decode cX11_like 12 = .ok (.ifCond .eq 11, 3) := by decide +kernel
theorem dX11_like_15 : decode cX11_like 15 = .ok (.aload_n 0, 1) := by decide +kernel
theorem dX11_like_16 : decode cX11_like 16 = .ok (.iload_n 3, 1) := by decide +kernel
theorem dX11_like_17 : decode cX11_like 17 = .ok (.invokevirtual 167, 3) := by decide +kernel
theorem dX11_like_20 : decode cX11_like 20 = .ok (.ifCond .ne 6, 3) := by decide +kernel
theorem dX11_like_23 : decode cX11_like 23 = .ok (.bipush (-2), 2) := by decide +kernel
theorem dX11_like_25 : decode cX11_like 25 = .ok (.ireturn, 1) := by decide +kernel
theorem dX11_like_26 : decode cX11_like 26 = .ok (.iload_n 2, 1) := by decide +kernel
theorem dX11_like_27 : decode cX11_like 27 = .ok (.iload_n 3, 1) := by decide +kernel
theorem dX11_like_28 : decode cX11_like 28 = .ok (.if_icmp .eq 16, 3) := by decide +kernel
theorem dX11_like_31 : decode cX11_like 31 = .ok (.iload 4, 2) := by decide +kernel
theorem dX11_like_33 : decode cX11_like 33 = .ok (.i2l, 1) := by decide +kernel
theorem dX11_like_34 : decode cX11_like 34 = .ok (.lconst 0, 1) := by decide +kernel
theorem dX11_like_35 : decode cX11_like 35 = .ok (.ldc2_w 194, 3) := by decide +kernel
theorem dX11_like_38 : decode cX11_like 38 = .ok (.invokestatic 80, 3) := by decide +kernel
theorem dX11_like_41 : decode cX11_like 41 = .ok (.ifCond .ne 6, 3) := by decide +kernel
theorem dX11_like_44 : decode cX11_like 44 = .ok (.bipush (-3), 2) := by decide +kernel
theorem dX11_like_46 : decode cX11_like 46 = .ok (.ireturn, 1) := by decide +kernel
theorem dX11_like_47 : decode cX11_like 47 = .ok (.aload_n 0, 1) := by decide +kernel
theorem dX11_like_48 : decode cX11_like 48 = .ok (.getfield 63, 3) := by decide +kernel
theorem dX11_like_51 : decode cX11_like 51 = .ok (.bipush 36, 2) := by decide +kernel
theorem dX11_like_53 : decode cX11_like 53 = .ok (.iload_n 1, 1) := by decide +kernel
theorem dX11_like_54 : decode cX11_like 54 = .ok (.imul, 1) := by decide +kernel
theorem dX11_like_55 : decode cX11_like 55 = .ok (.bipush 6, 2) := by decide +kernel
theorem dX11_like_57 : decode cX11_like 57 = .ok (.iload_n 2, 1) := by decide +kernel
theorem dX11_like_58 : decode cX11_like 58 = .ok (.imul, 1) := by decide +kernel
theorem dX11_like_59 : decode cX11_like 59 = .ok (.iadd, 1) := by decide +kernel
theorem dX11_like_60 : decode cX11_like 60 = .ok (.iload_n 3, 1) := by decide +kernel
theorem dX11_like_61 : decode cX11_like 61 = .ok (.iadd, 1) := by decide +kernel
theorem dX11_like_62 : decode cX11_like 62 = .ok (.iaload, 1) := by decide +kernel
theorem dX11_like_63 : decode cX11_like 63 = .ok (.istore 5, 2) := by decide +kernel
theorem dX11_like_65 : decode cX11_like 65 = .ok (.aload_n 0, 1) := by decide +kernel
theorem dX11_like_66 : decode cX11_like 66 = .ok (.getfield 63, 3) := by decide +kernel
theorem dX11_like_69 : decode cX11_like 69 = .ok (.bipush 36, 2) := by decide +kernel
theorem dX11_like_71 : decode cX11_like 71 = .ok (.iload_n 1, 1) := by decide +kernel
theorem dX11_like_72 : decode cX11_like 72 = .ok (.imul, 1) := by decide +kernel
theorem dX11_like_73 : decode cX11_like 73 = .ok (.bipush 6, 2) := by decide +kernel
theorem dX11_like_75 : decode cX11_like 75 = .ok (.iload_n 2, 1) := by decide +kernel
theorem dX11_like_76 : decode cX11_like 76 = .ok (.imul, 1) := by decide +kernel
theorem dX11_like_77 : decode cX11_like 77 = .ok (.iadd, 1) := by decide +kernel
theorem dX11_like_78 : decode cX11_like 78 = .ok (.iload_n 3, 1) := by decide +kernel
theorem dX11_like_79 : decode cX11_like 79 = .ok (.iadd, 1) := by decide +kernel
theorem dX11_like_80 : decode cX11_like 80 = .ok (.iload 4, 2) := by decide +kernel
theorem dX11_like_82 : decode cX11_like 82 = .ok (.iastore, 1) := by decide +kernel
theorem dX11_like_83 : decode cX11_like 83 = .ok (.aload_n 0, 1) := by decide +kernel
theorem dX11_like_84 : decode cX11_like 84 = .ok (.getfield 63, 3) := by decide +kernel
theorem dX11_like_87 : decode cX11_like 87 = .ok (.bipush 36, 2) := by decide +kernel
theorem dX11_like_89 : decode cX11_like 89 = .ok (.iload_n 1, 1) := by decide +kernel
theorem dX11_like_90 : decode cX11_like 90 = .ok (.imul, 1) := by decide +kernel
theorem dX11_like_91 : decode cX11_like 91 = .ok (.bipush 6, 2) := by decide +kernel
theorem dX11_like_93 : decode cX11_like 93 = .ok (.iload_n 3, 1) := by decide +kernel
theorem dX11_like_94 : decode cX11_like 94 = .ok (.imul, 1) := by decide +kernel
theorem dX11_like_95 : decode cX11_like 95 = .ok (.iadd, 1) := by decide +kernel
theorem dX11_like_96 : decode cX11_like 96 = .ok (.iload_n 2, 1) := by decide +kernel
theorem dX11_like_97 : decode cX11_like 97 = .ok (.iadd, 1) := by decide +kernel
theorem dX11_like_98 : decode cX11_like 98 = .ok (.iload 4, 2) := by decide +kernel
theorem dX11_like_100 : decode cX11_like 100 = .ok (.iastore, 1) := by decide +kernel
theorem dX11_like_101 : decode cX11_like 101 = .ok (.iload 5, 2) := by decide +kernel
theorem dX11_like_103 : decode cX11_like 103 = .ok (.ireturn, 1) := by decide +kernel
theorem dX11_fours_0 : decode cX11_fours 0 = .ok (.iload_n 1, 1) := by decide +kernel
theorem dX11_fours_1 : decode cX11_fours 1 = .ok (.i2l, 1) := by decide +kernel
theorem dX11_fours_2 : decode cX11_fours 2 = .ok (.lconst 0, 1) := by decide +kernel
theorem dX11_fours_3 : decode cX11_fours 3 = .ok (.lconst 1, 1) := by decide +kernel
theorem dX11_fours_4 : decode cX11_fours 4 = .ok (.invokestatic 80, 3) := by decide +kernel
theorem dX11_fours_7 : decode cX11_fours 7 = .ok (.ifCond .ne 6, 3) := by decide +kernel
theorem dX11_fours_10 : decode cX11_fours 10 = .ok (.bipush (-3), 2) := by decide +kernel
theorem dX11_fours_12 : decode cX11_fours 12 = .ok (.ireturn, 1) := by decide +kernel
theorem dX11_fours_13 : decode cX11_fours 13 = .ok (.iconst 0, 1) := by decide +kernel
theorem dX11_fours_14 : decode cX11_fours 14 = .ok (.istore_n 2, 1) := by decide +kernel
theorem dX11_fours_15 : decode cX11_fours 15 = .ok (.iload_n 2, 1) := by decide +kernel
theorem dX11_fours_16 : decode cX11_fours 16 = .ok (.iconst 1, 1) := by decide +kernel
theorem dX11_fours_17 : decode cX11_fours 17 = .ok (.aload_n 0, 1) := by decide +kernel
theorem dX11_fours_18 : decode cX11_fours 18 = .ok (.getfield 23, 3) := by decide +kernel
theorem dX11_fours_21 : decode cX11_fours 21 = .ok (.ishl, 1) := by decide +kernel
theorem dX11_fours_22 : decode cX11_fours 22 = .ok (.if_icmp .ge 176, 3) := by decide +kernel
theorem dX11_fours_25 : decode cX11_fours 25 = .ok (.iconst 0, 1) := by decide +kernel
theorem dX11_fours_26 : decode cX11_fours 26 = .ok (.istore_n 3, 1) := by decide +kernel
theorem dX11_fours_27 : decode cX11_fours 27 = .ok (.iconst 0, 1) := by decide +kernel
theorem dX11_fours_28 : decode cX11_fours 28 = .ok (.istore 4, 2) := by decide +kernel
theorem dX11_fours_30 : decode cX11_fours 30 = .ok (.iload 4, 2) := by decide +kernel
theorem dX11_fours_32 : decode cX11_fours 32 = .ok (.bipush 36, 2) := by decide +kernel
theorem dX11_fours_34 : decode cX11_fours 34 = .ok (.if_icmp .ge 151, 3) := by decide +kernel
theorem dX11_fours_37 : decode cX11_fours 37 = .ok (.iload 4, 2) := by decide +kernel
theorem dX11_fours_39 : decode cX11_fours 39 = .ok (.bipush 6, 2) := by decide +kernel
theorem dX11_fours_41 : decode cX11_fours 41 = .ok (.idiv, 1) := by decide +kernel
theorem dX11_fours_42 : decode cX11_fours 42 = .ok (.istore 5, 2) := by decide +kernel
theorem dX11_fours_44 : decode cX11_fours 44 = .ok (.iload 4, 2) := by decide +kernel
theorem dX11_fours_46 : decode cX11_fours 46 = .ok (.bipush 6, 2) := by decide +kernel
theorem dX11_fours_48 : decode cX11_fours 48 = .ok (.irem, 1) := by decide +kernel
theorem dX11_fours_49 : decode cX11_fours 49 = .ok (.istore 6, 2) := by decide +kernel
theorem dX11_fours_51 : decode cX11_fours 51 = .ok (.iload 5, 2) := by decide +kernel
theorem dX11_fours_53 : decode cX11_fours 53 = .ok (.iload 6, 2) := by decide +kernel
theorem dX11_fours_55 : decode cX11_fours 55 = .ok (.if_icmp .ge 27, 3) := by decide +kernel
theorem dX11_fours_58 : decode cX11_fours 58 = .ok (.iload_n 2, 1) := by decide +kernel
theorem dX11_fours_59 : decode cX11_fours 59 = .ok (.iload 5, 2) := by decide +kernel
theorem dX11_fours_61 : decode cX11_fours 61 = .ok (.ishr, 1) := by decide +kernel
theorem dX11_fours_62 : decode cX11_fours 62 = .ok (.iconst 1, 1) := by decide +kernel
theorem dX11_fours_63 : decode cX11_fours 63 = .ok (.iand, 1) := by decide +kernel
theorem dX11_fours_64 : decode cX11_fours 64 = .ok (.iconst 1, 1) := by decide +kernel
theorem dX11_fours_65 : decode cX11_fours 65 = .ok (.if_icmp .ne 17, 3) := by decide +kernel
theorem dX11_fours_68 : decode cX11_fours 68 = .ok (.iload_n 2, 1) := by decide +kernel
theorem dX11_fours_69 : decode cX11_fours 69 = .ok (.iload 6, 2) := by decide +kernel
theorem dX11_fours_71 : decode cX11_fours 71 = .ok (.ishr, 1) := by decide +kernel
theorem dX11_fours_72 : decode cX11_fours 72 = .ok (.iconst 1, 1) := by decide +kernel
theorem dX11_fours_73 : decode cX11_fours 73 = .ok (.iand, 1) := by decide +kernel
theorem dX11_fours_74 : decode cX11_fours 74 = .ok (.iconst 1, 1) := by decide +kernel
theorem dX11_fours_75 : decode cX11_fours 75 = .ok (.if_icmp .ne 7, 3) := by decide +kernel
theorem dX11_fours_78 : decode cX11_fours 78 = .ok (.iconst 1, 1) := by decide +kernel
theorem dX11_fours_79 : decode cX11_fours 79 = .ok (.goto 4, 3) := by decide +kernel
theorem dX11_fours_82 : decode cX11_fours 82 = .ok (.iconst 0, 1) := by decide +kernel
theorem dX11_fours_83 : decode cX11_fours 83 = .ok (.istore 7, 2) := by decide +kernel
theorem dX11_fours_85 : decode cX11_fours 85 = .ok (.aload_n 0, 1) := by decide +kernel
theorem dX11_fours_86 : decode cX11_fours 86 = .ok (.getfield 63, 3) := by decide +kernel
theorem dX11_fours_89 : decode cX11_fours 89 = .ok (.iload 4, 2) := by decide +kernel
theorem dX11_fours_91 : decode cX11_fours 91 = .ok (.iaload, 1) := by decide +kernel
theorem dX11_fours_92 : decode cX11_fours 92 = .ok (.aload_n 0, 1) := by decide +kernel
theorem dX11_fours_93 : decode cX11_fours 93 = .ok (.getfield 63, 3) := by decide +kernel
theorem dX11_fours_96 : decode cX11_fours 96 = .ok (.bipush 36, 2) := by decide +kernel
theorem dX11_fours_98 : decode cX11_fours 98 = .ok (.iload 4, 2) := by decide +kernel
theorem dX11_fours_100 : decode cX11_fours 100 = .ok (.iadd, 1) := by decide +kernel
theorem dX11_fours_101 : decode cX11_fours 101 = .ok (.iaload, 1) := by decide +kernel
theorem dX11_fours_102 : decode cX11_fours 102 = .ok (.if_icmp .ge 13, 3) := by decide +kernel
theorem dX11_fours_105 : decode cX11_fours 105 = .ok (.aload_n 0, 1) := by decide +kernel
theorem dX11_fours_106 : decode cX11_fours 106 = .ok (.getfield 63, 3) := by decide +kernel
theorem dX11_fours_109 : decode cX11_fours 109 = .ok (.iload 4, 2) := by decide +kernel
theorem dX11_fours_111 : decode cX11_fours 111 = .ok (.iaload, 1) := by decide +kernel
theorem dX11_fours_112 : decode cX11_fours 112 = .ok (.goto 13, 3) := by decide +kernel
theorem dX11_fours_115 : decode cX11_fours 115 = .ok (.aload_n 0, 1) := by decide +kernel
theorem dX11_fours_116 : decode cX11_fours 116 = .ok (.getfield 63, 3) := by decide +kernel
theorem dX11_fours_119 : decode cX11_fours 119 = .ok (.bipush 36, 2) := by decide +kernel
theorem dX11_fours_121 : decode cX11_fours 121 = .ok (.iload 4, 2) := by decide +kernel
theorem dX11_fours_123 : decode cX11_fours 123 = .ok (.iadd, 1) := by decide +kernel
theorem dX11_fours_124 : decode cX11_fours 124 = .ok (.iaload, 1) := by decide +kernel
theorem dX11_fours_125 : decode cX11_fours 125 = .ok (.istore 8, 2) := by decide +kernel
theorem dX11_fours_127 : decode cX11_fours 127 = .ok (.iload 7, 2) := by decide +kernel
theorem dX11_fours_129 : decode cX11_fours 129 = .ok (.ifCond .eq 34, 3) := by decide +kernel
theorem dX11_fours_132 : decode cX11_fours 132 = .ok (.aload_n 0, 1) := by decide +kernel
theorem dX11_fours_133 : decode cX11_fours 133 = .ok (.getfield 66, 3) := by decide +kernel
theorem dX11_fours_136 : decode cX11_fours 136 = .ok (.iload_n 2, 1) := by decide +kernel
theorem dX11_fours_137 : decode cX11_fours 137 = .ok (.iconst 1, 1) := by decide +kernel
theorem dX11_fours_138 : decode cX11_fours 138 = .ok (.iload 5, 2) := by decide +kernel
theorem dX11_fours_140 : decode cX11_fours 140 = .ok (.ishl, 1) := by decide +kernel
theorem dX11_fours_141 : decode cX11_fours 141 = .ok (.iconst (-1), 1) := by decide +kernel
theorem dX11_fours_142 : decode cX11_fours 142 = .ok (.ixor, 1) := by decide +kernel
theorem dX11_fours_143 : decode cX11_fours 143 = .ok (.iand, 1) := by decide +kernel
theorem dX11_fours_144 : decode cX11_fours 144 = .ok (.iconst 1, 1) := by decide +kernel
theorem dX11_fours_145 : decode cX11_fours 145 = .ok (.iload 6, 2) := by decide +kernel
theorem dX11_fours_147 : decode cX11_fours 147 = .ok (.ishl, 1) := by decide +kernel
theorem dX11_fours_148 : decode cX11_fours 148 = .ok (.iconst (-1), 1) := by decide +kernel
theorem dX11_fours_149 : decode cX11_fours 149 = .ok (.ixor, 1) := by decide +kernel
theorem dX11_fours_150 : decode cX11_fours 150 = .ok (.iand, 1) := by decide +kernel
theorem dX11_fours_151 : decode cX11_fours 151 = .ok (.iaload, 1) := by decide +kernel
theorem dX11_fours_152 : decode cX11_fours 152 = .ok (.bipush 100, 2) := by decide +kernel
theorem dX11_fours_154 : decode cX11_fours 154 = .ok (.iload 8, 2) := by decide +kernel
theorem dX11_fours_156 : decode cX11_fours 156 = .ok (.imul, 1) := by decide +kernel
theorem dX11_fours_157 : decode cX11_fours 157 = .ok (.iadd, 1) := by decide +kernel
theorem dX11_fours_158 : decode cX11_fours 158 = .ok (.iconst 1, 1) := by decide +kernel
theorem dX11_fours_159 : decode cX11_fours 159 = .ok (.iadd, 1) := by decide +kernel
theorem dX11_fours_160 : decode cX11_fours 160 = .ok (.goto 4, 3) := by decide +kernel
theorem dX11_fours_163 : decode cX11_fours 163 = .ok (.iconst 0, 1) := by decide +kernel
theorem dX11_fours_164 : decode cX11_fours 164 = .ok (.istore 9, 2) := by decide +kernel
theorem dX11_fours_166 : decode cX11_fours 166 = .ok (.iload 9, 2) := by decide +kernel
theorem dX11_fours_168 : decode cX11_fours 168 = .ok (.iload_n 3, 1) := by decide +kernel
theorem dX11_fours_169 : decode cX11_fours 169 = .ok (.if_icmp .le 8, 3) := by decide +kernel
theorem dX11_fours_172 : decode cX11_fours 172 = .ok (.iload 9, 2) := by decide +kernel
theorem dX11_fours_174 : decode cX11_fours 174 = .ok (.goto 4, 3) := by decide +kernel
theorem dX11_fours_177 : decode cX11_fours 177 = .ok (.iload_n 3, 1) := by decide +kernel
theorem dX11_fours_178 : decode cX11_fours 178 = .ok (.istore_n 3, 1) := by decide +kernel
theorem dX11_fours_179 : decode cX11_fours 179 = .ok (.iinc 4 1, 3) := by decide +kernel
theorem dX11_fours_182 : decode cX11_fours 182 = .ok (.goto (-152), 3) := by decide +kernel
theorem dX11_fours_185 : decode cX11_fours 185 = .ok (.aload_n 0, 1) := by decide +kernel
theorem dX11_fours_186 : decode cX11_fours 186 = .ok (.getfield 66, 3) := by decide +kernel
theorem dX11_fours_189 : decode cX11_fours 189 = .ok (.iload_n 2, 1) := by decide +kernel
theorem dX11_fours_190 : decode cX11_fours 190 = .ok (.iload_n 3, 1) := by decide +kernel
theorem dX11_fours_191 : decode cX11_fours 191 = .ok (.iastore, 1) := by decide +kernel
theorem dX11_fours_192 : decode cX11_fours 192 = .ok (.iinc 2 1, 3) := by decide +kernel
theorem dX11_fours_195 : decode cX11_fours 195 = .ok (.goto (-180), 3) := by decide +kernel
theorem dX11_fours_198 : decode cX11_fours 198 = .ok (.aload_n 0, 1) := by decide +kernel
theorem dX11_fours_199 : decode cX11_fours 199 = .ok (.getfield 66, 3) := by decide +kernel
theorem dX11_fours_202 : decode cX11_fours 202 = .ok (.iconst 1, 1) := by decide +kernel
theorem dX11_fours_203 : decode cX11_fours 203 = .ok (.aload_n 0, 1) := by decide +kernel
theorem dX11_fours_204 : decode cX11_fours 204 = .ok (.getfield 23, 3) := by decide +kernel
theorem dX11_fours_207 : decode cX11_fours 207 = .ok (.ishl, 1) := by decide +kernel
theorem dX11_fours_208 : decode cX11_fours 208 = .ok (.iconst 1, 1) := by decide +kernel
theorem dX11_fours_209 : decode cX11_fours 209 = .ok (.isub, 1) := by decide +kernel
theorem dX11_fours_210 : decode cX11_fours 210 = .ok (.iaload, 1) := by decide +kernel
theorem dX11_fours_211 : decode cX11_fours 211 = .ok (.istore_n 2, 1) := by decide +kernel
theorem dX11_fours_212 : decode cX11_fours 212 = .ok (.iload_n 1, 1) := by decide +kernel
theorem dX11_fours_213 : decode cX11_fours 213 = .ok (.ifCond .ne 10, 3) := by decide +kernel
theorem dX11_fours_216 : decode cX11_fours 216 = .ok (.iload_n 2, 1) := by decide +kernel
theorem dX11_fours_217 : decode cX11_fours 217 = .ok (.bipush 100, 2) := by decide +kernel
theorem dX11_fours_219 : decode cX11_fours 219 = .ok (.idiv, 1) := by decide +kernel
theorem dX11_fours_220 : decode cX11_fours 220 = .ok (.goto 7, 3) := by decide +kernel
theorem dX11_fours_223 : decode cX11_fours 223 = .ok (.iload_n 2, 1) := by decide +kernel
theorem dX11_fours_224 : decode cX11_fours 224 = .ok (.bipush 100, 2) := by decide +kernel
theorem dX11_fours_226 : decode cX11_fours 226 = .ok (.irem, 1) := by decide +kernel
theorem dX11_fours_227 : decode cX11_fours 227 = .ok (.ireturn, 1) := by decide +kernel
theorem dX11_record_0 : decode cX11_record 0 = .ok (.aload_n 0, 1) := by decide +kernel
theorem dX11_record_1 : decode cX11_record 1 = .ok (.getfield 246, 3) := by decide +kernel
theorem dX11_record_4 : decode cX11_record 4 = .ok (.bipush 40, 2) := by decide +kernel
theorem dX11_record_6 : decode cX11_record 6 = .ok (.if_icmp .ne 6, 3) := by decide +kernel
theorem dX11_record_9 : decode cX11_record 9 = .ok (.bipush (-5), 2) := by decide +kernel
theorem dX11_record_11 : decode cX11_record 11 = .ok (.ireturn, 1) := by decide +kernel
theorem dX11_record_12 : decode cX11_record 12 = .ok (.aload_n 0, 1) := by decide +kernel
theorem dX11_record_13 : decode cX11_record 13 = .ok (.getfield 69, 3) := by decide +kernel
theorem dX11_record_16 : decode cX11_record 16 = .ok (.aload_n 0, 1) := by decide +kernel
theorem dX11_record_17 : decode cX11_record 17 = .ok (.getfield 246, 3) := by decide +kernel
theorem dX11_record_20 : decode cX11_record 20 = .ok (.iload_n 1, 1) := by decide +kernel
theorem dX11_record_21 : decode cX11_record 21 = .ok (.ifCond .eq 7, 3) := by decide +kernel
theorem dX11_record_24 : decode cX11_record 24 = .ok (.iconst 1, 1) := by decide +kernel
theorem dX11_record_25 : decode cX11_record 25 = .ok (.goto 4, 3) := by decide +kernel
theorem dX11_record_28 : decode cX11_record 28 = .ok (.iconst 0, 1) := by decide +kernel
theorem dX11_record_29 : decode cX11_record 29 = .ok (.iastore, 1) := by decide +kernel
theorem dX11_record_30 : decode cX11_record 30 = .ok (.aload_n 0, 1) := by decide +kernel
theorem dX11_record_31 : decode cX11_record 31 = .ok (.dup, 1) := by decide +kernel
theorem dX11_record_32 : decode cX11_record 32 = .ok (.getfield 246, 3) := by decide +kernel
theorem dX11_record_35 : decode cX11_record 35 = .ok (.iconst 1, 1) := by decide +kernel
theorem dX11_record_36 : decode cX11_record 36 = .ok (.iadd, 1) := by decide +kernel
theorem dX11_record_37 : decode cX11_record 37 = .ok (.putfield 246, 3) := by decide +kernel
theorem dX11_record_40 : decode cX11_record 40 = .ok (.aload_n 0, 1) := by decide +kernel
theorem dX11_record_41 : decode cX11_record 41 = .ok (.getfield 246, 3) := by decide +kernel
theorem dX11_record_44 : decode cX11_record 44 = .ok (.ireturn, 1) := by decide +kernel
theorem dX11_burn_0 : decode cX11_burn 0 = .ok (.aload_n 0, 1) := by decide +kernel
theorem dX11_burn_1 : decode cX11_burn 1 = .ok (.getfield 246, 3) := by decide +kernel
theorem dX11_burn_4 : decode cX11_burn 4 = .ok (.istore_n 1, 1) := by decide +kernel
theorem dX11_burn_5 : decode cX11_burn 5 = .ok (.aload_n 0, 1) := by decide +kernel
theorem dX11_burn_6 : decode cX11_burn 6 = .ok (.iconst 0, 1) := by decide +kernel
theorem dX11_burn_7 : decode cX11_burn 7 = .ok (.putfield 246, 3) := by decide +kernel
theorem dX11_burn_10 : decode cX11_burn 10 = .ok (.iload_n 1, 1) := by decide +kernel
theorem dX11_burn_11 : decode cX11_burn 11 = .ok (.ireturn, 1) := by decide +kernel
theorem dX11_stays_0 : decode cX11_stays 0 = .ok (.iload_n 1, 1) := by decide +kernel
theorem dX11_stays_1 : decode cX11_stays 1 = .ok (.iload_n 2, 1) := by decide +kernel
theorem dX11_stays_2 : decode cX11_stays 2 = .ok (.iadd, 1) := by decide +kernel
theorem dX11_stays_3 : decode cX11_stays 3 = .ok (.iconst 2, 1) := by decide +kernel
theorem dX11_stays_4 : decode cX11_stays 4 = .ok (.irem, 1) := by decide +kernel
theorem dX11_stays_5 : decode cX11_stays 5 = .ok (.ifCond .ne 7, 3) := by decide +kernel
theorem dX11_stays_8 : decode cX11_stays 8 = .ok (.iconst 1, 1) := by decide +kernel
theorem dX11_stays_9 : decode cX11_stays 9 = .ok (.goto 4, 3) := by decide +kernel
theorem dX11_stays_12 : decode cX11_stays 12 = .ok (.iconst 0, 1) := by decide +kernel
theorem dX11_stays_13 : decode cX11_stays 13 = .ok (.istore 4, 2) := by decide +kernel
theorem dX11_stays_15 : decode cX11_stays 15 = .ok (.aload_n 0, 1) := by decide +kernel
theorem dX11_stays_16 : decode cX11_stays 16 = .ok (.getfield 72, 3) := by decide +kernel
theorem dX11_stays_19 : decode cX11_stays 19 = .ok (.iconst 2, 1) := by decide +kernel
theorem dX11_stays_20 : decode cX11_stays 20 = .ok (.iload_n 1, 1) := by decide +kernel
theorem dX11_stays_21 : decode cX11_stays 21 = .ok (.imul, 1) := by decide +kernel
theorem dX11_stays_22 : decode cX11_stays 22 = .ok (.iconst 2, 1) := by decide +kernel
theorem dX11_stays_23 : decode cX11_stays 23 = .ok (.iadd, 1) := by decide +kernel
theorem dX11_stays_24 : decode cX11_stays 24 = .ok (.iload_n 2, 1) := by decide +kernel
theorem dX11_stays_25 : decode cX11_stays 25 = .ok (.iadd, 1) := by decide +kernel
theorem dX11_stays_26 : decode cX11_stays 26 = .ok (.iaload, 1) := by decide +kernel
theorem dX11_stays_27 : decode cX11_stays 27 = .ok (.iload 4, 2) := by decide +kernel
theorem dX11_stays_29 : decode cX11_stays 29 = .ok (.aload_n 0, 1) := by decide +kernel
theorem dX11_stays_30 : decode cX11_stays 30 = .ok (.getfield 69, 3) := by decide +kernel
theorem dX11_stays_33 : decode cX11_stays 33 = .ok (.iload_n 1, 1) := by decide +kernel
theorem dX11_stays_34 : decode cX11_stays 34 = .ok (.iaload, 1) := by decide +kernel
theorem dX11_stays_35 : decode cX11_stays 35 = .ok (.iconst 1, 1) := by decide +kernel
theorem dX11_stays_36 : decode cX11_stays 36 = .ok (.if_icmp .ne 7, 3) := by decide +kernel
theorem dX11_stays_39 : decode cX11_stays 39 = .ok (.iconst 1, 1) := by decide +kernel
theorem dX11_stays_40 : decode cX11_stays 40 = .ok (.goto 4, 3) := by decide +kernel
theorem dX11_stays_43 : decode cX11_stays 43 = .ok (.iconst 0, 1) := by decide +kernel
theorem dX11_stays_44 : decode cX11_stays 44 = .ok (.if_icmp .ne 7, 3) := by decide +kernel
theorem dX11_stays_47 : decode cX11_stays 47 = .ok (.iconst 0, 1) := by decide +kernel
theorem dX11_stays_48 : decode cX11_stays 48 = .ok (.goto 7, 3) := by decide +kernel
theorem dX11_stays_51 : decode cX11_stays 51 = .ok (.bipush 100, 2) := by decide +kernel
theorem dX11_stays_53 : decode cX11_stays 53 = .ok (.iload_n 3, 1) := by decide +kernel
theorem dX11_stays_54 : decode cX11_stays 54 = .ok (.imul, 1) := by decide +kernel
theorem dX11_stays_55 : decode cX11_stays 55 = .ok (.iadd, 1) := by decide +kernel
theorem dX11_stays_56 : decode cX11_stays 56 = .ok (.ireturn, 1) := by decide +kernel
theorem dX11_slipped_0 : decode cX11_slipped 0 = .ok (.iload_n 1, 1) := by decide +kernel
theorem dX11_slipped_1 : decode cX11_slipped 1 = .ok (.ifCond .ne 8, 3) := by decide +kernel
theorem dX11_slipped_4 : decode cX11_slipped 4 = .ok (.ldc 232, 2) := by decide +kernel
theorem dX11_slipped_6 : decode cX11_slipped 6 = .ok (.goto 20, 3) := by decide +kernel
theorem dX11_slipped_9 : decode cX11_slipped 9 = .ok (.aload_n 0, 1) := by decide +kernel
theorem dX11_slipped_10 : decode cX11_slipped 10 = .ok (.iload_n 1, 1) := by decide +kernel
theorem dX11_slipped_11 : decode cX11_slipped 11 = .ok (.iconst 1, 1) := by decide +kernel
theorem dX11_slipped_12 : decode cX11_slipped 12 = .ok (.iload_n 2, 1) := by decide +kernel
theorem dX11_slipped_13 : decode cX11_slipped 13 = .ok (.isub, 1) := by decide +kernel
theorem dX11_slipped_14 : decode cX11_slipped 14 = .ok (.iload 4, 2) := by decide +kernel
theorem dX11_slipped_16 : decode cX11_slipped 16 = .ok (.invokevirtual 249, 3) := by decide +kernel
theorem dX11_slipped_19 : decode cX11_slipped 19 = .ok (.bipush 100, 2) := by decide +kernel
theorem dX11_slipped_21 : decode cX11_slipped 21 = .ok (.iload_n 3, 1) := by decide +kernel
theorem dX11_slipped_22 : decode cX11_slipped 22 = .ok (.imul, 1) := by decide +kernel
theorem dX11_slipped_23 : decode cX11_slipped 23 = .ok (.iadd, 1) := by decide +kernel
theorem dX11_slipped_24 : decode cX11_slipped 24 = .ok (.iconst 1, 1) := by decide +kernel
theorem dX11_slipped_25 : decode cX11_slipped 25 = .ok (.iadd, 1) := by decide +kernel
theorem dX11_slipped_26 : decode cX11_slipped 26 = .ok (.ireturn, 1) := by decide +kernel
theorem dX11_slips_0 : decode cX11_slips 0 = .ok (.iload_n 1, 1) := by decide +kernel
theorem dX11_slips_1 : decode cX11_slips 1 = .ok (.i2l, 1) := by decide +kernel
theorem dX11_slips_2 : decode cX11_slips 2 = .ok (.lconst 1, 1) := by decide +kernel
theorem dX11_slips_3 : decode cX11_slips 3 = .ok (.ldc2_w 230, 3) := by decide +kernel
theorem dX11_slips_6 : decode cX11_slips 6 = .ok (.invokestatic 80, 3) := by decide +kernel
theorem dX11_slips_9 : decode cX11_slips 9 = .ok (.ifCond .eq 27, 3) := by decide +kernel
theorem dX11_slips_12 : decode cX11_slips 12 = .ok (.iload_n 2, 1) := by decide +kernel
theorem dX11_slips_13 : decode cX11_slips 13 = .ok (.i2l, 1) := by decide +kernel
theorem dX11_slips_14 : decode cX11_slips 14 = .ok (.lconst 1, 1) := by decide +kernel
theorem dX11_slips_15 : decode cX11_slips 15 = .ok (.ldc2_w 230, 3) := by decide +kernel
theorem dX11_slips_18 : decode cX11_slips 18 = .ok (.invokestatic 80, 3) := by decide +kernel
theorem dX11_slips_21 : decode cX11_slips 21 = .ok (.ifCond .eq 15, 3) := by decide +kernel
theorem dX11_slips_24 : decode cX11_slips 24 = .ok (.iload_n 3, 1) := by decide +kernel
theorem dX11_slips_25 : decode cX11_slips 25 = .ok (.i2l, 1) := by decide +kernel
theorem dX11_slips_26 : decode cX11_slips 26 = .ok (.lconst 0, 1) := by decide +kernel
theorem dX11_slips_27 : decode cX11_slips 27 = .ok (.ldc2_w 252, 3) := by decide +kernel
theorem dX11_slips_30 : decode cX11_slips 30 = .ok (.invokestatic 80, 3) := by decide +kernel
theorem dX11_slips_33 : decode cX11_slips 33 = .ok (.ifCond .ne 6, 3) := by decide +kernel
theorem dX11_slips_36 : decode cX11_slips 36 = .ok (.bipush (-3), 2) := by decide +kernel
theorem dX11_slips_38 : decode cX11_slips 38 = .ok (.ireturn, 1) := by decide +kernel
theorem dX11_slips_39 : decode cX11_slips 39 = .ok (.aload_n 0, 1) := by decide +kernel
theorem dX11_slips_40 : decode cX11_slips 40 = .ok (.getfield 72, 3) := by decide +kernel
theorem dX11_slips_43 : decode cX11_slips 43 = .ok (.iconst 2, 1) := by decide +kernel
theorem dX11_slips_44 : decode cX11_slips 44 = .ok (.aload_n 0, 1) := by decide +kernel
theorem dX11_slips_45 : decode cX11_slips 45 = .ok (.getfield 246, 3) := by decide +kernel
theorem dX11_slips_48 : decode cX11_slips 48 = .ok (.imul, 1) := by decide +kernel
theorem dX11_slips_49 : decode cX11_slips 49 = .ok (.iconst 0, 1) := by decide +kernel
theorem dX11_slips_50 : decode cX11_slips 50 = .ok (.iastore, 1) := by decide +kernel
theorem dX11_slips_51 : decode cX11_slips 51 = .ok (.aload_n 0, 1) := by decide +kernel
theorem dX11_slips_52 : decode cX11_slips 52 = .ok (.getfield 72, 3) := by decide +kernel
theorem dX11_slips_55 : decode cX11_slips 55 = .ok (.iconst 2, 1) := by decide +kernel
theorem dX11_slips_56 : decode cX11_slips 56 = .ok (.aload_n 0, 1) := by decide +kernel
theorem dX11_slips_57 : decode cX11_slips 57 = .ok (.getfield 246, 3) := by decide +kernel
theorem dX11_slips_60 : decode cX11_slips 60 = .ok (.imul, 1) := by decide +kernel
theorem dX11_slips_61 : decode cX11_slips 61 = .ok (.iconst 1, 1) := by decide +kernel
theorem dX11_slips_62 : decode cX11_slips 62 = .ok (.iadd, 1) := by decide +kernel
theorem dX11_slips_63 : decode cX11_slips 63 = .ok (.iconst 0, 1) := by decide +kernel
theorem dX11_slips_64 : decode cX11_slips 64 = .ok (.iastore, 1) := by decide +kernel
theorem dX11_slips_65 : decode cX11_slips 65 = .ok (.aload_n 0, 1) := by decide +kernel
theorem dX11_slips_66 : decode cX11_slips 66 = .ok (.getfield 246, 3) := by decide +kernel
theorem dX11_slips_69 : decode cX11_slips 69 = .ok (.iconst 1, 1) := by decide +kernel
theorem dX11_slips_70 : decode cX11_slips 70 = .ok (.isub, 1) := by decide +kernel
theorem dX11_slips_71 : decode cX11_slips 71 = .ok (.istore 4, 2) := by decide +kernel
theorem dX11_slips_73 : decode cX11_slips 73 = .ok (.iload 4, 2) := by decide +kernel
theorem dX11_slips_75 : decode cX11_slips 75 = .ok (.ifCond .lt 73, 3) := by decide +kernel
theorem dX11_slips_78 : decode cX11_slips 78 = .ok (.iconst 0, 1) := by decide +kernel
theorem dX11_slips_79 : decode cX11_slips 79 = .ok (.istore 5, 2) := by decide +kernel
theorem dX11_slips_81 : decode cX11_slips 81 = .ok (.iload 5, 2) := by decide +kernel
theorem dX11_slips_83 : decode cX11_slips 83 = .ok (.iconst 2, 1) := by decide +kernel
theorem dX11_slips_84 : decode cX11_slips 84 = .ok (.if_icmp .ge 58, 3) := by decide +kernel
theorem dX11_slips_87 : decode cX11_slips 87 = .ok (.aload_n 0, 1) := by decide +kernel
theorem dX11_slips_88 : decode cX11_slips 88 = .ok (.iload 4, 2) := by decide +kernel
theorem dX11_slips_90 : decode cX11_slips 90 = .ok (.iload 5, 2) := by decide +kernel
theorem dX11_slips_92 : decode cX11_slips 92 = .ok (.iload_n 2, 1) := by decide +kernel
theorem dX11_slips_93 : decode cX11_slips 93 = .ok (.invokevirtual 249, 3) := by decide +kernel
theorem dX11_slips_96 : decode cX11_slips 96 = .ok (.istore 6, 2) := by decide +kernel
theorem dX11_slips_98 : decode cX11_slips 98 = .ok (.aload_n 0, 1) := by decide +kernel
theorem dX11_slips_99 : decode cX11_slips 99 = .ok (.iload 4, 2) := by decide +kernel
theorem dX11_slips_101 : decode cX11_slips 101 = .ok (.iload 5, 2) := by decide +kernel
theorem dX11_slips_103 : decode cX11_slips 103 = .ok (.iload_n 1, 1) := by decide +kernel
theorem dX11_slips_104 : decode cX11_slips 104 = .ok (.iload_n 2, 1) := by decide +kernel
theorem dX11_slips_105 : decode cX11_slips 105 = .ok (.invokevirtual 254, 3) := by decide +kernel
theorem dX11_slips_108 : decode cX11_slips 108 = .ok (.istore 7, 2) := by decide +kernel
theorem dX11_slips_110 : decode cX11_slips 110 = .ok (.aload_n 0, 1) := by decide +kernel
theorem dX11_slips_111 : decode cX11_slips 111 = .ok (.getfield 72, 3) := by decide +kernel
theorem dX11_slips_114 : decode cX11_slips 114 = .ok (.iconst 2, 1) := by decide +kernel
theorem dX11_slips_115 : decode cX11_slips 115 = .ok (.iload 4, 2) := by decide +kernel
theorem dX11_slips_117 : decode cX11_slips 117 = .ok (.imul, 1) := by decide +kernel
theorem dX11_slips_118 : decode cX11_slips 118 = .ok (.iload 5, 2) := by decide +kernel
theorem dX11_slips_120 : decode cX11_slips 120 = .ok (.iadd, 1) := by decide +kernel
theorem dX11_slips_121 : decode cX11_slips 121 = .ok (.iload 7, 2) := by decide +kernel
theorem dX11_slips_123 : decode cX11_slips 123 = .ok (.iload 6, 2) := by decide +kernel
theorem dX11_slips_125 : decode cX11_slips 125 = .ok (.if_icmp .ge 8, 3) := by decide +kernel
theorem dX11_slips_128 : decode cX11_slips 128 = .ok (.iload 7, 2) := by decide +kernel
theorem dX11_slips_130 : decode cX11_slips 130 = .ok (.goto 5, 3) := by decide +kernel
theorem dX11_slips_133 : decode cX11_slips 133 = .ok (.iload 6, 2) := by decide +kernel
theorem dX11_slips_135 : decode cX11_slips 135 = .ok (.iastore, 1) := by decide +kernel
theorem dX11_slips_136 : decode cX11_slips 136 = .ok (.iinc 5 1, 3) := by decide +kernel
theorem dX11_slips_139 : decode cX11_slips 139 = .ok (.goto (-58), 3) := by decide +kernel
theorem dX11_slips_142 : decode cX11_slips 142 = .ok (.iinc 4 (-1), 3) := by decide +kernel
theorem dX11_slips_145 : decode cX11_slips 145 = .ok (.goto (-72), 3) := by decide +kernel
theorem dX11_slips_148 : decode cX11_slips 148 = .ok (.iload_n 3, 1) := by decide +kernel
theorem dX11_slips_149 : decode cX11_slips 149 = .ok (.iconst 2, 1) := by decide +kernel
theorem dX11_slips_150 : decode cX11_slips 150 = .ok (.if_icmp .ge 29, 3) := by decide +kernel
theorem dX11_slips_153 : decode cX11_slips 153 = .ok (.iload_n 3, 1) := by decide +kernel
theorem dX11_slips_154 : decode cX11_slips 154 = .ok (.ifCond .ne 15, 3) := by decide +kernel
theorem dX11_slips_157 : decode cX11_slips 157 = .ok (.aload_n 0, 1) := by decide +kernel
theorem dX11_slips_158 : decode cX11_slips 158 = .ok (.getfield 72, 3) := by decide +kernel
theorem dX11_slips_161 : decode cX11_slips 161 = .ok (.iconst 0, 1) := by decide +kernel
theorem dX11_slips_162 : decode cX11_slips 162 = .ok (.iaload, 1) := by decide +kernel
theorem dX11_slips_163 : decode cX11_slips 163 = .ok (.bipush 100, 2) := by decide +kernel
theorem dX11_slips_165 : decode cX11_slips 165 = .ok (.idiv, 1) := by decide +kernel
theorem dX11_slips_166 : decode cX11_slips 166 = .ok (.goto 12, 3) := by decide +kernel
theorem dX11_slips_169 : decode cX11_slips 169 = .ok (.aload_n 0, 1) := by decide +kernel
theorem dX11_slips_170 : decode cX11_slips 170 = .ok (.getfield 72, 3) := by decide +kernel
theorem dX11_slips_173 : decode cX11_slips 173 = .ok (.iconst 0, 1) := by decide +kernel
theorem dX11_slips_174 : decode cX11_slips 174 = .ok (.iaload, 1) := by decide +kernel
theorem dX11_slips_175 : decode cX11_slips 175 = .ok (.bipush 100, 2) := by decide +kernel
theorem dX11_slips_177 : decode cX11_slips 177 = .ok (.irem, 1) := by decide +kernel
theorem dX11_slips_178 : decode cX11_slips 178 = .ok (.ireturn, 1) := by decide +kernel
theorem dX11_slips_179 : decode cX11_slips 179 = .ok (.iconst 0, 1) := by decide +kernel
theorem dX11_slips_180 : decode cX11_slips 180 = .ok (.istore 4, 2) := by decide +kernel
theorem dX11_slips_182 : decode cX11_slips 182 = .ok (.iload 4, 2) := by decide +kernel
theorem dX11_slips_184 : decode cX11_slips 184 = .ok (.aload_n 0, 1) := by decide +kernel
theorem dX11_slips_185 : decode cX11_slips 185 = .ok (.getfield 246, 3) := by decide +kernel
theorem dX11_slips_188 : decode cX11_slips 188 = .ok (.if_icmp .ge 32, 3) := by decide +kernel
theorem dX11_slips_191 : decode cX11_slips 191 = .ok (.aload_n 0, 1) := by decide +kernel
theorem dX11_slips_192 : decode cX11_slips 192 = .ok (.iload 4, 2) := by decide +kernel
theorem dX11_slips_194 : decode cX11_slips 194 = .ok (.iconst 0, 1) := by decide +kernel
theorem dX11_slips_195 : decode cX11_slips 195 = .ok (.iload_n 2, 1) := by decide +kernel
theorem dX11_slips_196 : decode cX11_slips 196 = .ok (.invokevirtual 249, 3) := by decide +kernel
theorem dX11_slips_199 : decode cX11_slips 199 = .ok (.aload_n 0, 1) := by decide +kernel
theorem dX11_slips_200 : decode cX11_slips 200 = .ok (.getfield 72, 3) := by decide +kernel
theorem dX11_slips_203 : decode cX11_slips 203 = .ok (.iconst 2, 1) := by decide +kernel
theorem dX11_slips_204 : decode cX11_slips 204 = .ok (.iload 4, 2) := by decide +kernel
theorem dX11_slips_206 : decode cX11_slips 206 = .ok (.imul, 1) := by decide +kernel
theorem dX11_slips_207 : decode cX11_slips 207 = .ok (.iaload, 1) := by decide +kernel
theorem dX11_slips_208 : decode cX11_slips 208 = .ok (.if_icmp .eq 6, 3) := by decide +kernel
theorem dX11_slips_211 : decode cX11_slips 211 = .ok (.iload 4, 2) := by decide +kernel
theorem dX11_slips_213 : decode cX11_slips 213 = .ok (.ireturn, 1) := by decide +kernel
theorem dX11_slips_214 : decode cX11_slips 214 = .ok (.iinc 4 1, 3) := by decide +kernel
theorem dX11_slips_217 : decode cX11_slips 217 = .ok (.goto (-35), 3) := by decide +kernel
theorem dX11_slips_220 : decode cX11_slips 220 = .ok (.iconst (-1), 1) := by decide +kernel
theorem dX11_slips_221 : decode cX11_slips 221 = .ok (.ireturn, 1) := by decide +kernel
theorem dX11_copy_0 : decode cX11_copy 0 = .ok (.iconst 0, 1) := by decide +kernel
theorem dX11_copy_1 : decode cX11_copy 1 = .ok (.istore_n 3, 1) := by decide +kernel
theorem dX11_copy_2 : decode cX11_copy 2 = .ok (.iload_n 3, 1) := by decide +kernel
theorem dX11_copy_3 : decode cX11_copy 3 = .ok (.bipush 87, 2) := by decide +kernel
theorem dX11_copy_5 : decode cX11_copy 5 = .ok (.if_icmp .ge 31, 3) := by decide +kernel
theorem dX11_copy_8 : decode cX11_copy 8 = .ok (.aload_n 0, 1) := by decide +kernel
theorem dX11_copy_9 : decode cX11_copy 9 = .ok (.getfield 7, 3) := by decide +kernel
theorem dX11_copy_12 : decode cX11_copy 12 = .ok (.bipush 87, 2) := by decide +kernel
theorem dX11_copy_14 : decode cX11_copy 14 = .ok (.iload_n 2, 1) := by decide +kernel
theorem dX11_copy_15 : decode cX11_copy 15 = .ok (.imul, 1) := by decide +kernel
theorem dX11_copy_16 : decode cX11_copy 16 = .ok (.iload_n 3, 1) := by decide +kernel
theorem dX11_copy_17 : decode cX11_copy 17 = .ok (.iadd, 1) := by decide +kernel
theorem dX11_copy_18 : decode cX11_copy 18 = .ok (.aload_n 0, 1) := by decide +kernel
theorem dX11_copy_19 : decode cX11_copy 19 = .ok (.getfield 7, 3) := by decide +kernel
theorem dX11_copy_22 : decode cX11_copy 22 = .ok (.bipush 87, 2) := by decide +kernel
theorem dX11_copy_24 : decode cX11_copy 24 = .ok (.iload_n 1, 1) := by decide +kernel
theorem dX11_copy_25 : decode cX11_copy 25 = .ok (.imul, 1) := by decide +kernel
theorem dX11_copy_26 : decode cX11_copy 26 = .ok (.iload_n 3, 1) := by decide +kernel
theorem dX11_copy_27 : decode cX11_copy 27 = .ok (.iadd, 1) := by decide +kernel
theorem dX11_copy_28 : decode cX11_copy 28 = .ok (.iaload, 1) := by decide +kernel
theorem dX11_copy_29 : decode cX11_copy 29 = .ok (.iastore, 1) := by decide +kernel
theorem dX11_copy_30 : decode cX11_copy 30 = .ok (.iinc 3 1, 3) := by decide +kernel
theorem dX11_copy_33 : decode cX11_copy 33 = .ok (.goto (-31), 3) := by decide +kernel
theorem dX11_copy_36 : decode cX11_copy 36 = .ok (.return_, 1) := by decide +kernel
theorem dX11_keep_0 : decode cX11_keep 0 = .ok (.iload_n 1, 1) := by decide +kernel
theorem dX11_keep_1 : decode cX11_keep 1 = .ok (.i2l, 1) := by decide +kernel
theorem dX11_keep_2 : decode cX11_keep 2 = .ok (.lconst 0, 1) := by decide +kernel
theorem dX11_keep_3 : decode cX11_keep 3 = .ok (.lconst 1, 1) := by decide +kernel
theorem dX11_keep_4 : decode cX11_keep 4 = .ok (.invokestatic 80, 3) := by decide +kernel
theorem dX11_keep_7 : decode cX11_keep 7 = .ok (.ifCond .ne 6, 3) := by decide +kernel
theorem dX11_keep_10 : decode cX11_keep 10 = .ok (.bipush (-2), 2) := by decide +kernel
theorem dX11_keep_12 : decode cX11_keep 12 = .ok (.ireturn, 1) := by decide +kernel
theorem dX11_keep_13 : decode cX11_keep 13 = .ok (.aload_n 0, 1) := by decide +kernel
theorem dX11_keep_14 : decode cX11_keep 14 = .ok (.iconst 0, 1) := by decide +kernel
theorem dX11_keep_15 : decode cX11_keep 15 = .ok (.iconst 1, 1) := by decide +kernel
theorem dX11_keep_16 : decode cX11_keep 16 = .ok (.iload_n 1, 1) := by decide +kernel
theorem dX11_keep_17 : decode cX11_keep 17 = .ok (.iadd, 1) := by decide +kernel
theorem dX11_keep_18 : decode cX11_keep 18 = .ok (.invokevirtual 257, 3) := by decide +kernel
theorem dX11_keep_21 : decode cX11_keep 21 = .ok (.aload_n 0, 1) := by decide +kernel
theorem dX11_keep_22 : decode cX11_keep 22 = .ok (.getfield 13, 3) := by decide +kernel
theorem dX11_keep_25 : decode cX11_keep 25 = .ok (.iload_n 1, 1) := by decide +kernel
theorem dX11_keep_26 : decode cX11_keep 26 = .ok (.iconst 1, 1) := by decide +kernel
theorem dX11_keep_27 : decode cX11_keep 27 = .ok (.bastore, 1) := by decide +kernel
theorem dX11_keep_28 : decode cX11_keep 28 = .ok (.aload_n 0, 1) := by decide +kernel
theorem dX11_keep_29 : decode cX11_keep 29 = .ok (.getfield 7, 3) := by decide +kernel
theorem dX11_keep_32 : decode cX11_keep 32 = .ok (.iconst 0, 1) := by decide +kernel
theorem dX11_keep_33 : decode cX11_keep 33 = .ok (.iaload, 1) := by decide +kernel
theorem dX11_keep_34 : decode cX11_keep 34 = .ok (.ireturn, 1) := by decide +kernel
theorem dX11_back_0 : decode cX11_back 0 = .ok (.iload_n 1, 1) := by decide +kernel
theorem dX11_back_1 : decode cX11_back 1 = .ok (.i2l, 1) := by decide +kernel
theorem dX11_back_2 : decode cX11_back 2 = .ok (.lconst 0, 1) := by decide +kernel
theorem dX11_back_3 : decode cX11_back 3 = .ok (.lconst 1, 1) := by decide +kernel
theorem dX11_back_4 : decode cX11_back 4 = .ok (.invokestatic 80, 3) := by decide +kernel
theorem dX11_back_7 : decode cX11_back 7 = .ok (.ifCond .ne 6, 3) := by decide +kernel
theorem dX11_back_10 : decode cX11_back 10 = .ok (.bipush (-2), 2) := by decide +kernel
theorem dX11_back_12 : decode cX11_back 12 = .ok (.ireturn, 1) := by decide +kernel
theorem dX11_back_13 : decode cX11_back 13 = .ok (.aload_n 0, 1) := by decide +kernel
theorem dX11_back_14 : decode cX11_back 14 = .ok (.getfield 13, 3) := by decide +kernel
theorem dX11_back_17 : decode cX11_back 17 = .ok (.iload_n 1, 1) := by decide +kernel
theorem dX11_back_18 : decode cX11_back 18 = .ok (.baload, 1) := by decide +kernel
theorem dX11_back_19 : decode cX11_back 19 = .ok (.ifCond .ne 6, 3) := by decide +kernel
theorem dX11_back_22 : decode cX11_back 22 = .ok (.bipush (-4), 2) := by decide +kernel
theorem dX11_back_24 : decode cX11_back 24 = .ok (.ireturn, 1) := by decide +kernel
theorem dX11_back_25 : decode cX11_back 25 = .ok (.aload_n 0, 1) := by decide +kernel
theorem dX11_back_26 : decode cX11_back 26 = .ok (.iconst 1, 1) := by decide +kernel
theorem dX11_back_27 : decode cX11_back 27 = .ok (.iload_n 1, 1) := by decide +kernel
theorem dX11_back_28 : decode cX11_back 28 = .ok (.iadd, 1) := by decide +kernel
theorem dX11_back_29 : decode cX11_back 29 = .ok (.iconst 0, 1) := by decide +kernel
theorem dX11_back_30 : decode cX11_back 30 = .ok (.invokevirtual 257, 3) := by decide +kernel
theorem dX11_back_33 : decode cX11_back 33 = .ok (.aload_n 0, 1) := by decide +kernel
theorem dX11_back_34 : decode cX11_back 34 = .ok (.getfield 7, 3) := by decide +kernel
theorem dX11_back_37 : decode cX11_back 37 = .ok (.iconst 0, 1) := by decide +kernel
theorem dX11_back_38 : decode cX11_back 38 = .ok (.iaload, 1) := by decide +kernel
theorem dX11_back_39 : decode cX11_back 39 = .ok (.ireturn, 1) := by decide +kernel
theorem dX11_count_0 : decode cX11_count 0 = .ok (.iload_n 1, 1) := by decide +kernel
theorem dX11_count_1 : decode cX11_count 1 = .ok (.tableswitch 80 0 6 #[43, 48, 53, 58, 63, 70, 75], 43) := by decide +kernel
theorem dX11_count_44 : decode cX11_count 44 = .ok (.aload_n 0, 1) := by decide +kernel
theorem dX11_count_45 : decode cX11_count 45 = .ok (.getfield 23, 3) := by decide +kernel
theorem dX11_count_48 : decode cX11_count 48 = .ok (.ireturn, 1) := by decide +kernel
theorem dX11_count_49 : decode cX11_count 49 = .ok (.aload_n 0, 1) := by decide +kernel
theorem dX11_count_50 : decode cX11_count 50 = .ok (.getfield 27, 3) := by decide +kernel
theorem dX11_count_53 : decode cX11_count 53 = .ok (.ireturn, 1) := by decide +kernel
theorem dX11_count_54 : decode cX11_count 54 = .ok (.aload_n 0, 1) := by decide +kernel
theorem dX11_count_55 : decode cX11_count 55 = .ok (.getfield 150, 3) := by decide +kernel
theorem dX11_count_58 : decode cX11_count 58 = .ok (.ireturn, 1) := by decide +kernel
theorem dX11_count_59 : decode cX11_count 59 = .ok (.aload_n 0, 1) := by decide +kernel
theorem dX11_count_60 : decode cX11_count 60 = .ok (.getfield 39, 3) := by decide +kernel
theorem dX11_count_63 : decode cX11_count 63 = .ok (.ireturn, 1) := by decide +kernel
theorem dX11_count_64 : decode cX11_count 64 = .ok (.aload_n 0, 1) := by decide +kernel
theorem dX11_count_65 : decode cX11_count 65 = .ok (.getfield 7, 3) := by decide +kernel
theorem dX11_count_68 : decode cX11_count 68 = .ok (.iconst 0, 1) := by decide +kernel
theorem dX11_count_69 : decode cX11_count 69 = .ok (.iaload, 1) := by decide +kernel
theorem dX11_count_70 : decode cX11_count 70 = .ok (.ireturn, 1) := by decide +kernel
theorem dX11_count_71 : decode cX11_count 71 = .ok (.aload_n 0, 1) := by decide +kernel
theorem dX11_count_72 : decode cX11_count 72 = .ok (.getfield 246, 3) := by decide +kernel
theorem dX11_count_75 : decode cX11_count 75 = .ok (.ireturn, 1) := by decide +kernel
theorem dX11_count_76 : decode cX11_count 76 = .ok (.aload_n 0, 1) := by decide +kernel
theorem dX11_count_77 : decode cX11_count 77 = .ok (.getfield 84, 3) := by decide +kernel
theorem dX11_count_80 : decode cX11_count 80 = .ok (.ireturn, 1) := by decide +kernel
theorem dX11_count_81 : decode cX11_count 81 = .ok (.iload_n 1, 1) := by decide +kernel
theorem dX11_count_82 : decode cX11_count 82 = .ok (.i2l, 1) := by decide +kernel
theorem dX11_count_83 : decode cX11_count 83 = .ok (.ldc2_w 260, 3) := by decide +kernel
theorem dX11_count_86 : decode cX11_count 86 = .ok (.ldc2_w 228, 3) := by decide +kernel
theorem dX11_count_89 : decode cX11_count 89 = .ok (.invokestatic 80, 3) := by decide +kernel
theorem dX11_count_92 : decode cX11_count 92 = .ok (.ifCond .ne 8, 3) := by decide +kernel
theorem dX11_count_95 : decode cX11_count 95 = .ok (.bipush (-3), 2) := by decide +kernel
theorem dX11_count_97 : decode cX11_count 97 = .ok (.goto 27, 3) := by decide +kernel
theorem dX11_count_100 : decode cX11_count 100 = .ok (.aload_n 0, 1) := by decide +kernel
theorem dX11_count_101 : decode cX11_count 101 = .ok (.iload_n 1, 1) := by decide +kernel
theorem dX11_count_102 : decode cX11_count 102 = .ok (.bipush 7, 2) := by decide +kernel
theorem dX11_count_104 : decode cX11_count 104 = .ok (.isub, 1) := by decide +kernel
theorem dX11_count_105 : decode cX11_count 105 = .ok (.invokevirtual 167, 3) := by decide +kernel
theorem dX11_count_108 : decode cX11_count 108 = .ok (.ifCond .eq 15, 3) := by decide +kernel
theorem dX11_count_111 : decode cX11_count 111 = .ok (.aload_n 0, 1) := by decide +kernel
theorem dX11_count_112 : decode cX11_count 112 = .ok (.getfield 33, 3) := by decide +kernel
theorem dX11_count_115 : decode cX11_count 115 = .ok (.iload_n 1, 1) := by decide +kernel
theorem dX11_count_116 : decode cX11_count 116 = .ok (.bipush 7, 2) := by decide +kernel
theorem dX11_count_118 : decode cX11_count 118 = .ok (.isub, 1) := by decide +kernel
theorem dX11_count_119 : decode cX11_count 119 = .ok (.iaload, 1) := by decide +kernel
theorem dX11_count_120 : decode cX11_count 120 = .ok (.goto 4, 3) := by decide +kernel
theorem dX11_count_123 : decode cX11_count 123 = .ok (.iconst (-1), 1) := by decide +kernel
theorem dX11_count_124 : decode cX11_count 124 = .ok (.ireturn, 1) := by decide +kernel
theorem dL_law_0 : decode cL_law 0 = .ok (.new 7, 3) := by decide +kernel
theorem dL_law_3 : decode cL_law 3 = .ok (.dup, 1) := by decide +kernel
theorem dL_law_4 : decode cL_law 4 = .ok (.invokespecial 9, 3) := by decide +kernel
theorem dL_law_7 : decode cL_law 7 = .ok (.astore_n 1, 1) := by decide +kernel
theorem dL_law_8 : decode cL_law 8 = .ok (.new 10, 3) := by decide +kernel
theorem dL_law_11 : decode cL_law 11 = .ok (.dup, 1) := by decide +kernel
theorem dL_law_12 : decode cL_law 12 = .ok (.invokespecial 12, 3) := by decide +kernel
theorem dL_law_15 : decode cL_law 15 = .ok (.astore_n 2, 1) := by decide +kernel
theorem dL_law_16 : decode cL_law 16 = .ok (.iconst 0, 1) := by decide +kernel
theorem dL_law_17 : decode cL_law 17 = .ok (.istore_n 3, 1) := by decide +kernel
theorem dL_law_18 : decode cL_law 18 = .ok (.iload_n 3, 1) := by decide +kernel
theorem dL_law_19 : decode cL_law 19 = .ok (.aload_n 0, 1) := by decide +kernel
theorem dL_law_20 : decode cL_law 20 = .ok (.arraylength, 1) := by decide +kernel
theorem dL_law_21 : decode cL_law 21 = .ok (.bipush 6, 2) := by decide +kernel
theorem dL_law_23 : decode cL_law 23 = .ok (.isub, 1) := by decide +kernel
theorem dL_law_24 : decode cL_law 24 = .ok (.if_icmp .gt 1097, 3) := by decide +kernel
theorem dL_law_27 : decode cL_law 27 = .ok (.aload_n 0, 1) := by decide +kernel
theorem dL_law_28 : decode cL_law 28 = .ok (.iload_n 3, 1) := by decide +kernel
theorem dL_law_29 : decode cL_law 29 = .ok (.iaload, 1) := by decide +kernel
theorem dL_law_30 : decode cL_law 30 = .ok (.bipush 31, 2) := by decide +kernel
theorem dL_law_32 : decode cL_law 32 = .ok (.iand, 1) := by decide +kernel
theorem dL_law_33 : decode cL_law 33 = .ok (.tableswitch 1082 0 26 #[123, 186, 199, 212, 225, 258, 311, 364, 423, 446, 489, 512, 535, 568, 611, 674, 743, 786, 809, 842, 895, 918, 957, 970, 1013, 1036, 1059], 123) := by decide +kernel
theorem dL_law_156 : decode cL_law 156 = .ok (.aload_n 1, 1) := by decide +kernel
theorem dL_law_157 : decode cL_law 157 = .ok (.aload_n 0, 1) := by decide +kernel
theorem dL_law_158 : decode cL_law 158 = .ok (.iload_n 3, 1) := by decide +kernel
theorem dL_law_159 : decode cL_law 159 = .ok (.iconst 1, 1) := by decide +kernel
theorem dL_law_160 : decode cL_law 160 = .ok (.iadd, 1) := by decide +kernel
theorem dL_law_161 : decode cL_law 161 = .ok (.iaload, 1) := by decide +kernel
theorem dL_law_162 : decode cL_law 162 = .ok (.i2l, 1) := by decide +kernel
theorem dL_law_163 : decode cL_law 163 = .ok (.bipush 32, 2) := by decide +kernel
theorem dL_law_165 : decode cL_law 165 = .ok (.lshl, 1) := by decide +kernel
theorem dL_law_166 : decode cL_law 166 = .ok (.aload_n 0, 1) := by decide +kernel
theorem dL_law_167 : decode cL_law 167 = .ok (.iload_n 3, 1) := by decide +kernel
theorem dL_law_168 : decode cL_law 168 = .ok (.iconst 2, 1) := by decide +kernel
theorem dL_law_169 : decode cL_law 169 = .ok (.iadd, 1) := by decide +kernel
theorem dL_law_170 : decode cL_law 170 = .ok (.iaload, 1) := by decide +kernel
theorem dL_law_171 : decode cL_law 171 = .ok (.i2l, 1) := by decide +kernel
theorem dL_law_172 : decode cL_law 172 = .ok (.ldc2_w 13, 3) := by decide +kernel
theorem dL_law_175 : decode cL_law 175 = .ok (.land, 1) := by decide +kernel
theorem dL_law_176 : decode cL_law 176 = .ok (.lor, 1) := by decide +kernel
theorem dL_law_177 : decode cL_law 177 = .ok (.aload_n 0, 1) := by decide +kernel
theorem dL_law_178 : decode cL_law 178 = .ok (.iload_n 3, 1) := by decide +kernel
theorem dL_law_179 : decode cL_law 179 = .ok (.iconst 3, 1) := by decide +kernel
theorem dL_law_180 : decode cL_law 180 = .ok (.iadd, 1) := by decide +kernel
theorem dL_law_181 : decode cL_law 181 = .ok (.iaload, 1) := by decide +kernel
theorem dL_law_182 : decode cL_law 182 = .ok (.invokevirtual 15, 3) := by decide +kernel
theorem dL_law_185 : decode cL_law 185 = .ok (.aload_n 2, 1) := by decide +kernel
theorem dL_law_186 : decode cL_law 186 = .ok (.aload_n 0, 1) := by decide +kernel
theorem dL_law_187 : decode cL_law 187 = .ok (.iload_n 3, 1) := by decide +kernel
theorem dL_law_188 : decode cL_law 188 = .ok (.iconst 1, 1) := by decide +kernel
theorem dL_law_189 : decode cL_law 189 = .ok (.iadd, 1) := by decide +kernel
theorem dL_law_190 : decode cL_law 190 = .ok (.iaload, 1) := by decide +kernel
theorem dL_law_191 : decode cL_law 191 = .ok (.i2l, 1) := by decide +kernel
theorem dL_law_192 : decode cL_law 192 = .ok (.bipush 32, 2) := by decide +kernel
theorem dL_law_194 : decode cL_law 194 = .ok (.lshl, 1) := by decide +kernel
theorem dL_law_195 : decode cL_law 195 = .ok (.aload_n 0, 1) := by decide +kernel
theorem dL_law_196 : decode cL_law 196 = .ok (.iload_n 3, 1) := by decide +kernel
theorem dL_law_197 : decode cL_law 197 = .ok (.iconst 2, 1) := by decide +kernel
theorem dL_law_198 : decode cL_law 198 = .ok (.iadd, 1) := by decide +kernel
theorem dL_law_199 : decode cL_law 199 = .ok (.iaload, 1) := by decide +kernel
theorem dL_law_200 : decode cL_law 200 = .ok (.i2l, 1) := by decide +kernel
theorem dL_law_201 : decode cL_law 201 = .ok (.ldc2_w 13, 3) := by decide +kernel
theorem dL_law_204 : decode cL_law 204 = .ok (.land, 1) := by decide +kernel
theorem dL_law_205 : decode cL_law 205 = .ok (.lor, 1) := by decide +kernel
theorem dL_law_206 : decode cL_law 206 = .ok (.aload_n 0, 1) := by decide +kernel
theorem dL_law_207 : decode cL_law 207 = .ok (.iload_n 3, 1) := by decide +kernel
theorem dL_law_208 : decode cL_law 208 = .ok (.iconst 3, 1) := by decide +kernel
theorem dL_law_209 : decode cL_law 209 = .ok (.iadd, 1) := by decide +kernel
theorem dL_law_210 : decode cL_law 210 = .ok (.iaload, 1) := by decide +kernel
theorem dL_law_211 : decode cL_law 211 = .ok (.invokevirtual 19, 3) := by decide +kernel
theorem dL_law_214 : decode cL_law 214 = .ok (.if_icmp .eq 901, 3) := by decide +kernel
theorem dL_law_217 : decode cL_law 217 = .ok (.iconst 0, 1) := by decide +kernel
theorem dL_law_218 : decode cL_law 218 = .ok (.ireturn, 1) := by decide +kernel
theorem dL_law_219 : decode cL_law 219 = .ok (.aload_n 1, 1) := by decide +kernel
theorem dL_law_220 : decode cL_law 220 = .ok (.invokevirtual 20, 3) := by decide +kernel
theorem dL_law_223 : decode cL_law 223 = .ok (.aload_n 2, 1) := by decide +kernel
theorem dL_law_224 : decode cL_law 224 = .ok (.invokevirtual 24, 3) := by decide +kernel
theorem dL_law_227 : decode cL_law 227 = .ok (.if_icmp .eq 888, 3) := by decide +kernel
theorem dL_law_230 : decode cL_law 230 = .ok (.iconst 0, 1) := by decide +kernel
theorem dL_law_231 : decode cL_law 231 = .ok (.ireturn, 1) := by decide +kernel
theorem dL_law_232 : decode cL_law 232 = .ok (.aload_n 1, 1) := by decide +kernel
theorem dL_law_233 : decode cL_law 233 = .ok (.invokevirtual 25, 3) := by decide +kernel
theorem dL_law_236 : decode cL_law 236 = .ok (.aload_n 2, 1) := by decide +kernel
theorem dL_law_237 : decode cL_law 237 = .ok (.invokevirtual 28, 3) := by decide +kernel
theorem dL_law_240 : decode cL_law 240 = .ok (.if_icmp .eq 875, 3) := by decide +kernel
theorem dL_law_243 : decode cL_law 243 = .ok (.iconst 0, 1) := by decide +kernel
theorem dL_law_244 : decode cL_law 244 = .ok (.ireturn, 1) := by decide +kernel
theorem dL_law_245 : decode cL_law 245 = .ok (.aload_n 1, 1) := by decide +kernel
theorem dL_law_246 : decode cL_law 246 = .ok (.invokevirtual 29, 3) := by decide +kernel
theorem dL_law_249 : decode cL_law 249 = .ok (.aload_n 2, 1) := by decide +kernel
theorem dL_law_250 : decode cL_law 250 = .ok (.invokevirtual 32, 3) := by decide +kernel
theorem dL_law_253 : decode cL_law 253 = .ok (.if_icmp .eq 862, 3) := by decide +kernel
theorem dL_law_256 : decode cL_law 256 = .ok (.iconst 0, 1) := by decide +kernel
theorem dL_law_257 : decode cL_law 257 = .ok (.ireturn, 1) := by decide +kernel
theorem dL_law_258 : decode cL_law 258 = .ok (.aload_n 1, 1) := by decide +kernel
theorem dL_law_259 : decode cL_law 259 = .ok (.aload_n 0, 1) := by decide +kernel
theorem dL_law_260 : decode cL_law 260 = .ok (.iload_n 3, 1) := by decide +kernel
theorem dL_law_261 : decode cL_law 261 = .ok (.iconst 1, 1) := by decide +kernel
theorem dL_law_262 : decode cL_law 262 = .ok (.iadd, 1) := by decide +kernel
theorem dL_law_263 : decode cL_law 263 = .ok (.iaload, 1) := by decide +kernel
theorem dL_law_264 : decode cL_law 264 = .ok (.aload_n 0, 1) := by decide +kernel
theorem dL_law_265 : decode cL_law 265 = .ok (.iload_n 3, 1) := by decide +kernel
theorem dL_law_266 : decode cL_law 266 = .ok (.iconst 2, 1) := by decide +kernel
theorem dL_law_267 : decode cL_law 267 = .ok (.iadd, 1) := by decide +kernel
theorem dL_law_268 : decode cL_law 268 = .ok (.iaload, 1) := by decide +kernel
theorem dL_law_269 : decode cL_law 269 = .ok (.invokevirtual 33, 3) := by decide +kernel
theorem dL_law_272 : decode cL_law 272 = .ok (.aload_n 2, 1) := by decide +kernel
theorem dL_law_273 : decode cL_law 273 = .ok (.aload_n 0, 1) := by decide +kernel
theorem dL_law_274 : decode cL_law 274 = .ok (.iload_n 3, 1) := by decide +kernel
theorem dL_law_275 : decode cL_law 275 = .ok (.iconst 1, 1) := by decide +kernel
theorem dL_law_276 : decode cL_law 276 = .ok (.iadd, 1) := by decide +kernel
theorem dL_law_277 : decode cL_law 277 = .ok (.iaload, 1) := by decide +kernel
theorem dL_law_278 : decode cL_law 278 = .ok (.aload_n 0, 1) := by decide +kernel
theorem dL_law_279 : decode cL_law 279 = .ok (.iload_n 3, 1) := by decide +kernel
theorem dL_law_280 : decode cL_law 280 = .ok (.iconst 2, 1) := by decide +kernel
theorem dL_law_281 : decode cL_law 281 = .ok (.iadd, 1) := by decide +kernel
theorem dL_law_282 : decode cL_law 282 = .ok (.iaload, 1) := by decide +kernel
theorem dL_law_283 : decode cL_law 283 = .ok (.invokevirtual 37, 3) := by decide +kernel
theorem dL_law_286 : decode cL_law 286 = .ok (.if_icmp .eq 829, 3) := by decide +kernel
theorem dL_law_289 : decode cL_law 289 = .ok (.iconst 0, 1) := by decide +kernel
theorem dL_law_290 : decode cL_law 290 = .ok (.ireturn, 1) := by decide +kernel
theorem dL_law_291 : decode cL_law 291 = .ok (.aload_n 1, 1) := by decide +kernel
theorem dL_law_292 : decode cL_law 292 = .ok (.aload_n 0, 1) := by decide +kernel
theorem dL_law_293 : decode cL_law 293 = .ok (.iload_n 3, 1) := by decide +kernel
theorem dL_law_294 : decode cL_law 294 = .ok (.iconst 1, 1) := by decide +kernel
theorem dL_law_295 : decode cL_law 295 = .ok (.iadd, 1) := by decide +kernel
theorem dL_law_296 : decode cL_law 296 = .ok (.iaload, 1) := by decide +kernel
theorem dL_law_297 : decode cL_law 297 = .ok (.aload_n 0, 1) := by decide +kernel
theorem dL_law_298 : decode cL_law 298 = .ok (.iload_n 3, 1) := by decide +kernel
theorem dL_law_299 : decode cL_law 299 = .ok (.iconst 2, 1) := by decide +kernel
theorem dL_law_300 : decode cL_law 300 = .ok (.iadd, 1) := by decide +kernel
theorem dL_law_301 : decode cL_law 301 = .ok (.iaload, 1) := by decide +kernel
theorem dL_law_302 : decode cL_law 302 = .ok (.aload_n 0, 1) := by decide +kernel
theorem dL_law_303 : decode cL_law 303 = .ok (.iload_n 3, 1) := by decide +kernel
theorem dL_law_304 : decode cL_law 304 = .ok (.iconst 3, 1) := by decide +kernel
theorem dL_law_305 : decode cL_law 305 = .ok (.iadd, 1) := by decide +kernel
theorem dL_law_306 : decode cL_law 306 = .ok (.iaload, 1) := by decide +kernel
theorem dL_law_307 : decode cL_law 307 = .ok (.aload_n 0, 1) := by decide +kernel
theorem dL_law_308 : decode cL_law 308 = .ok (.iload_n 3, 1) := by decide +kernel
theorem dL_law_309 : decode cL_law 309 = .ok (.iconst 4, 1) := by decide +kernel
theorem dL_law_310 : decode cL_law 310 = .ok (.iadd, 1) := by decide +kernel
theorem dL_law_311 : decode cL_law 311 = .ok (.iaload, 1) := by decide +kernel
theorem dL_law_312 : decode cL_law 312 = .ok (.invokevirtual 38, 3) := by decide +kernel
theorem dL_law_315 : decode cL_law 315 = .ok (.aload_n 2, 1) := by decide +kernel
theorem dL_law_316 : decode cL_law 316 = .ok (.aload_n 0, 1) := by decide +kernel
theorem dL_law_317 : decode cL_law 317 = .ok (.iload_n 3, 1) := by decide +kernel
theorem dL_law_318 : decode cL_law 318 = .ok (.iconst 1, 1) := by decide +kernel
theorem dL_law_319 : decode cL_law 319 = .ok (.iadd, 1) := by decide +kernel
theorem dL_law_320 : decode cL_law 320 = .ok (.iaload, 1) := by decide +kernel
theorem dL_law_321 : decode cL_law 321 = .ok (.aload_n 0, 1) := by decide +kernel
theorem dL_law_322 : decode cL_law 322 = .ok (.iload_n 3, 1) := by decide +kernel
theorem dL_law_323 : decode cL_law 323 = .ok (.iconst 2, 1) := by decide +kernel
theorem dL_law_324 : decode cL_law 324 = .ok (.iadd, 1) := by decide +kernel
theorem dL_law_325 : decode cL_law 325 = .ok (.iaload, 1) := by decide +kernel
theorem dL_law_326 : decode cL_law 326 = .ok (.aload_n 0, 1) := by decide +kernel
theorem dL_law_327 : decode cL_law 327 = .ok (.iload_n 3, 1) := by decide +kernel
theorem dL_law_328 : decode cL_law 328 = .ok (.iconst 3, 1) := by decide +kernel
theorem dL_law_329 : decode cL_law 329 = .ok (.iadd, 1) := by decide +kernel
theorem dL_law_330 : decode cL_law 330 = .ok (.iaload, 1) := by decide +kernel
theorem dL_law_331 : decode cL_law 331 = .ok (.aload_n 0, 1) := by decide +kernel
theorem dL_law_332 : decode cL_law 332 = .ok (.iload_n 3, 1) := by decide +kernel
theorem dL_law_333 : decode cL_law 333 = .ok (.iconst 4, 1) := by decide +kernel
theorem dL_law_334 : decode cL_law 334 = .ok (.iadd, 1) := by decide +kernel
theorem dL_law_335 : decode cL_law 335 = .ok (.iaload, 1) := by decide +kernel
theorem dL_law_336 : decode cL_law 336 = .ok (.invokevirtual 42, 3) := by decide +kernel
theorem dL_law_339 : decode cL_law 339 = .ok (.if_icmp .eq 776, 3) := by decide +kernel
theorem dL_law_342 : decode cL_law 342 = .ok (.iconst 0, 1) := by decide +kernel
theorem dL_law_343 : decode cL_law 343 = .ok (.ireturn, 1) := by decide +kernel
theorem dL_law_344 : decode cL_law 344 = .ok (.aload_n 1, 1) := by decide +kernel
theorem dL_law_345 : decode cL_law 345 = .ok (.aload_n 0, 1) := by decide +kernel
theorem dL_law_346 : decode cL_law 346 = .ok (.iload_n 3, 1) := by decide +kernel
theorem dL_law_347 : decode cL_law 347 = .ok (.iconst 1, 1) := by decide +kernel
theorem dL_law_348 : decode cL_law 348 = .ok (.iadd, 1) := by decide +kernel
theorem dL_law_349 : decode cL_law 349 = .ok (.iaload, 1) := by decide +kernel
theorem dL_law_350 : decode cL_law 350 = .ok (.aload_n 0, 1) := by decide +kernel
theorem dL_law_351 : decode cL_law 351 = .ok (.iload_n 3, 1) := by decide +kernel
theorem dL_law_352 : decode cL_law 352 = .ok (.iconst 2, 1) := by decide +kernel
theorem dL_law_353 : decode cL_law 353 = .ok (.iadd, 1) := by decide +kernel
theorem dL_law_354 : decode cL_law 354 = .ok (.iaload, 1) := by decide +kernel
theorem dL_law_355 : decode cL_law 355 = .ok (.aload_n 0, 1) := by decide +kernel
theorem dL_law_356 : decode cL_law 356 = .ok (.iload_n 3, 1) := by decide +kernel
theorem dL_law_357 : decode cL_law 357 = .ok (.iconst 3, 1) := by decide +kernel
theorem dL_law_358 : decode cL_law 358 = .ok (.iadd, 1) := by decide +kernel
theorem dL_law_359 : decode cL_law 359 = .ok (.iaload, 1) := by decide +kernel
theorem dL_law_360 : decode cL_law 360 = .ok (.aload_n 0, 1) := by decide +kernel
theorem dL_law_361 : decode cL_law 361 = .ok (.iload_n 3, 1) := by decide +kernel
theorem dL_law_362 : decode cL_law 362 = .ok (.iconst 4, 1) := by decide +kernel
theorem dL_law_363 : decode cL_law 363 = .ok (.iadd, 1) := by decide +kernel
theorem dL_law_364 : decode cL_law 364 = .ok (.iaload, 1) := by decide +kernel
theorem dL_law_365 : decode cL_law 365 = .ok (.invokevirtual 43, 3) := by decide +kernel
theorem dL_law_368 : decode cL_law 368 = .ok (.aload_n 2, 1) := by decide +kernel
theorem dL_law_369 : decode cL_law 369 = .ok (.aload_n 0, 1) := by decide +kernel
theorem dL_law_370 : decode cL_law 370 = .ok (.iload_n 3, 1) := by decide +kernel
theorem dL_law_371 : decode cL_law 371 = .ok (.iconst 1, 1) := by decide +kernel
theorem dL_law_372 : decode cL_law 372 = .ok (.iadd, 1) := by decide +kernel
theorem dL_law_373 : decode cL_law 373 = .ok (.iaload, 1) := by decide +kernel
theorem dL_law_374 : decode cL_law 374 = .ok (.aload_n 0, 1) := by decide +kernel
theorem dL_law_375 : decode cL_law 375 = .ok (.iload_n 3, 1) := by decide +kernel
theorem dL_law_376 : decode cL_law 376 = .ok (.iconst 2, 1) := by decide +kernel
theorem dL_law_377 : decode cL_law 377 = .ok (.iadd, 1) := by decide +kernel
theorem dL_law_378 : decode cL_law 378 = .ok (.iaload, 1) := by decide +kernel
theorem dL_law_379 : decode cL_law 379 = .ok (.aload_n 0, 1) := by decide +kernel
theorem dL_law_380 : decode cL_law 380 = .ok (.iload_n 3, 1) := by decide +kernel
theorem dL_law_381 : decode cL_law 381 = .ok (.iconst 3, 1) := by decide +kernel
theorem dL_law_382 : decode cL_law 382 = .ok (.iadd, 1) := by decide +kernel
theorem dL_law_383 : decode cL_law 383 = .ok (.iaload, 1) := by decide +kernel
theorem dL_law_384 : decode cL_law 384 = .ok (.aload_n 0, 1) := by decide +kernel
theorem dL_law_385 : decode cL_law 385 = .ok (.iload_n 3, 1) := by decide +kernel
theorem dL_law_386 : decode cL_law 386 = .ok (.iconst 4, 1) := by decide +kernel
theorem dL_law_387 : decode cL_law 387 = .ok (.iadd, 1) := by decide +kernel
theorem dL_law_388 : decode cL_law 388 = .ok (.iaload, 1) := by decide +kernel
theorem dL_law_389 : decode cL_law 389 = .ok (.invokevirtual 46, 3) := by decide +kernel
theorem dL_law_392 : decode cL_law 392 = .ok (.if_icmp .eq 723, 3) := by decide +kernel
theorem dL_law_395 : decode cL_law 395 = .ok (.iconst 0, 1) := by decide +kernel
theorem dL_law_396 : decode cL_law 396 = .ok (.ireturn, 1) := by decide +kernel
theorem dL_law_397 : decode cL_law 397 = .ok (.aload_n 1, 1) := by decide +kernel
theorem dL_law_398 : decode cL_law 398 = .ok (.aload_n 0, 1) := by decide +kernel
theorem dL_law_399 : decode cL_law 399 = .ok (.iload_n 3, 1) := by decide +kernel
theorem dL_law_400 : decode cL_law 400 = .ok (.iconst 1, 1) := by decide +kernel
theorem dL_law_401 : decode cL_law 401 = .ok (.iadd, 1) := by decide +kernel
theorem dL_law_402 : decode cL_law 402 = .ok (.iaload, 1) := by decide +kernel
theorem dL_law_403 : decode cL_law 403 = .ok (.aload_n 0, 1) := by decide +kernel
theorem dL_law_404 : decode cL_law 404 = .ok (.iload_n 3, 1) := by decide +kernel
theorem dL_law_405 : decode cL_law 405 = .ok (.iconst 2, 1) := by decide +kernel
theorem dL_law_406 : decode cL_law 406 = .ok (.iadd, 1) := by decide +kernel
theorem dL_law_407 : decode cL_law 407 = .ok (.iaload, 1) := by decide +kernel
theorem dL_law_408 : decode cL_law 408 = .ok (.aload_n 0, 1) := by decide +kernel
theorem dL_law_409 : decode cL_law 409 = .ok (.iload_n 3, 1) := by decide +kernel
theorem dL_law_410 : decode cL_law 410 = .ok (.iconst 3, 1) := by decide +kernel
theorem dL_law_411 : decode cL_law 411 = .ok (.iadd, 1) := by decide +kernel
theorem dL_law_412 : decode cL_law 412 = .ok (.iaload, 1) := by decide +kernel
theorem dL_law_413 : decode cL_law 413 = .ok (.ifCond .eq 7, 3) := by decide +kernel
theorem dL_law_416 : decode cL_law 416 = .ok (.iconst 1, 1) := by decide +kernel
theorem dL_law_417 : decode cL_law 417 = .ok (.goto 4, 3) := by decide +kernel
theorem dL_law_420 : decode cL_law 420 = .ok (.iconst 0, 1) := by decide +kernel
theorem dL_law_421 : decode cL_law 421 = .ok (.invokevirtual 47, 3) := by decide +kernel
theorem dL_law_424 : decode cL_law 424 = .ok (.aload_n 2, 1) := by decide +kernel
theorem dL_law_425 : decode cL_law 425 = .ok (.aload_n 0, 1) := by decide +kernel
theorem dL_law_426 : decode cL_law 426 = .ok (.iload_n 3, 1) := by decide +kernel
theorem dL_law_427 : decode cL_law 427 = .ok (.iconst 1, 1) := by decide +kernel
theorem dL_law_428 : decode cL_law 428 = .ok (.iadd, 1) := by decide +kernel
theorem dL_law_429 : decode cL_law 429 = .ok (.iaload, 1) := by decide +kernel
theorem dL_law_430 : decode cL_law 430 = .ok (.aload_n 0, 1) := by decide +kernel
theorem dL_law_431 : decode cL_law 431 = .ok (.iload_n 3, 1) := by decide +kernel
theorem dL_law_432 : decode cL_law 432 = .ok (.iconst 2, 1) := by decide +kernel
theorem dL_law_433 : decode cL_law 433 = .ok (.iadd, 1) := by decide +kernel
theorem dL_law_434 : decode cL_law 434 = .ok (.iaload, 1) := by decide +kernel
theorem dL_law_435 : decode cL_law 435 = .ok (.aload_n 0, 1) := by decide +kernel
theorem dL_law_436 : decode cL_law 436 = .ok (.iload_n 3, 1) := by decide +kernel
theorem dL_law_437 : decode cL_law 437 = .ok (.iconst 3, 1) := by decide +kernel
theorem dL_law_438 : decode cL_law 438 = .ok (.iadd, 1) := by decide +kernel
theorem dL_law_439 : decode cL_law 439 = .ok (.iaload, 1) := by decide +kernel
theorem dL_law_440 : decode cL_law 440 = .ok (.ifCond .eq 7, 3) := by decide +kernel
theorem dL_law_443 : decode cL_law 443 = .ok (.iconst 1, 1) := by decide +kernel
theorem dL_law_444 : decode cL_law 444 = .ok (.goto 4, 3) := by decide +kernel
theorem dL_law_447 : decode cL_law 447 = .ok (.iconst 0, 1) := by decide +kernel
theorem dL_law_448 : decode cL_law 448 = .ok (.invokevirtual 51, 3) := by decide +kernel
theorem dL_law_451 : decode cL_law 451 = .ok (.if_icmp .eq 664, 3) := by decide +kernel
theorem dL_law_454 : decode cL_law 454 = .ok (.iconst 0, 1) := by decide +kernel
theorem dL_law_455 : decode cL_law 455 = .ok (.ireturn, 1) := by decide +kernel
theorem dL_law_456 : decode cL_law 456 = .ok (.aload_n 1, 1) := by decide +kernel
theorem dL_law_457 : decode cL_law 457 = .ok (.aload_n 0, 1) := by decide +kernel
theorem dL_law_458 : decode cL_law 458 = .ok (.iload_n 3, 1) := by decide +kernel
theorem dL_law_459 : decode cL_law 459 = .ok (.iconst 1, 1) := by decide +kernel
theorem dL_law_460 : decode cL_law 460 = .ok (.iadd, 1) := by decide +kernel
theorem dL_law_461 : decode cL_law 461 = .ok (.iaload, 1) := by decide +kernel
theorem dL_law_462 : decode cL_law 462 = .ok (.invokevirtual 52, 3) := by decide +kernel
theorem dL_law_465 : decode cL_law 465 = .ok (.aload_n 2, 1) := by decide +kernel
theorem dL_law_466 : decode cL_law 466 = .ok (.aload_n 0, 1) := by decide +kernel
theorem dL_law_467 : decode cL_law 467 = .ok (.iload_n 3, 1) := by decide +kernel
theorem dL_law_468 : decode cL_law 468 = .ok (.iconst 1, 1) := by decide +kernel
theorem dL_law_469 : decode cL_law 469 = .ok (.iadd, 1) := by decide +kernel
theorem dL_law_470 : decode cL_law 470 = .ok (.iaload, 1) := by decide +kernel
theorem dL_law_471 : decode cL_law 471 = .ok (.invokevirtual 56, 3) := by decide +kernel
theorem dL_law_474 : decode cL_law 474 = .ok (.if_icmp .eq 641, 3) := by decide +kernel
theorem dL_law_477 : decode cL_law 477 = .ok (.iconst 0, 1) := by decide +kernel
theorem dL_law_478 : decode cL_law 478 = .ok (.ireturn, 1) := by decide +kernel
theorem dL_law_479 : decode cL_law 479 = .ok (.aload_n 1, 1) := by decide +kernel
theorem dL_law_480 : decode cL_law 480 = .ok (.aload_n 0, 1) := by decide +kernel
theorem dL_law_481 : decode cL_law 481 = .ok (.iload_n 3, 1) := by decide +kernel
theorem dL_law_482 : decode cL_law 482 = .ok (.iconst 1, 1) := by decide +kernel
theorem dL_law_483 : decode cL_law 483 = .ok (.iadd, 1) := by decide +kernel
theorem dL_law_484 : decode cL_law 484 = .ok (.iaload, 1) := by decide +kernel
theorem dL_law_485 : decode cL_law 485 = .ok (.aload_n 0, 1) := by decide +kernel
theorem dL_law_486 : decode cL_law 486 = .ok (.iload_n 3, 1) := by decide +kernel
theorem dL_law_487 : decode cL_law 487 = .ok (.iconst 2, 1) := by decide +kernel
theorem dL_law_488 : decode cL_law 488 = .ok (.iadd, 1) := by decide +kernel
theorem dL_law_489 : decode cL_law 489 = .ok (.iaload, 1) := by decide +kernel
theorem dL_law_490 : decode cL_law 490 = .ok (.aload_n 0, 1) := by decide +kernel
theorem dL_law_491 : decode cL_law 491 = .ok (.iload_n 3, 1) := by decide +kernel
theorem dL_law_492 : decode cL_law 492 = .ok (.iconst 3, 1) := by decide +kernel
theorem dL_law_493 : decode cL_law 493 = .ok (.iadd, 1) := by decide +kernel
theorem dL_law_494 : decode cL_law 494 = .ok (.iaload, 1) := by decide +kernel
theorem dL_law_495 : decode cL_law 495 = .ok (.invokevirtual 57, 3) := by decide +kernel
theorem dL_law_498 : decode cL_law 498 = .ok (.aload_n 2, 1) := by decide +kernel
theorem dL_law_499 : decode cL_law 499 = .ok (.aload_n 0, 1) := by decide +kernel
theorem dL_law_500 : decode cL_law 500 = .ok (.iload_n 3, 1) := by decide +kernel
theorem dL_law_501 : decode cL_law 501 = .ok (.iconst 1, 1) := by decide +kernel
theorem dL_law_502 : decode cL_law 502 = .ok (.iadd, 1) := by decide +kernel
theorem dL_law_503 : decode cL_law 503 = .ok (.iaload, 1) := by decide +kernel
theorem dL_law_504 : decode cL_law 504 = .ok (.aload_n 0, 1) := by decide +kernel
theorem dL_law_505 : decode cL_law 505 = .ok (.iload_n 3, 1) := by decide +kernel
theorem dL_law_506 : decode cL_law 506 = .ok (.iconst 2, 1) := by decide +kernel
theorem dL_law_507 : decode cL_law 507 = .ok (.iadd, 1) := by decide +kernel
theorem dL_law_508 : decode cL_law 508 = .ok (.iaload, 1) := by decide +kernel
theorem dL_law_509 : decode cL_law 509 = .ok (.aload_n 0, 1) := by decide +kernel
theorem dL_law_510 : decode cL_law 510 = .ok (.iload_n 3, 1) := by decide +kernel
theorem dL_law_511 : decode cL_law 511 = .ok (.iconst 3, 1) := by decide +kernel
theorem dL_law_512 : decode cL_law 512 = .ok (.iadd, 1) := by decide +kernel
theorem dL_law_513 : decode cL_law 513 = .ok (.iaload, 1) := by decide +kernel
theorem dL_law_514 : decode cL_law 514 = .ok (.invokevirtual 61, 3) := by decide +kernel
theorem dL_law_517 : decode cL_law 517 = .ok (.if_icmp .eq 598, 3) := by decide +kernel
theorem dL_law_520 : decode cL_law 520 = .ok (.iconst 0, 1) := by decide +kernel
theorem dL_law_521 : decode cL_law 521 = .ok (.ireturn, 1) := by decide +kernel
theorem dL_law_522 : decode cL_law 522 = .ok (.aload_n 1, 1) := by decide +kernel
theorem dL_law_523 : decode cL_law 523 = .ok (.aload_n 0, 1) := by decide +kernel
theorem dL_law_524 : decode cL_law 524 = .ok (.iload_n 3, 1) := by decide +kernel
theorem dL_law_525 : decode cL_law 525 = .ok (.iconst 1, 1) := by decide +kernel
theorem dL_law_526 : decode cL_law 526 = .ok (.iadd, 1) := by decide +kernel
theorem dL_law_527 : decode cL_law 527 = .ok (.iaload, 1) := by decide +kernel
theorem dL_law_528 : decode cL_law 528 = .ok (.invokevirtual 62, 3) := by decide +kernel
theorem dL_law_531 : decode cL_law 531 = .ok (.aload_n 2, 1) := by decide +kernel
theorem dL_law_532 : decode cL_law 532 = .ok (.aload_n 0, 1) := by decide +kernel
theorem dL_law_533 : decode cL_law 533 = .ok (.iload_n 3, 1) := by decide +kernel
theorem dL_law_534 : decode cL_law 534 = .ok (.iconst 1, 1) := by decide +kernel
theorem dL_law_535 : decode cL_law 535 = .ok (.iadd, 1) := by decide +kernel
theorem dL_law_536 : decode cL_law 536 = .ok (.iaload, 1) := by decide +kernel
theorem dL_law_537 : decode cL_law 537 = .ok (.invokevirtual 65, 3) := by decide +kernel
theorem dL_law_540 : decode cL_law 540 = .ok (.if_icmp .eq 575, 3) := by decide +kernel
theorem dL_law_543 : decode cL_law 543 = .ok (.iconst 0, 1) := by decide +kernel
theorem dL_law_544 : decode cL_law 544 = .ok (.ireturn, 1) := by decide +kernel
theorem dL_law_545 : decode cL_law 545 = .ok (.aload_n 1, 1) := by decide +kernel
theorem dL_law_546 : decode cL_law 546 = .ok (.aload_n 0, 1) := by decide +kernel
theorem dL_law_547 : decode cL_law 547 = .ok (.iload_n 3, 1) := by decide +kernel
theorem dL_law_548 : decode cL_law 548 = .ok (.iconst 1, 1) := by decide +kernel
theorem dL_law_549 : decode cL_law 549 = .ok (.iadd, 1) := by decide +kernel
theorem dL_law_550 : decode cL_law 550 = .ok (.iaload, 1) := by decide +kernel
theorem dL_law_551 : decode cL_law 551 = .ok (.invokevirtual 66, 3) := by decide +kernel
theorem dL_law_554 : decode cL_law 554 = .ok (.aload_n 2, 1) := by decide +kernel
theorem dL_law_555 : decode cL_law 555 = .ok (.aload_n 0, 1) := by decide +kernel
theorem dL_law_556 : decode cL_law 556 = .ok (.iload_n 3, 1) := by decide +kernel
theorem dL_law_557 : decode cL_law 557 = .ok (.iconst 1, 1) := by decide +kernel
theorem dL_law_558 : decode cL_law 558 = .ok (.iadd, 1) := by decide +kernel
theorem dL_law_559 : decode cL_law 559 = .ok (.iaload, 1) := by decide +kernel
theorem dL_law_560 : decode cL_law 560 = .ok (.invokevirtual 69, 3) := by decide +kernel
theorem dL_law_563 : decode cL_law 563 = .ok (.if_icmp .eq 552, 3) := by decide +kernel
theorem dL_law_566 : decode cL_law 566 = .ok (.iconst 0, 1) := by decide +kernel
theorem dL_law_567 : decode cL_law 567 = .ok (.ireturn, 1) := by decide +kernel
theorem dL_law_568 : decode cL_law 568 = .ok (.aload_n 1, 1) := by decide +kernel
theorem dL_law_569 : decode cL_law 569 = .ok (.aload_n 0, 1) := by decide +kernel
theorem dL_law_570 : decode cL_law 570 = .ok (.iload_n 3, 1) := by decide +kernel
theorem dL_law_571 : decode cL_law 571 = .ok (.iconst 1, 1) := by decide +kernel
theorem dL_law_572 : decode cL_law 572 = .ok (.iadd, 1) := by decide +kernel
theorem dL_law_573 : decode cL_law 573 = .ok (.iaload, 1) := by decide +kernel
theorem dL_law_574 : decode cL_law 574 = .ok (.aload_n 0, 1) := by decide +kernel
theorem dL_law_575 : decode cL_law 575 = .ok (.iload_n 3, 1) := by decide +kernel
theorem dL_law_576 : decode cL_law 576 = .ok (.iconst 2, 1) := by decide +kernel
theorem dL_law_577 : decode cL_law 577 = .ok (.iadd, 1) := by decide +kernel
theorem dL_law_578 : decode cL_law 578 = .ok (.iaload, 1) := by decide +kernel
theorem dL_law_579 : decode cL_law 579 = .ok (.invokevirtual 70, 3) := by decide +kernel
theorem dL_law_582 : decode cL_law 582 = .ok (.aload_n 2, 1) := by decide +kernel
theorem dL_law_583 : decode cL_law 583 = .ok (.aload_n 0, 1) := by decide +kernel
theorem dL_law_584 : decode cL_law 584 = .ok (.iload_n 3, 1) := by decide +kernel
theorem dL_law_585 : decode cL_law 585 = .ok (.iconst 1, 1) := by decide +kernel
theorem dL_law_586 : decode cL_law 586 = .ok (.iadd, 1) := by decide +kernel
theorem dL_law_587 : decode cL_law 587 = .ok (.iaload, 1) := by decide +kernel
theorem dL_law_588 : decode cL_law 588 = .ok (.aload_n 0, 1) := by decide +kernel
theorem dL_law_589 : decode cL_law 589 = .ok (.iload_n 3, 1) := by decide +kernel
theorem dL_law_590 : decode cL_law 590 = .ok (.iconst 2, 1) := by decide +kernel
theorem dL_law_591 : decode cL_law 591 = .ok (.iadd, 1) := by decide +kernel
theorem dL_law_592 : decode cL_law 592 = .ok (.iaload, 1) := by decide +kernel
theorem dL_law_593 : decode cL_law 593 = .ok (.invokevirtual 73, 3) := by decide +kernel
theorem dL_law_596 : decode cL_law 596 = .ok (.if_icmp .eq 519, 3) := by decide +kernel
theorem dL_law_599 : decode cL_law 599 = .ok (.iconst 0, 1) := by decide +kernel
theorem dL_law_600 : decode cL_law 600 = .ok (.ireturn, 1) := by decide +kernel
theorem dL_law_601 : decode cL_law 601 = .ok (.aload_n 1, 1) := by decide +kernel
theorem dL_law_602 : decode cL_law 602 = .ok (.aload_n 0, 1) := by decide +kernel
theorem dL_law_603 : decode cL_law 603 = .ok (.iload_n 3, 1) := by decide +kernel
theorem dL_law_604 : decode cL_law 604 = .ok (.iconst 1, 1) := by decide +kernel
theorem dL_law_605 : decode cL_law 605 = .ok (.iadd, 1) := by decide +kernel
theorem dL_law_606 : decode cL_law 606 = .ok (.iaload, 1) := by decide +kernel
theorem dL_law_607 : decode cL_law 607 = .ok (.aload_n 0, 1) := by decide +kernel
theorem dL_law_608 : decode cL_law 608 = .ok (.iload_n 3, 1) := by decide +kernel
theorem dL_law_609 : decode cL_law 609 = .ok (.iconst 2, 1) := by decide +kernel
theorem dL_law_610 : decode cL_law 610 = .ok (.iadd, 1) := by decide +kernel
theorem dL_law_611 : decode cL_law 611 = .ok (.iaload, 1) := by decide +kernel
theorem dL_law_612 : decode cL_law 612 = .ok (.aload_n 0, 1) := by decide +kernel
theorem dL_law_613 : decode cL_law 613 = .ok (.iload_n 3, 1) := by decide +kernel
theorem dL_law_614 : decode cL_law 614 = .ok (.iconst 3, 1) := by decide +kernel
theorem dL_law_615 : decode cL_law 615 = .ok (.iadd, 1) := by decide +kernel
theorem dL_law_616 : decode cL_law 616 = .ok (.iaload, 1) := by decide +kernel
theorem dL_law_617 : decode cL_law 617 = .ok (.invokevirtual 74, 3) := by decide +kernel
theorem dL_law_620 : decode cL_law 620 = .ok (.aload_n 2, 1) := by decide +kernel
theorem dL_law_621 : decode cL_law 621 = .ok (.aload_n 0, 1) := by decide +kernel
theorem dL_law_622 : decode cL_law 622 = .ok (.iload_n 3, 1) := by decide +kernel
theorem dL_law_623 : decode cL_law 623 = .ok (.iconst 1, 1) := by decide +kernel
theorem dL_law_624 : decode cL_law 624 = .ok (.iadd, 1) := by decide +kernel
theorem dL_law_625 : decode cL_law 625 = .ok (.iaload, 1) := by decide +kernel
theorem dL_law_626 : decode cL_law 626 = .ok (.aload_n 0, 1) := by decide +kernel
theorem dL_law_627 : decode cL_law 627 = .ok (.iload_n 3, 1) := by decide +kernel
theorem dL_law_628 : decode cL_law 628 = .ok (.iconst 2, 1) := by decide +kernel
theorem dL_law_629 : decode cL_law 629 = .ok (.iadd, 1) := by decide +kernel
theorem dL_law_630 : decode cL_law 630 = .ok (.iaload, 1) := by decide +kernel
theorem dL_law_631 : decode cL_law 631 = .ok (.aload_n 0, 1) := by decide +kernel
theorem dL_law_632 : decode cL_law 632 = .ok (.iload_n 3, 1) := by decide +kernel
theorem dL_law_633 : decode cL_law 633 = .ok (.iconst 3, 1) := by decide +kernel
theorem dL_law_634 : decode cL_law 634 = .ok (.iadd, 1) := by decide +kernel
theorem dL_law_635 : decode cL_law 635 = .ok (.iaload, 1) := by decide +kernel
theorem dL_law_636 : decode cL_law 636 = .ok (.invokevirtual 77, 3) := by decide +kernel
theorem dL_law_639 : decode cL_law 639 = .ok (.if_icmp .eq 476, 3) := by decide +kernel
theorem dL_law_642 : decode cL_law 642 = .ok (.iconst 0, 1) := by decide +kernel
theorem dL_law_643 : decode cL_law 643 = .ok (.ireturn, 1) := by decide +kernel
theorem dL_law_644 : decode cL_law 644 = .ok (.aload_n 1, 1) := by decide +kernel
theorem dL_law_645 : decode cL_law 645 = .ok (.aload_n 0, 1) := by decide +kernel
theorem dL_law_646 : decode cL_law 646 = .ok (.iload_n 3, 1) := by decide +kernel
theorem dL_law_647 : decode cL_law 647 = .ok (.iconst 1, 1) := by decide +kernel
theorem dL_law_648 : decode cL_law 648 = .ok (.iadd, 1) := by decide +kernel
theorem dL_law_649 : decode cL_law 649 = .ok (.iaload, 1) := by decide +kernel
theorem dL_law_650 : decode cL_law 650 = .ok (.aload_n 0, 1) := by decide +kernel
theorem dL_law_651 : decode cL_law 651 = .ok (.iload_n 3, 1) := by decide +kernel
theorem dL_law_652 : decode cL_law 652 = .ok (.iconst 2, 1) := by decide +kernel
theorem dL_law_653 : decode cL_law 653 = .ok (.iadd, 1) := by decide +kernel
theorem dL_law_654 : decode cL_law 654 = .ok (.iaload, 1) := by decide +kernel
theorem dL_law_655 : decode cL_law 655 = .ok (.aload_n 0, 1) := by decide +kernel
theorem dL_law_656 : decode cL_law 656 = .ok (.iload_n 3, 1) := by decide +kernel
theorem dL_law_657 : decode cL_law 657 = .ok (.iconst 3, 1) := by decide +kernel
theorem dL_law_658 : decode cL_law 658 = .ok (.iadd, 1) := by decide +kernel
theorem dL_law_659 : decode cL_law 659 = .ok (.iaload, 1) := by decide +kernel
theorem dL_law_660 : decode cL_law 660 = .ok (.aload_n 0, 1) := by decide +kernel
theorem dL_law_661 : decode cL_law 661 = .ok (.iload_n 3, 1) := by decide +kernel
theorem dL_law_662 : decode cL_law 662 = .ok (.iconst 4, 1) := by decide +kernel
theorem dL_law_663 : decode cL_law 663 = .ok (.iadd, 1) := by decide +kernel
theorem dL_law_664 : decode cL_law 664 = .ok (.iaload, 1) := by decide +kernel
theorem dL_law_665 : decode cL_law 665 = .ok (.aload_n 0, 1) := by decide +kernel
theorem dL_law_666 : decode cL_law 666 = .ok (.iload_n 3, 1) := by decide +kernel
theorem dL_law_667 : decode cL_law 667 = .ok (.iconst 5, 1) := by decide +kernel
theorem dL_law_668 : decode cL_law 668 = .ok (.iadd, 1) := by decide +kernel
theorem dL_law_669 : decode cL_law 669 = .ok (.iaload, 1) := by decide +kernel
theorem dL_law_670 : decode cL_law 670 = .ok (.invokevirtual 78, 3) := by decide +kernel
theorem dL_law_673 : decode cL_law 673 = .ok (.aload_n 2, 1) := by decide +kernel
theorem dL_law_674 : decode cL_law 674 = .ok (.aload_n 0, 1) := by decide +kernel
theorem dL_law_675 : decode cL_law 675 = .ok (.iload_n 3, 1) := by decide +kernel
theorem dL_law_676 : decode cL_law 676 = .ok (.iconst 1, 1) := by decide +kernel
theorem dL_law_677 : decode cL_law 677 = .ok (.iadd, 1) := by decide +kernel
theorem dL_law_678 : decode cL_law 678 = .ok (.iaload, 1) := by decide +kernel
theorem dL_law_679 : decode cL_law 679 = .ok (.aload_n 0, 1) := by decide +kernel
theorem dL_law_680 : decode cL_law 680 = .ok (.iload_n 3, 1) := by decide +kernel
theorem dL_law_681 : decode cL_law 681 = .ok (.iconst 2, 1) := by decide +kernel
theorem dL_law_682 : decode cL_law 682 = .ok (.iadd, 1) := by decide +kernel
theorem dL_law_683 : decode cL_law 683 = .ok (.iaload, 1) := by decide +kernel
theorem dL_law_684 : decode cL_law 684 = .ok (.aload_n 0, 1) := by decide +kernel
theorem dL_law_685 : decode cL_law 685 = .ok (.iload_n 3, 1) := by decide +kernel
theorem dL_law_686 : decode cL_law 686 = .ok (.iconst 3, 1) := by decide +kernel
theorem dL_law_687 : decode cL_law 687 = .ok (.iadd, 1) := by decide +kernel
theorem dL_law_688 : decode cL_law 688 = .ok (.iaload, 1) := by decide +kernel
theorem dL_law_689 : decode cL_law 689 = .ok (.aload_n 0, 1) := by decide +kernel
theorem dL_law_690 : decode cL_law 690 = .ok (.iload_n 3, 1) := by decide +kernel
theorem dL_law_691 : decode cL_law 691 = .ok (.iconst 4, 1) := by decide +kernel
theorem dL_law_692 : decode cL_law 692 = .ok (.iadd, 1) := by decide +kernel
theorem dL_law_693 : decode cL_law 693 = .ok (.iaload, 1) := by decide +kernel
theorem dL_law_694 : decode cL_law 694 = .ok (.aload_n 0, 1) := by decide +kernel
theorem dL_law_695 : decode cL_law 695 = .ok (.iload_n 3, 1) := by decide +kernel
theorem dL_law_696 : decode cL_law 696 = .ok (.iconst 5, 1) := by decide +kernel
theorem dL_law_697 : decode cL_law 697 = .ok (.iadd, 1) := by decide +kernel
theorem dL_law_698 : decode cL_law 698 = .ok (.iaload, 1) := by decide +kernel
theorem dL_law_699 : decode cL_law 699 = .ok (.invokevirtual 82, 3) := by decide +kernel
theorem dL_law_702 : decode cL_law 702 = .ok (.if_icmp .eq 413, 3) := by decide +kernel
theorem dL_law_705 : decode cL_law 705 = .ok (.iconst 0, 1) := by decide +kernel
theorem dL_law_706 : decode cL_law 706 = .ok (.ireturn, 1) := by decide +kernel
theorem dL_law_707 : decode cL_law 707 = .ok (.aload_n 1, 1) := by decide +kernel
theorem dL_law_708 : decode cL_law 708 = .ok (.aload_n 0, 1) := by decide +kernel
theorem dL_law_709 : decode cL_law 709 = .ok (.iload_n 3, 1) := by decide +kernel
theorem dL_law_710 : decode cL_law 710 = .ok (.iconst 1, 1) := by decide +kernel
theorem dL_law_711 : decode cL_law 711 = .ok (.iadd, 1) := by decide +kernel
theorem dL_law_712 : decode cL_law 712 = .ok (.iaload, 1) := by decide +kernel
theorem dL_law_713 : decode cL_law 713 = .ok (.aload_n 0, 1) := by decide +kernel
theorem dL_law_714 : decode cL_law 714 = .ok (.iload_n 3, 1) := by decide +kernel
theorem dL_law_715 : decode cL_law 715 = .ok (.iconst 2, 1) := by decide +kernel
theorem dL_law_716 : decode cL_law 716 = .ok (.iadd, 1) := by decide +kernel
theorem dL_law_717 : decode cL_law 717 = .ok (.iaload, 1) := by decide +kernel
theorem dL_law_718 : decode cL_law 718 = .ok (.aload_n 0, 1) := by decide +kernel
theorem dL_law_719 : decode cL_law 719 = .ok (.iload_n 3, 1) := by decide +kernel
theorem dL_law_720 : decode cL_law 720 = .ok (.iconst 3, 1) := by decide +kernel
theorem dL_law_721 : decode cL_law 721 = .ok (.iadd, 1) := by decide +kernel
theorem dL_law_722 : decode cL_law 722 = .ok (.iaload, 1) := by decide +kernel
theorem dL_law_723 : decode cL_law 723 = .ok (.aload_n 0, 1) := by decide +kernel
theorem dL_law_724 : decode cL_law 724 = .ok (.iload_n 3, 1) := by decide +kernel
theorem dL_law_725 : decode cL_law 725 = .ok (.iconst 4, 1) := by decide +kernel
theorem dL_law_726 : decode cL_law 726 = .ok (.iadd, 1) := by decide +kernel
theorem dL_law_727 : decode cL_law 727 = .ok (.iaload, 1) := by decide +kernel
theorem dL_law_728 : decode cL_law 728 = .ok (.ifCond .eq 7, 3) := by decide +kernel
theorem dL_law_731 : decode cL_law 731 = .ok (.iconst 1, 1) := by decide +kernel
theorem dL_law_732 : decode cL_law 732 = .ok (.goto 4, 3) := by decide +kernel
theorem dL_law_735 : decode cL_law 735 = .ok (.iconst 0, 1) := by decide +kernel
theorem dL_law_736 : decode cL_law 736 = .ok (.invokevirtual 83, 3) := by decide +kernel
theorem dL_law_739 : decode cL_law 739 = .ok (.aload_n 2, 1) := by decide +kernel
theorem dL_law_740 : decode cL_law 740 = .ok (.aload_n 0, 1) := by decide +kernel
theorem dL_law_741 : decode cL_law 741 = .ok (.iload_n 3, 1) := by decide +kernel
theorem dL_law_742 : decode cL_law 742 = .ok (.iconst 1, 1) := by decide +kernel
theorem dL_law_743 : decode cL_law 743 = .ok (.iadd, 1) := by decide +kernel
theorem dL_law_744 : decode cL_law 744 = .ok (.iaload, 1) := by decide +kernel
theorem dL_law_745 : decode cL_law 745 = .ok (.aload_n 0, 1) := by decide +kernel
theorem dL_law_746 : decode cL_law 746 = .ok (.iload_n 3, 1) := by decide +kernel
theorem dL_law_747 : decode cL_law 747 = .ok (.iconst 2, 1) := by decide +kernel
theorem dL_law_748 : decode cL_law 748 = .ok (.iadd, 1) := by decide +kernel
theorem dL_law_749 : decode cL_law 749 = .ok (.iaload, 1) := by decide +kernel
theorem dL_law_750 : decode cL_law 750 = .ok (.aload_n 0, 1) := by decide +kernel
theorem dL_law_751 : decode cL_law 751 = .ok (.iload_n 3, 1) := by decide +kernel
theorem dL_law_752 : decode cL_law 752 = .ok (.iconst 3, 1) := by decide +kernel
theorem dL_law_753 : decode cL_law 753 = .ok (.iadd, 1) := by decide +kernel
theorem dL_law_754 : decode cL_law 754 = .ok (.iaload, 1) := by decide +kernel
theorem dL_law_755 : decode cL_law 755 = .ok (.aload_n 0, 1) := by decide +kernel
theorem dL_law_756 : decode cL_law 756 = .ok (.iload_n 3, 1) := by decide +kernel
theorem dL_law_757 : decode cL_law 757 = .ok (.iconst 4, 1) := by decide +kernel
theorem dL_law_758 : decode cL_law 758 = .ok (.iadd, 1) := by decide +kernel
theorem dL_law_759 : decode cL_law 759 = .ok (.iaload, 1) := by decide +kernel
theorem dL_law_760 : decode cL_law 760 = .ok (.ifCond .eq 7, 3) := by decide +kernel
theorem dL_law_763 : decode cL_law 763 = .ok (.iconst 1, 1) := by decide +kernel
theorem dL_law_764 : decode cL_law 764 = .ok (.goto 4, 3) := by decide +kernel
theorem dL_law_767 : decode cL_law 767 = .ok (.iconst 0, 1) := by decide +kernel
theorem dL_law_768 : decode cL_law 768 = .ok (.invokevirtual 87, 3) := by decide +kernel
theorem dL_law_771 : decode cL_law 771 = .ok (.if_icmp .eq 344, 3) := by decide +kernel
theorem dL_law_774 : decode cL_law 774 = .ok (.iconst 0, 1) := by decide +kernel
theorem dL_law_775 : decode cL_law 775 = .ok (.ireturn, 1) := by decide +kernel
theorem dL_law_776 : decode cL_law 776 = .ok (.aload_n 1, 1) := by decide +kernel
theorem dL_law_777 : decode cL_law 777 = .ok (.aload_n 0, 1) := by decide +kernel
theorem dL_law_778 : decode cL_law 778 = .ok (.iload_n 3, 1) := by decide +kernel
theorem dL_law_779 : decode cL_law 779 = .ok (.iconst 1, 1) := by decide +kernel
theorem dL_law_780 : decode cL_law 780 = .ok (.iadd, 1) := by decide +kernel
theorem dL_law_781 : decode cL_law 781 = .ok (.iaload, 1) := by decide +kernel
theorem dL_law_782 : decode cL_law 782 = .ok (.aload_n 0, 1) := by decide +kernel
theorem dL_law_783 : decode cL_law 783 = .ok (.iload_n 3, 1) := by decide +kernel
theorem dL_law_784 : decode cL_law 784 = .ok (.iconst 2, 1) := by decide +kernel
theorem dL_law_785 : decode cL_law 785 = .ok (.iadd, 1) := by decide +kernel
theorem dL_law_786 : decode cL_law 786 = .ok (.iaload, 1) := by decide +kernel
theorem dL_law_787 : decode cL_law 787 = .ok (.aload_n 0, 1) := by decide +kernel
theorem dL_law_788 : decode cL_law 788 = .ok (.iload_n 3, 1) := by decide +kernel
theorem dL_law_789 : decode cL_law 789 = .ok (.iconst 3, 1) := by decide +kernel
theorem dL_law_790 : decode cL_law 790 = .ok (.iadd, 1) := by decide +kernel
theorem dL_law_791 : decode cL_law 791 = .ok (.iaload, 1) := by decide +kernel
theorem dL_law_792 : decode cL_law 792 = .ok (.invokevirtual 88, 3) := by decide +kernel
theorem dL_law_795 : decode cL_law 795 = .ok (.aload_n 2, 1) := by decide +kernel
theorem dL_law_796 : decode cL_law 796 = .ok (.aload_n 0, 1) := by decide +kernel
theorem dL_law_797 : decode cL_law 797 = .ok (.iload_n 3, 1) := by decide +kernel
theorem dL_law_798 : decode cL_law 798 = .ok (.iconst 1, 1) := by decide +kernel
theorem dL_law_799 : decode cL_law 799 = .ok (.iadd, 1) := by decide +kernel
theorem dL_law_800 : decode cL_law 800 = .ok (.iaload, 1) := by decide +kernel
theorem dL_law_801 : decode cL_law 801 = .ok (.aload_n 0, 1) := by decide +kernel
theorem dL_law_802 : decode cL_law 802 = .ok (.iload_n 3, 1) := by decide +kernel
theorem dL_law_803 : decode cL_law 803 = .ok (.iconst 2, 1) := by decide +kernel
theorem dL_law_804 : decode cL_law 804 = .ok (.iadd, 1) := by decide +kernel
theorem dL_law_805 : decode cL_law 805 = .ok (.iaload, 1) := by decide +kernel
theorem dL_law_806 : decode cL_law 806 = .ok (.aload_n 0, 1) := by decide +kernel
theorem dL_law_807 : decode cL_law 807 = .ok (.iload_n 3, 1) := by decide +kernel
theorem dL_law_808 : decode cL_law 808 = .ok (.iconst 3, 1) := by decide +kernel
theorem dL_law_809 : decode cL_law 809 = .ok (.iadd, 1) := by decide +kernel
theorem dL_law_810 : decode cL_law 810 = .ok (.iaload, 1) := by decide +kernel
theorem dL_law_811 : decode cL_law 811 = .ok (.invokevirtual 91, 3) := by decide +kernel
theorem dL_law_814 : decode cL_law 814 = .ok (.if_icmp .eq 301, 3) := by decide +kernel
theorem dL_law_817 : decode cL_law 817 = .ok (.iconst 0, 1) := by decide +kernel
theorem dL_law_818 : decode cL_law 818 = .ok (.ireturn, 1) := by decide +kernel
theorem dL_law_819 : decode cL_law 819 = .ok (.aload_n 1, 1) := by decide +kernel
theorem dL_law_820 : decode cL_law 820 = .ok (.aload_n 0, 1) := by decide +kernel
theorem dL_law_821 : decode cL_law 821 = .ok (.iload_n 3, 1) := by decide +kernel
theorem dL_law_822 : decode cL_law 822 = .ok (.iconst 1, 1) := by decide +kernel
theorem dL_law_823 : decode cL_law 823 = .ok (.iadd, 1) := by decide +kernel
theorem dL_law_824 : decode cL_law 824 = .ok (.iaload, 1) := by decide +kernel
theorem dL_law_825 : decode cL_law 825 = .ok (.invokevirtual 92, 3) := by decide +kernel
theorem dL_law_828 : decode cL_law 828 = .ok (.aload_n 2, 1) := by decide +kernel
theorem dL_law_829 : decode cL_law 829 = .ok (.aload_n 0, 1) := by decide +kernel
theorem dL_law_830 : decode cL_law 830 = .ok (.iload_n 3, 1) := by decide +kernel
theorem dL_law_831 : decode cL_law 831 = .ok (.iconst 1, 1) := by decide +kernel
theorem dL_law_832 : decode cL_law 832 = .ok (.iadd, 1) := by decide +kernel
theorem dL_law_833 : decode cL_law 833 = .ok (.iaload, 1) := by decide +kernel
theorem dL_law_834 : decode cL_law 834 = .ok (.invokevirtual 95, 3) := by decide +kernel
theorem dL_law_837 : decode cL_law 837 = .ok (.if_icmp .eq 278, 3) := by decide +kernel
theorem dL_law_840 : decode cL_law 840 = .ok (.iconst 0, 1) := by decide +kernel
theorem dL_law_841 : decode cL_law 841 = .ok (.ireturn, 1) := by decide +kernel
theorem dL_law_842 : decode cL_law 842 = .ok (.aload_n 1, 1) := by decide +kernel
theorem dL_law_843 : decode cL_law 843 = .ok (.aload_n 0, 1) := by decide +kernel
theorem dL_law_844 : decode cL_law 844 = .ok (.iload_n 3, 1) := by decide +kernel
theorem dL_law_845 : decode cL_law 845 = .ok (.iconst 1, 1) := by decide +kernel
theorem dL_law_846 : decode cL_law 846 = .ok (.iadd, 1) := by decide +kernel
theorem dL_law_847 : decode cL_law 847 = .ok (.iaload, 1) := by decide +kernel
theorem dL_law_848 : decode cL_law 848 = .ok (.aload_n 0, 1) := by decide +kernel
theorem dL_law_849 : decode cL_law 849 = .ok (.iload_n 3, 1) := by decide +kernel
theorem dL_law_850 : decode cL_law 850 = .ok (.iconst 2, 1) := by decide +kernel
theorem dL_law_851 : decode cL_law 851 = .ok (.iadd, 1) := by decide +kernel
theorem dL_law_852 : decode cL_law 852 = .ok (.iaload, 1) := by decide +kernel
theorem dL_law_853 : decode cL_law 853 = .ok (.invokevirtual 96, 3) := by decide +kernel
theorem dL_law_856 : decode cL_law 856 = .ok (.aload_n 2, 1) := by decide +kernel
theorem dL_law_857 : decode cL_law 857 = .ok (.aload_n 0, 1) := by decide +kernel
theorem dL_law_858 : decode cL_law 858 = .ok (.iload_n 3, 1) := by decide +kernel
theorem dL_law_859 : decode cL_law 859 = .ok (.iconst 1, 1) := by decide +kernel
theorem dL_law_860 : decode cL_law 860 = .ok (.iadd, 1) := by decide +kernel
theorem dL_law_861 : decode cL_law 861 = .ok (.iaload, 1) := by decide +kernel
theorem dL_law_862 : decode cL_law 862 = .ok (.aload_n 0, 1) := by decide +kernel
theorem dL_law_863 : decode cL_law 863 = .ok (.iload_n 3, 1) := by decide +kernel
theorem dL_law_864 : decode cL_law 864 = .ok (.iconst 2, 1) := by decide +kernel
theorem dL_law_865 : decode cL_law 865 = .ok (.iadd, 1) := by decide +kernel
theorem dL_law_866 : decode cL_law 866 = .ok (.iaload, 1) := by decide +kernel
theorem dL_law_867 : decode cL_law 867 = .ok (.invokevirtual 99, 3) := by decide +kernel
theorem dL_law_870 : decode cL_law 870 = .ok (.if_icmp .eq 245, 3) := by decide +kernel
theorem dL_law_873 : decode cL_law 873 = .ok (.iconst 0, 1) := by decide +kernel
theorem dL_law_874 : decode cL_law 874 = .ok (.ireturn, 1) := by decide +kernel
theorem dL_law_875 : decode cL_law 875 = .ok (.aload_n 1, 1) := by decide +kernel
theorem dL_law_876 : decode cL_law 876 = .ok (.aload_n 0, 1) := by decide +kernel
theorem dL_law_877 : decode cL_law 877 = .ok (.iload_n 3, 1) := by decide +kernel
theorem dL_law_878 : decode cL_law 878 = .ok (.iconst 1, 1) := by decide +kernel
theorem dL_law_879 : decode cL_law 879 = .ok (.iadd, 1) := by decide +kernel
theorem dL_law_880 : decode cL_law 880 = .ok (.iaload, 1) := by decide +kernel
theorem dL_law_881 : decode cL_law 881 = .ok (.aload_n 0, 1) := by decide +kernel
theorem dL_law_882 : decode cL_law 882 = .ok (.iload_n 3, 1) := by decide +kernel
theorem dL_law_883 : decode cL_law 883 = .ok (.iconst 2, 1) := by decide +kernel
theorem dL_law_884 : decode cL_law 884 = .ok (.iadd, 1) := by decide +kernel
theorem dL_law_885 : decode cL_law 885 = .ok (.iaload, 1) := by decide +kernel
theorem dL_law_886 : decode cL_law 886 = .ok (.aload_n 0, 1) := by decide +kernel
theorem dL_law_887 : decode cL_law 887 = .ok (.iload_n 3, 1) := by decide +kernel
theorem dL_law_888 : decode cL_law 888 = .ok (.iconst 3, 1) := by decide +kernel
theorem dL_law_889 : decode cL_law 889 = .ok (.iadd, 1) := by decide +kernel
theorem dL_law_890 : decode cL_law 890 = .ok (.iaload, 1) := by decide +kernel
theorem dL_law_891 : decode cL_law 891 = .ok (.aload_n 0, 1) := by decide +kernel
theorem dL_law_892 : decode cL_law 892 = .ok (.iload_n 3, 1) := by decide +kernel
theorem dL_law_893 : decode cL_law 893 = .ok (.iconst 4, 1) := by decide +kernel
theorem dL_law_894 : decode cL_law 894 = .ok (.iadd, 1) := by decide +kernel
theorem dL_law_895 : decode cL_law 895 = .ok (.iaload, 1) := by decide +kernel
theorem dL_law_896 : decode cL_law 896 = .ok (.invokevirtual 100, 3) := by decide +kernel
theorem dL_law_899 : decode cL_law 899 = .ok (.aload_n 2, 1) := by decide +kernel
theorem dL_law_900 : decode cL_law 900 = .ok (.aload_n 0, 1) := by decide +kernel
theorem dL_law_901 : decode cL_law 901 = .ok (.iload_n 3, 1) := by decide +kernel
theorem dL_law_902 : decode cL_law 902 = .ok (.iconst 1, 1) := by decide +kernel
theorem dL_law_903 : decode cL_law 903 = .ok (.iadd, 1) := by decide +kernel
theorem dL_law_904 : decode cL_law 904 = .ok (.iaload, 1) := by decide +kernel
theorem dL_law_905 : decode cL_law 905 = .ok (.aload_n 0, 1) := by decide +kernel
theorem dL_law_906 : decode cL_law 906 = .ok (.iload_n 3, 1) := by decide +kernel
theorem dL_law_907 : decode cL_law 907 = .ok (.iconst 2, 1) := by decide +kernel
theorem dL_law_908 : decode cL_law 908 = .ok (.iadd, 1) := by decide +kernel
theorem dL_law_909 : decode cL_law 909 = .ok (.iaload, 1) := by decide +kernel
theorem dL_law_910 : decode cL_law 910 = .ok (.aload_n 0, 1) := by decide +kernel
theorem dL_law_911 : decode cL_law 911 = .ok (.iload_n 3, 1) := by decide +kernel
theorem dL_law_912 : decode cL_law 912 = .ok (.iconst 3, 1) := by decide +kernel
theorem dL_law_913 : decode cL_law 913 = .ok (.iadd, 1) := by decide +kernel
theorem dL_law_914 : decode cL_law 914 = .ok (.iaload, 1) := by decide +kernel
theorem dL_law_915 : decode cL_law 915 = .ok (.aload_n 0, 1) := by decide +kernel
theorem dL_law_916 : decode cL_law 916 = .ok (.iload_n 3, 1) := by decide +kernel
theorem dL_law_917 : decode cL_law 917 = .ok (.iconst 4, 1) := by decide +kernel
theorem dL_law_918 : decode cL_law 918 = .ok (.iadd, 1) := by decide +kernel
theorem dL_law_919 : decode cL_law 919 = .ok (.iaload, 1) := by decide +kernel
theorem dL_law_920 : decode cL_law 920 = .ok (.invokevirtual 103, 3) := by decide +kernel
theorem dL_law_923 : decode cL_law 923 = .ok (.if_icmp .eq 192, 3) := by decide +kernel
theorem dL_law_926 : decode cL_law 926 = .ok (.iconst 0, 1) := by decide +kernel
theorem dL_law_927 : decode cL_law 927 = .ok (.ireturn, 1) := by decide +kernel
theorem dL_law_928 : decode cL_law 928 = .ok (.aload_n 1, 1) := by decide +kernel
theorem dL_law_929 : decode cL_law 929 = .ok (.aload_n 0, 1) := by decide +kernel
theorem dL_law_930 : decode cL_law 930 = .ok (.iload_n 3, 1) := by decide +kernel
theorem dL_law_931 : decode cL_law 931 = .ok (.iconst 1, 1) := by decide +kernel
theorem dL_law_932 : decode cL_law 932 = .ok (.iadd, 1) := by decide +kernel
theorem dL_law_933 : decode cL_law 933 = .ok (.iaload, 1) := by decide +kernel
theorem dL_law_934 : decode cL_law 934 = .ok (.invokevirtual 104, 3) := by decide +kernel
theorem dL_law_937 : decode cL_law 937 = .ok (.aload_n 2, 1) := by decide +kernel
theorem dL_law_938 : decode cL_law 938 = .ok (.aload_n 0, 1) := by decide +kernel
theorem dL_law_939 : decode cL_law 939 = .ok (.iload_n 3, 1) := by decide +kernel
theorem dL_law_940 : decode cL_law 940 = .ok (.iconst 1, 1) := by decide +kernel
theorem dL_law_941 : decode cL_law 941 = .ok (.iadd, 1) := by decide +kernel
theorem dL_law_942 : decode cL_law 942 = .ok (.iaload, 1) := by decide +kernel
theorem dL_law_943 : decode cL_law 943 = .ok (.invokevirtual 107, 3) := by decide +kernel
theorem dL_law_946 : decode cL_law 946 = .ok (.if_icmp .eq 169, 3) := by decide +kernel
theorem dL_law_949 : decode cL_law 949 = .ok (.iconst 0, 1) := by decide +kernel
theorem dL_law_950 : decode cL_law 950 = .ok (.ireturn, 1) := by decide +kernel
theorem dL_law_951 : decode cL_law 951 = .ok (.aload_n 1, 1) := by decide +kernel
theorem dL_law_952 : decode cL_law 952 = .ok (.aload_n 0, 1) := by decide +kernel
theorem dL_law_953 : decode cL_law 953 = .ok (.iload_n 3, 1) := by decide +kernel
theorem dL_law_954 : decode cL_law 954 = .ok (.iconst 1, 1) := by decide +kernel
theorem dL_law_955 : decode cL_law 955 = .ok (.iadd, 1) := by decide +kernel
theorem dL_law_956 : decode cL_law 956 = .ok (.iaload, 1) := by decide +kernel
theorem dL_law_957 : decode cL_law 957 = .ok (.ifCond .eq 7, 3) := by decide +kernel
theorem dL_law_960 : decode cL_law 960 = .ok (.iconst 1, 1) := by decide +kernel
theorem dL_law_961 : decode cL_law 961 = .ok (.goto 4, 3) := by decide +kernel
theorem dL_law_964 : decode cL_law 964 = .ok (.iconst 0, 1) := by decide +kernel
theorem dL_law_965 : decode cL_law 965 = .ok (.invokevirtual 108, 3) := by decide +kernel
theorem dL_law_968 : decode cL_law 968 = .ok (.aload_n 2, 1) := by decide +kernel
theorem dL_law_969 : decode cL_law 969 = .ok (.aload_n 0, 1) := by decide +kernel
theorem dL_law_970 : decode cL_law 970 = .ok (.iload_n 3, 1) := by decide +kernel
theorem dL_law_971 : decode cL_law 971 = .ok (.iconst 1, 1) := by decide +kernel
theorem dL_law_972 : decode cL_law 972 = .ok (.iadd, 1) := by decide +kernel
theorem dL_law_973 : decode cL_law 973 = .ok (.iaload, 1) := by decide +kernel
theorem dL_law_974 : decode cL_law 974 = .ok (.ifCond .eq 7, 3) := by decide +kernel
theorem dL_law_977 : decode cL_law 977 = .ok (.iconst 1, 1) := by decide +kernel
theorem dL_law_978 : decode cL_law 978 = .ok (.goto 4, 3) := by decide +kernel
theorem dL_law_981 : decode cL_law 981 = .ok (.iconst 0, 1) := by decide +kernel
theorem dL_law_982 : decode cL_law 982 = .ok (.invokevirtual 112, 3) := by decide +kernel
theorem dL_law_985 : decode cL_law 985 = .ok (.if_icmp .eq 130, 3) := by decide +kernel
theorem dL_law_988 : decode cL_law 988 = .ok (.iconst 0, 1) := by decide +kernel
theorem dL_law_989 : decode cL_law 989 = .ok (.ireturn, 1) := by decide +kernel
theorem dL_law_990 : decode cL_law 990 = .ok (.aload_n 1, 1) := by decide +kernel
theorem dL_law_991 : decode cL_law 991 = .ok (.invokevirtual 113, 3) := by decide +kernel
theorem dL_law_994 : decode cL_law 994 = .ok (.aload_n 2, 1) := by decide +kernel
theorem dL_law_995 : decode cL_law 995 = .ok (.invokevirtual 116, 3) := by decide +kernel
theorem dL_law_998 : decode cL_law 998 = .ok (.if_icmp .eq 117, 3) := by decide +kernel
theorem dL_law_1001 : decode cL_law 1001 = .ok (.iconst 0, 1) := by decide +kernel
theorem dL_law_1002 : decode cL_law 1002 = .ok (.ireturn, 1) := by decide +kernel
theorem dL_law_1003 : decode cL_law 1003 = .ok (.aload_n 1, 1) := by decide +kernel
theorem dL_law_1004 : decode cL_law 1004 = .ok (.aload_n 0, 1) := by decide +kernel
theorem dL_law_1005 : decode cL_law 1005 = .ok (.iload_n 3, 1) := by decide +kernel
theorem dL_law_1006 : decode cL_law 1006 = .ok (.iconst 1, 1) := by decide +kernel
theorem dL_law_1007 : decode cL_law 1007 = .ok (.iadd, 1) := by decide +kernel
theorem dL_law_1008 : decode cL_law 1008 = .ok (.iaload, 1) := by decide +kernel
theorem dL_law_1009 : decode cL_law 1009 = .ok (.aload_n 0, 1) := by decide +kernel
theorem dL_law_1010 : decode cL_law 1010 = .ok (.iload_n 3, 1) := by decide +kernel
theorem dL_law_1011 : decode cL_law 1011 = .ok (.iconst 2, 1) := by decide +kernel
theorem dL_law_1012 : decode cL_law 1012 = .ok (.iadd, 1) := by decide +kernel
theorem dL_law_1013 : decode cL_law 1013 = .ok (.iaload, 1) := by decide +kernel
theorem dL_law_1014 : decode cL_law 1014 = .ok (.aload_n 0, 1) := by decide +kernel
theorem dL_law_1015 : decode cL_law 1015 = .ok (.iload_n 3, 1) := by decide +kernel
theorem dL_law_1016 : decode cL_law 1016 = .ok (.iconst 3, 1) := by decide +kernel
theorem dL_law_1017 : decode cL_law 1017 = .ok (.iadd, 1) := by decide +kernel
theorem dL_law_1018 : decode cL_law 1018 = .ok (.iaload, 1) := by decide +kernel
theorem dL_law_1019 : decode cL_law 1019 = .ok (.invokevirtual 117, 3) := by decide +kernel
theorem dL_law_1022 : decode cL_law 1022 = .ok (.aload_n 2, 1) := by decide +kernel
theorem dL_law_1023 : decode cL_law 1023 = .ok (.aload_n 0, 1) := by decide +kernel
theorem dL_law_1024 : decode cL_law 1024 = .ok (.iload_n 3, 1) := by decide +kernel
theorem dL_law_1025 : decode cL_law 1025 = .ok (.iconst 1, 1) := by decide +kernel
theorem dL_law_1026 : decode cL_law 1026 = .ok (.iadd, 1) := by decide +kernel
theorem dL_law_1027 : decode cL_law 1027 = .ok (.iaload, 1) := by decide +kernel
theorem dL_law_1028 : decode cL_law 1028 = .ok (.aload_n 0, 1) := by decide +kernel
theorem dL_law_1029 : decode cL_law 1029 = .ok (.iload_n 3, 1) := by decide +kernel
theorem dL_law_1030 : decode cL_law 1030 = .ok (.iconst 2, 1) := by decide +kernel
theorem dL_law_1031 : decode cL_law 1031 = .ok (.iadd, 1) := by decide +kernel
theorem dL_law_1032 : decode cL_law 1032 = .ok (.iaload, 1) := by decide +kernel
theorem dL_law_1033 : decode cL_law 1033 = .ok (.aload_n 0, 1) := by decide +kernel
theorem dL_law_1034 : decode cL_law 1034 = .ok (.iload_n 3, 1) := by decide +kernel
theorem dL_law_1035 : decode cL_law 1035 = .ok (.iconst 3, 1) := by decide +kernel
theorem dL_law_1036 : decode cL_law 1036 = .ok (.iadd, 1) := by decide +kernel
theorem dL_law_1037 : decode cL_law 1037 = .ok (.iaload, 1) := by decide +kernel
theorem dL_law_1038 : decode cL_law 1038 = .ok (.invokevirtual 120, 3) := by decide +kernel
theorem dL_law_1041 : decode cL_law 1041 = .ok (.if_icmp .eq 74, 3) := by decide +kernel
theorem dL_law_1044 : decode cL_law 1044 = .ok (.iconst 0, 1) := by decide +kernel
theorem dL_law_1045 : decode cL_law 1045 = .ok (.ireturn, 1) := by decide +kernel
theorem dL_law_1046 : decode cL_law 1046 = .ok (.aload_n 1, 1) := by decide +kernel
theorem dL_law_1047 : decode cL_law 1047 = .ok (.aload_n 0, 1) := by decide +kernel
theorem dL_law_1048 : decode cL_law 1048 = .ok (.iload_n 3, 1) := by decide +kernel
theorem dL_law_1049 : decode cL_law 1049 = .ok (.iconst 1, 1) := by decide +kernel
theorem dL_law_1050 : decode cL_law 1050 = .ok (.iadd, 1) := by decide +kernel
theorem dL_law_1051 : decode cL_law 1051 = .ok (.iaload, 1) := by decide +kernel
theorem dL_law_1052 : decode cL_law 1052 = .ok (.invokevirtual 121, 3) := by decide +kernel
theorem dL_law_1055 : decode cL_law 1055 = .ok (.aload_n 2, 1) := by decide +kernel
theorem dL_law_1056 : decode cL_law 1056 = .ok (.aload_n 0, 1) := by decide +kernel
theorem dL_law_1057 : decode cL_law 1057 = .ok (.iload_n 3, 1) := by decide +kernel
theorem dL_law_1058 : decode cL_law 1058 = .ok (.iconst 1, 1) := by decide +kernel
theorem dL_law_1059 : decode cL_law 1059 = .ok (.iadd, 1) := by decide +kernel
theorem dL_law_1060 : decode cL_law 1060 = .ok (.iaload, 1) := by decide +kernel
theorem dL_law_1061 : decode cL_law 1061 = .ok (.invokevirtual 124, 3) := by decide +kernel
theorem dL_law_1064 : decode cL_law 1064 = .ok (.if_icmp .eq 51, 3) := by decide +kernel
theorem dL_law_1067 : decode cL_law 1067 = .ok (.iconst 0, 1) := by decide +kernel
theorem dL_law_1068 : decode cL_law 1068 = .ok (.ireturn, 1) := by decide +kernel
theorem dL_law_1069 : decode cL_law 1069 = .ok (.aload_n 1, 1) := by decide +kernel
theorem dL_law_1070 : decode cL_law 1070 = .ok (.aload_n 0, 1) := by decide +kernel
theorem dL_law_1071 : decode cL_law 1071 = .ok (.iload_n 3, 1) := by decide +kernel
theorem dL_law_1072 : decode cL_law 1072 = .ok (.iconst 1, 1) := by decide +kernel
theorem dL_law_1073 : decode cL_law 1073 = .ok (.iadd, 1) := by decide +kernel
theorem dL_law_1074 : decode cL_law 1074 = .ok (.iaload, 1) := by decide +kernel
theorem dL_law_1075 : decode cL_law 1075 = .ok (.invokevirtual 125, 3) := by decide +kernel
theorem dL_law_1078 : decode cL_law 1078 = .ok (.aload_n 2, 1) := by decide +kernel
theorem dL_law_1079 : decode cL_law 1079 = .ok (.aload_n 0, 1) := by decide +kernel
theorem dL_law_1080 : decode cL_law 1080 = .ok (.iload_n 3, 1) := by decide +kernel
theorem dL_law_1081 : decode cL_law 1081 = .ok (.iconst 1, 1) := by decide +kernel
theorem dL_law_1082 : decode cL_law 1082 = .ok (.iadd, 1) := by decide +kernel
theorem dL_law_1083 : decode cL_law 1083 = .ok (.iaload, 1) := by decide +kernel
theorem dL_law_1084 : decode cL_law 1084 = .ok (.invokevirtual 128, 3) := by decide +kernel
theorem dL_law_1087 : decode cL_law 1087 = .ok (.if_icmp .eq 28, 3) := by decide +kernel
theorem dL_law_1090 : decode cL_law 1090 = .ok (.iconst 0, 1) := by decide +kernel
theorem dL_law_1091 : decode cL_law 1091 = .ok (.ireturn, 1) := by decide +kernel
theorem dL_law_1092 : decode cL_law 1092 = .ok (.aload_n 1, 1) := by decide +kernel
theorem dL_law_1093 : decode cL_law 1093 = .ok (.aload_n 0, 1) := by decide +kernel
theorem dL_law_1094 : decode cL_law 1094 = .ok (.iload_n 3, 1) := by decide +kernel
theorem dL_law_1095 : decode cL_law 1095 = .ok (.iconst 1, 1) := by decide +kernel
theorem dL_law_1096 : decode cL_law 1096 = .ok (.iadd, 1) := by decide +kernel
theorem dL_law_1097 : decode cL_law 1097 = .ok (.iaload, 1) := by decide +kernel
theorem dL_law_1098 : decode cL_law 1098 = .ok (.invokevirtual 129, 3) := by decide +kernel
theorem dL_law_1101 : decode cL_law 1101 = .ok (.aload_n 2, 1) := by decide +kernel
theorem dL_law_1102 : decode cL_law 1102 = .ok (.aload_n 0, 1) := by decide +kernel
theorem dL_law_1103 : decode cL_law 1103 = .ok (.iload_n 3, 1) := by decide +kernel
theorem dL_law_1104 : decode cL_law 1104 = .ok (.iconst 1, 1) := by decide +kernel
theorem dL_law_1105 : decode cL_law 1105 = .ok (.iadd, 1) := by decide +kernel
theorem dL_law_1106 : decode cL_law 1106 = .ok (.iaload, 1) := by decide +kernel
theorem dL_law_1107 : decode cL_law 1107 = .ok (.invokevirtual 132, 3) := by decide +kernel
theorem dL_law_1110 : decode cL_law 1110 = .ok (.if_icmp .eq 5, 3) := by decide +kernel
theorem dL_law_1113 : decode cL_law 1113 = .ok (.iconst 0, 1) := by decide +kernel
theorem dL_law_1114 : decode cL_law 1114 = .ok (.ireturn, 1) := by decide +kernel
theorem dL_law_1115 : decode cL_law 1115 = .ok (.iinc 3 6, 3) := by decide +kernel
theorem dL_law_1118 : decode cL_law 1118 = .ok (.goto (-1100), 3) := by decide +kernel
theorem dL_law_1121 : decode cL_law 1121 = .ok (.iconst 1, 1) := by decide +kernel
theorem dL_law_1122 : decode cL_law 1122 = .ok (.ireturn, 1) := by decide +kernel
end
section
/-- a group of cells: the cell, the place in it, the number there -/
abbrev Gp : Type := Nat → Nat → Int32
def u2 (S : Gp) (c i : Nat) (v : Int32) : Gp := fun c' => if c' = c then (fun i' => if i' = i then v else S c i') else S c'
/-- a whole cell anew -/
def uc (S : Gp) (c : Nat) (f : Nat → Int32) : Gp := fun c' => if c' = c then f else S c'
section BND
variable {α β δ γ ε ζ η θ : Type}
def bd1 (x : Option α) (k : α → Option γ) : Option γ := match x with | some a => k a | none => none
def bd2 (x : Option (α × β)) (k : α → β → Option γ) : Option γ := match x with | some (a, b) => k a b | none => none
def bd3 (x : Option (α × β × δ)) (k : α → β → δ → Option γ) : Option γ := match x with | some (a, b, c) => k a b c | none => none
def bd4 (x : Option (α × β × δ × ε)) (k : α → β → δ → ε → Option γ) : Option γ := match x with | some (a, b, c, d) => k a b c d | none => none
def bd5 (x : Option (α × β × δ × ε × ζ)) (k : α → β → δ → ε → ζ → Option γ) : Option γ := match x with | some (a, b, c, d, e) => k a b c d e | none => none
theorem bd1_e {x : Option α} {k : α → Option γ} {r : γ} (h : bd1 x k = some r) : ∃ a, x = some a ∧ k a = some r := by
  cases x with
  | none => cases h
  | some a => exact ⟨a, rfl, h⟩
theorem bd2_e {x : Option (α × β)} {k : α → β → Option γ} {r : γ} (h : bd2 x k = some r) : ∃ a b, x = some (a, b) ∧ k a b = some r := by
  cases x with
  | none => cases h
  | some a => exact ⟨a.1, a.2, rfl, h⟩
theorem bd3_e {x : Option (α × β × δ)} {k : α → β → δ → Option γ} {r : γ} (h : bd3 x k = some r) : ∃ a b c, x = some (a, b, c) ∧ k a b c = some r := by
  cases x with
  | none => cases h
  | some a => exact ⟨a.1, a.2.1, a.2.2, rfl, h⟩
theorem bd4_e {x : Option (α × β × δ × ε)} {k : α → β → δ → ε → Option γ} {r : γ} (h : bd4 x k = some r) : ∃ a b c d, x = some (a, b, c, d) ∧ k a b c d = some r := by
  cases x with
  | none => cases h
  | some a => exact ⟨a.1, a.2.1, a.2.2.1, a.2.2.2, rfl, h⟩
theorem bd5_e {x : Option (α × β × δ × ε × ζ)} {k : α → β → δ → ε → ζ → Option γ} {r : γ} (h : bd5 x k = some r) : ∃ a b c d e, x = some (a, b, c, d, e) ∧ k a b c d e = some r := by
  cases x with
  | none => cases h
  | some a => exact ⟨a.1, a.2.1, a.2.2.1, a.2.2.2.1, a.2.2.2.2, rfl, h⟩
theorem it_p {c : Prop} [Decidable c] {a b r : α} (h : (if c then a else b) = r) (hc : c) : a = r := (if_pos hc).symm.trans h
theorem it_n {c : Prop} [Decidable c] {a b r : α} (h : (if c then a else b) = r) (hc : ¬ c) : b = r := (if_neg hc).symm.trans h
theorem it_g {c : Prop} [Decidable c] {a : Option α} {r : α} (h : (if c then a else none) = some r) : c ∧ a = some r := by
  by_cases hc : c
  · exact ⟨hc, (if_pos hc).symm.trans h⟩
  · rw [if_neg hc] at h; cases h
theorem no_f {p : Prop} {r : α} (h : (none : Option α) = some r) : p := by cases h
end BND
/-- an index within, as what a program decides -/
abbrev ix (i : Int32) (n : Nat) : Prop := ¬ (i < 0 ∨ n ≤ i.toNatClampNeg)
/-- the words of the tables that a method may take with it -/
def bw : List Cond := lw_tbl.filter goodWord
theorem bw_in : ∀ w ∈ bw, w ∈ lw_tbl := fun _ h => (List.mem_filter.mp h).1
theorem bw_mem {w : Cond} (h : w ∈ lw_tbl) (g : goodWord w = true) : w ∈ bw := List.mem_filter.mpr ⟨h, g⟩
theorem bw_gi {c : Cond} {ws : List Cond} (h : ∀ w ∈ ws, w ∈ bw) : GoodIn (c :: bw) ws := fun w hw => ⟨List.mem_cons_of_mem _ (h w hw), good_of_word (List.mem_filter.mp (h w hw)).2⟩
theorem bw_c {c : Cond} (h : c ∈ bw) : ∀ w ∈ c :: bw, w ∈ bw := fun w hw => (List.mem_cons.mp hw).elim (fun e => e ▸ h) id
def ev_isN (w : Cond) : Bool := match w with
  | .methodLinkNest .. => true
  | .fieldLinkNest .. => true
  | _ => false
def ev_nw : List Cond := [(Cond.fieldLinkNest "EvenDays$Planner" (53) "EvenDays$Told" "pairs" "I" "EvenDays"),
  (Cond.fieldLinkNest "EvenDays$Lines" (99) "EvenDays$Told" "pairs" "I" "EvenDays"),
  (Cond.fieldLinkNest "EvenDays$Days" (80) "EvenDays$Told" "pairs" "I" "EvenDays"),
  (Cond.fieldLinkNest "EvenDays" (201) "EvenDays$Told" "pairs" "I" "EvenDays"),
  (Cond.fieldLinkNest "EvenDays$Planner" (42) "EvenDays$Told" "hours" "I" "EvenDays"),
  (Cond.fieldLinkNest "EvenDays$Lines" (105) "EvenDays$Told" "hours" "I" "EvenDays"),
  (Cond.fieldLinkNest "EvenDays" (163) "EvenDays$Told" "hours" "I" "EvenDays"),
  (Cond.fieldLinkNest "EvenDays$Days" (83) "EvenDays$Told" "hours" "I" "EvenDays"),
  (Cond.fieldLinkNest "EvenDays$Lines" (119) "EvenDays$Told" "eats" "I" "EvenDays"),
  (Cond.fieldLinkNest "EvenDays$Days" (97) "EvenDays$Told" "eats" "I" "EvenDays"),
  (Cond.fieldLinkNest "EvenDays" (254) "EvenDays$Told" "eats" "I" "EvenDays"),
  (Cond.fieldLinkNest "EvenDays$Lines" (121) "EvenDays$Told" "fine" "I" "EvenDays"),
  (Cond.fieldLinkNest "EvenDays$Days" (107) "EvenDays$Told" "fine" "I" "EvenDays"),
  (Cond.fieldLinkNest "EvenDays" (257) "EvenDays$Told" "fine" "I" "EvenDays"),
  (Cond.methodLinkNest "EvenDays" (21) ({ cls := "EvenDays$Text", name := "<init>", desc := "()V" } : MethodName) "EvenDays"),
  (Cond.fieldLinkNest "EvenDays" (91) "EvenDays$Text" "length" "I" "EvenDays"),
  (Cond.fieldLinkNest "EvenDays$Tokens" (25) "EvenDays$Text" "length" "I" "EvenDays"),
  (Cond.fieldLinkNest "EvenDays$Lines" (42) "EvenDays$Tokens" "begin" "I" "EvenDays"),
  (Cond.fieldLinkNest "EvenDays" (112) "EvenDays$Lines" "read" "I" "EvenDays"),
  (Cond.fieldLinkNest "EvenDays" (154) "EvenDays$Days" "gone" "I" "EvenDays"),
  (Cond.fieldLinkNest "EvenDays" (174) "EvenDays$Days" "bread" "[I" "EvenDays"),
  (Cond.fieldLinkNest "EvenDays" (207) "EvenDays$Planner" "one" "I" "EvenDays"),
  (Cond.fieldLinkNest "EvenDays" (210) "EvenDays$Planner" "other" "I" "EvenDays"),
  (Cond.methodLinkNest "EvenDays" (61) ({ cls := "EvenDays$Messages", name := "<init>", desc := "()V" } : MethodName) "EvenDays"),
  (Cond.methodLinkNest "EvenDays" (68) ({ cls := "EvenDays$Partners", name := "<init>", desc := "()V" } : MethodName) "EvenDays"),
  (Cond.methodLinkNest "EvenDays" (75) ({ cls := "EvenDays$Marriages", name := "<init>", desc := "()V" } : MethodName) "EvenDays"),
  (Cond.methodLinkNest "EvenDays" (82) ({ cls := "EvenDays$Rows", name := "<init>", desc := "()V" } : MethodName) "EvenDays"),
  (Cond.fieldLinkNest "EvenDays" (238) "EvenDays$Rows" "length" "I" "EvenDays"),
  (Cond.methodLinkNest "EvenDays$Lines" (127) ({ cls := "EvenDays", name := "within", desc := "(III)Z" } : MethodName) "EvenDays"),
  (Cond.methodLinkNest "EvenDays$Told" (54) ({ cls := "EvenDays", name := "within", desc := "(III)Z" } : MethodName) "EvenDays"),
  (Cond.methodLinkNest "EvenDays$Lines" (112) ({ cls := "EvenDays", name := "slotIndex", desc := "(III)I" } : MethodName) "EvenDays"),
  (Cond.methodLinkNest "EvenDays$Told" (58) ({ cls := "EvenDays", name := "slotIndex", desc := "(III)I" } : MethodName) "EvenDays"),
  (Cond.methodLinkNest "EvenDays$Days" (40) ({ cls := "EvenDays", name := "slotIndex", desc := "(III)I" } : MethodName) "EvenDays"),
  (Cond.methodLinkNest "EvenDays$Days" (44) ({ cls := "EvenDays", name := "within", desc := "(III)Z" } : MethodName) "EvenDays"),
  (Cond.methodLinkNest "EvenDays$Days" (48) ({ cls := "EvenDays", name := "personIndex", desc := "(II)I" } : MethodName) "EvenDays"),
  (Cond.methodLinkNest "EvenDays$Planner" (26) ({ cls := "EvenDays", name := "within", desc := "(III)Z" } : MethodName) "EvenDays"),
  (Cond.methodLinkNest "EvenDays$Partners" (18) ({ cls := "EvenDays", name := "within", desc := "(III)Z" } : MethodName) "EvenDays"),
  (Cond.methodLinkNest "EvenDays$Marriages" (31) ({ cls := "EvenDays", name := "within", desc := "(III)Z" } : MethodName) "EvenDays")]
theorem ev_nw_ok : ev_nw.all ev_isN = true := by decide +kernel
def ev_N (U : State) : Prop := ∀ w ∈ ev_nw, va_Nw w U
theorem ev_N_warm {s U : State} (hW : s.WarmedH U.vm) (h : ev_N s) : ev_N U := by
  intro w hw
  have hn := List.all_eq_true.mp ev_nw_ok w hw
  have h1 := h w hw
  match w, hn, h1 with
  | .methodLinkNest .., _, h1 => exact va_Nw.warmM hW h1
  | .fieldLinkNest .., _, h1 => exact va_Nw.warmF hW h1
theorem ev_N_same {u U : State} (hv : u.vm = U.vm) (h : ev_N u) : ev_N U := by
  intro w hw
  have hn := List.all_eq_true.mp ev_nw_ok w hw
  have h1 := h w hw
  match w, hn, h1 with
  | .methodLinkNest .., _, h1 => exact va_Nw.same rfl hv h1
  | .fieldLinkNest .., _, h1 => exact va_Nw.same rfl hv h1
/-- what stays the same in a run: the classes' numbers and slots; the classes of int[], boolean[], EvenDays$Days[]; the cells of KIND_ABOVE, of the formatter, of the six words and their bytes -/
abbrev evG : Type := va_G × (ClassId × ClassId × ClassId) × (Nat × Nat) × ((Nat → Nat) × (Nat → Nat))
abbrev gI (g : evG) : ClassId := g.2.1.1
abbrev gZ (g : evG) : ClassId := g.2.1.2.1
abbrev gO (g : evG) : ClassId := g.2.1.2.2
abbrev gKA (g : evG) : Nat := g.2.2.1.1
abbrev gFM (g : evG) : Nat := g.2.2.1.2
abbrev gSK (g : evG) : Nat → Nat := g.2.2.2.1
abbrev gSV (g : evG) : Nat → Nat := g.2.2.2.2
abbrev tys (g : evG) : List (ClassId × FieldType) := [(gI g, .int), (gZ g, .boolean), (gO g, .object "EvenDays$Days")]
def ev_ka : Nat → Int32 := fun j => ([-1, 0, 0, 1, 3, 1, 2] : List Int32).getD j 0
def ev_sx : Nat → String := fun i => match i with
  | 0 => "treaty" | 1 => "work" | 2 => "kind" | 3 => "meant" | 4 => "eats" | _ => "fine"
def ev_si : Nat → Nat := fun i => ([48, 57, 62, 67, 72, 77] : List Nat).getD i 0
def ev_len : List Nat := [6, 4, 4, 5, 4, 4]
def ev_byt : List (List Int32) := [[116, 114, 101, 97, 116, 121], [119, 111, 114, 107], [107, 105, 110, 100], [109, 101, 97, 110, 116], [101, 97, 116, 115], [102, 105, 110, 101]]
def ev_S (g : evG) (A : Nat → Prop) (U : State) (H : Heap) : Prop :=
  va_Z "EvenDays" "KIND_ABOVE" "[I" (.ref (gKA g)) A U H ∧ va_T .int (gKA g) 7 (fun j => .int (ev_ka j)) A U H ∧ va_Z "java/lang/String" "COMPACT_STRINGS" "Z" (.int 1) A U H ∧ va_Z "jdk/internal/util/Preconditions" "SIOOBE_FORMATTER" "Ljava/util/function/BiFunction;" (.ref (gFM g)) A U H ∧ vk_S 6 ev_len ev_byt (gSK g) (gSV g) A U H ∧ ∀ i : Nat, i < 6 → vk_R "EvenDays$Lines" (ev_si i) (ev_sx i) (gSK g i) U
theorem ev_S_vm {g : evG} {A : Nat → Prop} {u U : State} {H : Heap} (hv : U.vm = u.vm) (h : ev_S g A u H) : ev_S g A U H := by
  obtain ⟨h1, h2, h3, h4, h5, h6⟩ := h
  have ha : u.vm.Alike U.vm := by rw [hv]; exact Vm.Alike.refl _
  exact ⟨h1.moved ha, h2.moved ha, h3.moved ha, h4.moved ha, h5.moved ha, fun i hi => vk_R.same hv (h6 i hi)⟩
theorem ev_S_call {g : evG} {A A1 : Nat → Prop} {s U : State} {H : Heap} {locs : List Loc} (h : ev_S g A s s.heap) (hS : va_S A s.heap H locs) (hW : s.WarmedH U.vm) (hU : U.heap = H) (hA1 : ∀ q, A1 q → A q) : ev_S g A1 U U.heap := by
  obtain ⟨h1, h2, h3, h4, h5, h6⟩ := h
  rw [hU]
  exact ⟨((h1.kept hS.2.1).narrow hA1).moved hW.alike, ((h2.kept hS.2.1).narrow hA1).moved hW.alike, ((h3.kept hS.2.1).narrow hA1).moved hW.alike, ((h4.kept hS.2.1).narrow hA1).moved hW.alike, ((h5.kept hS.2.1).narrow hA1).moved hW.alike, fun i hi => (h6 i hi).warm hW⟩
/-- how a method begins: the world ws, of which alone (and of new cells) it may write -/
def ctB (g : evG) (ws : va_W) (sz : Nat) (U : State) : Prop := U.heap.size = sz ∧ va_P g.1 vwCl ws U.heap ∧ va_K g.1 vwCl (tys g) U ∧ va_D (fun _ => True) ws ∧ ev_N U ∧ ev_S g (va_A ws sz) U U.heap
theorem ctB_blind {g : evG} {ws : va_W} {sz : Nat} {As : List Value} : FrameBlind (va_Pc As (ctB g ws sz)) := by
  intro a U gg mk q
  obtain ⟨q0, q1, qP, qK, qD, qN, qS⟩ := q
  exact ⟨q0, q1, qP, va_K.moved (u := U) (U := U.calling gg mk a) (Vm.Alike.refl U.vm) qK, qD, ev_N_same (u := U) rfl qN, ev_S_vm (u := U) rfl qS⟩
abbrev rmK (fr lo : Nat) : Room := { frames := fr, cells := 0, slots := 0, locals := lo }
abbrev Qi (g : evG) (A : Nat → Prop) (ws' : va_W) (r : Int32) : Array Value → State → Outcome → State → Prop := va_Qi (fun (r' : Int32) (_ : Unit) => r' = r) (fun _ t => va_P g.1 vwCl ws' t.heap) A
abbrev Qv (g : evG) (A : Nat → Prop) (ws' : va_W) : Array Value → State → Outcome → State → Prop := va_Qv (fun (_ : Unit) => True) (fun _ t => va_P g.1 vwCl ws' t.heap) A
/-- a method that makes nothing: its world is ws', its answer r -/
def CTi (l : Launch) (g : evG) (y : MethodName) (cw : Cond) (fr lo : Nat) (As : List Value) (ws ws' : va_W) (r : Int32) : Prop :=
  ∀ sz : Nat, Met l y (cw :: bw) (rmK fr lo) (va_Pc As (ctB g ws sz)) (Qi g (va_A ws sz) ws' r) 0 0 (va_A ws sz)
def CTv (l : Launch) (g : evG) (y : MethodName) (cw : Cond) (fr lo : Nat) (As : List Value) (ws ws' : va_W) : Prop :=
  ∀ sz : Nat, Met l y (cw :: bw) (rmK fr lo) (va_Pc As (ctB g ws sz)) (Qv g (va_A ws sz) ws') 0 0 (va_A ws sz)
/-- inside a method -/
def ctx (g : evG) (p : Program) (s : State) (m : MethodId) (args : Array Value) (meth : Method) (c : Code) (own : String) (cc : ByteArray) (nL : Nat) (ret : Option FieldType) (A : Nat → Prop) : Prop :=
  p.tables.exec = Jvm.exec ∧ c.code = cc ∧ c.maxLocals = nL ∧ s.vm.findClass own = some m.cls ∧ (∀ w ∈ bw, w.before args s = true) ∧ meth.locks = false ∧ meth.sig.returnType = ret ∧ va_K g.1 vwCl (tys g) s ∧ (∀ q : Nat, s.heap.size ≤ q → A q) ∧ ev_N s ∧ ev_S g A s s.heap
/-- the world at a point in it -/
def wl (g : evG) (A : Nat → Prop) (H0 : Heap) (ws : va_W) (H : Heap) (locs : List Loc) : Prop := va_P g.1 vwCl ws H ∧ va_D A ws ∧ va_S A H0 H locs
theorem wl.eq {g : evG} {A : Nat → Prop} {H0 : Heap} {ws ws' : va_W} {H : Heap} {locs : List Loc} (h : wl g A H0 ws H locs) (e : ws = ws') : wl g A H0 ws' H locs := e ▸ h
/-- new cells in their places -/
def putAt (ws : va_W) : List Nat → va_W → va_W
  | i :: is, q :: qs => putAt (ws.set i q) is qs
  | _, _ => ws
end
section
theorem putAt_spec : ∀ (is : List Nat) (qs ws : va_W), is.length = qs.length → va_nd is = true → ∀ (k : Nat) (q : Nat × va_E), (putAt ws is qs)[k]? = some q → (k ∉ is ∧ ws[k]? = some q) ∨ ∃ j : Nat, is[j]? = some k ∧ qs[j]? = some q
  | [], [], ws, _, _, k, q, h => Or.inl ⟨List.not_mem_nil, h⟩
  | [], _ :: _, _, hl, _, _, _, _ => by simp at hl
  | _ :: _, [], _, hl, _, _, _, _ => by simp at hl
  | i :: is, q0 :: qs, ws, hl, hn, k, q, h => by
    simp only [va_nd, Bool.and_eq_true, decide_eq_true_eq] at hn
    rcases putAt_spec is qs (ws.set i q0) (by simpa using hl) hn.2 k q h with ⟨h1, h2⟩ | ⟨j, h1, h2⟩
    · by_cases hk : i = k
      · subst hk
        have hlt : i < ws.length := by
          have := (List.getElem?_eq_some_iff.mp h2).1
          simpa using this
        rw [List.getElem?_set_self hlt] at h2
        exact Or.inr ⟨0, rfl, h2⟩
      · rw [List.getElem?_set_ne hk] at h2
        exact Or.inl ⟨fun hm => (List.mem_cons.mp hm).elim (fun e => hk e.symm) h1, h2⟩
    · exact Or.inr ⟨j + 1, h1, h2⟩
theorem map_at {ws wc : va_W} {is : List Nat} (hC : is.map (fun i => ws[i]?) = wc.map some) {k : Nat} {q : Nat × va_E} (h : wc[k]? = some q) : ∃ i, is[k]? = some i ∧ ws[i]? = some q := by
  have h1 : (is.map (fun i => ws[i]?))[k]? = some (some q) := by rw [hC, List.getElem?_map, h]; rfl
  rw [List.getElem?_map] at h1
  cases hi : is[k]? with
  | none => rw [hi] at h1; cases h1
  | some i => rw [hi] at h1; exact ⟨i, rfl, Option.some.inj h1⟩
theorem map_ta {ws wc : va_W} {is : List Nat} (hC : is.map (fun i => ws[i]?) = wc.map some) {k i : Nat} (h : is[k]? = some i) : ∃ q, wc[k]? = some q ∧ ws[i]? = some q := by
  have h1 : (is.map (fun i => ws[i]?))[k]? = some (ws[i]?) := by rw [List.getElem?_map, h]; rfl
  rw [hC, List.getElem?_map] at h1
  cases hi : wc[k]? with
  | none => rw [hi] at h1; cases h1
  | some q => rw [hi] at h1; exact ⟨q, rfl, (Option.some.inj h1).symm⟩
theorem wl_P {D : va_G} {cl : List vw_C} {ws wc : va_W} {H : Heap} {is : List Nat} (hP : va_P D cl ws H) (hC : is.map (fun i => ws[i]?) = wc.map some) : va_P D cl wc H := fun k q hk => by
  obtain ⟨i, _, h⟩ := map_at hC hk
  exact hP i q h
theorem fst_at {wc wc' : va_W} (ha : wc'.map Prod.fst = wc.map Prod.fst) {j : Nat} {q : Nat × va_E} (h : wc'[j]? = some q) {q2 : Nat × va_E} (h2 : wc[j]? = some q2) : q2.1 = q.1 := by
  have h3 : (wc'.map Prod.fst)[j]? = some q.1 := by rw [List.getElem?_map, h]; rfl
  rw [ha, List.getElem?_map, h2] at h3
  exact Option.some.inj h3
theorem wl_call {g : evG} {A : Nat → Prop} {H0 H H1 : Heap} {ws wc wc' : va_W} {locs locs1 : List Loc} {is : List Nat} (w : wl g A H0 ws H locs) (hC : is.map (fun i => ws[i]?) = wc.map some) (hn : va_nd is = true) (ha : wc'.map Prod.fst = wc.map Prod.fst)
    (hP1 : va_P g.1 vwCl wc' H1) (hk : ∀ q : Nat, q < H.size → ¬ va_A wc H.size q → H1[q]? = H[q]?) (hS1 : va_S A H0 H1 locs1) : wl g A H0 (putAt ws is wc') H1 locs1 := by
  obtain ⟨hP, hD, _⟩ := w
  have hlen : is.length = wc'.length := by
    have h1 := congrArg List.length hC
    have h2 := congrArg List.length ha
    simp only [List.length_map] at h1 h2
    omega
  have key : ∀ (k : Nat) (q : Nat × va_E), (putAt ws is wc')[k]? = some q → ∃ q2, ws[k]? = some q2 ∧ q2.1 = q.1 := by
    intro k q h
    rcases putAt_spec is wc' ws hlen hn k q h with ⟨_, h2⟩ | ⟨j, h1, h2⟩
    · exact ⟨q, h2, rfl⟩
    · obtain ⟨q2, h3, h4⟩ := map_ta hC h1
      exact ⟨q2, h4, fst_at ha h2 h3⟩
  refine ⟨fun k q h => ?_, ⟨fun i j x y hi hj hxy => ?_, fun k q h => ?_⟩, hS1⟩
  · rcases putAt_spec is wc' ws hlen hn k q h with ⟨h1, h2⟩ | ⟨j, h1, h2⟩
    · have hl := (hP k q h2).lt
      refine (hP k q h2).kept (hk q.1 hl fun hA => ?_)
      rcases hA with ⟨k2, e, h3⟩ | h3
      · obtain ⟨i, h4, h5⟩ := map_at hC h3
        have := hD.1 k i q (q.1, e) h2 h5 rfl
        subst this
        exact h1 (List.mem_of_getElem? h4)
      · omega
    · exact hP1 j q h2
  · obtain ⟨x2, h1, h2⟩ := key i x hi
    obtain ⟨y2, h3, h4⟩ := key j y hj
    exact hD.1 i j x2 y2 h1 h3 (h2.trans (hxy.trans h4.symm))
  · obtain ⟨q2, h1, h2⟩ := key k q h
    rw [← h2]
    exact hD.2 k q2 h1
/-- of a class: its row in the list of classes, its fields' words, types, names -/
def clF (ci : Nat) (Cn : String) (T : u_T) (N : Nat) (ty0 : Nat → FieldType) : Prop := vwCl[ci]? = some (Cn, T, N) ∧ (∀ w ∈ u_ws Cn T N, w ∈ bw) ∧ (∀ k, k < N → parseFieldDescriptor (T k).2.2.1 = some (ty0 k)) ∧ ∀ a, a < N → ∀ b, b < N → a ≠ b → (T a).2.1 ≠ (T b).2.1
/-- of a method that is called: its code, its head, its words -/
def mdV (y : MethodName) (cw : Cond) (bytes : ByteArray) (maxL : Nat) (rt : Option FieldType) (n : Nat) : Prop := cw = Cond.code y bytes maxL rt ∧ (y.cls ≠ "java/lang/invoke/MethodHandle" ∧ y.cls ≠ "java/lang/invoke/VarHandle" ∧ (parseMethodDescriptor y.desc).map (fun d => d.parameters.length) = some n) ∧ Cond.instanceMethod y ∈ bw ∧ Cond.selects y.cls y y ∈ bw ∧ Cond.initialized y.cls ∈ bw ∧ cw ∈ bw
def mdS (y : MethodName) (cw : Cond) (bytes : ByteArray) (maxL : Nat) (rt : Option FieldType) (n : Nat) : Prop := cw = Cond.code y bytes maxL rt ∧ (y.cls ≠ "java/lang/invoke/MethodHandle" ∧ y.cls ≠ "java/lang/invoke/VarHandle" ∧ (parseMethodDescriptor y.desc).map (fun d => d.parameters.length) = some n) ∧ Cond.static y ∈ bw ∧ Cond.initialized y.cls ∈ bw ∧ cw ∈ bw
section ROWS
variable {l : Launch} {g : evG} {p : Program} {e : Env} {R : Room} {s : State} {m : MethodId} {args : Array Value} {below : List Frame} {meth : Method} {c : Code} {own : String} {cc : ByteArray} {nL : Nat} {ret : Option FieldType} {A : Nat → Prop}
variable {ws : va_W} {H : Heap} {locs : List Loc} {cells slots : Nat} {Q : State → Prop} {pc : Nat} {ls : Array Slot} {rest st : List Value}
theorem r_pre (C : ctx g p s m args meth c own cc nL ret A) (w : wl g A s.heap ws H locs) {wc : va_W} {is : List Nat} (hC : is.map (fun i => ws[i]?) = wc.map some) (hn : va_nd is = true) {As : List Value} : ∀ U : State, U.heap = H → s.WarmedH U.vm → va_Pc As (ctB g wc H.size) As.toArray U := by
  intro U hU hW
  obtain ⟨hx, hb, hml, hown, hts, hlk, hr, hK, hA, hN, hE⟩ := C
  have hF := va_free w.2.1 w.2.2 hA is hC
  exact ⟨rfl, by rw [hU], by rw [hU]; exact wl_P w.1 hC, va_K.moved hW.alike hK, (va_D.sub w.2.1 is hn hC).weaken (fun _ _ _ _ => trivial), ev_N_warm hW hN, ev_S_call hE w.2.2 hW hU hF⟩
theorem r_callVi (C : ctx g p s m args meth c own cc nL ret A) (w : wl g A s.heap ws H locs) {y : MethodName} {cw : Cond} {bytes : ByteArray} {maxL n fr lo : Nat} {rt : Option FieldType} {b : Nat} {As : List Value} {wc wc' : va_W} {r : Int32}
    (hM : CTi l g y cw fr lo (.ref b :: As) wc wc' r) (md : mdV y cw bytes maxL rt n) (is : List Nat) (hC : is.map (fun i => ws[i]?) = wc.map some) (hn : va_nd is = true) (ha : wc'.map Prod.fst = wc.map Prod.fst) {index : Nat} (hl : Cond.methodLink own index y ∈ bw)
    (q0 : Nat) {ci : Nat} {fs : List Value} (hrv : ws[q0]? = some (b, .inr (ci, fs))) {T : u_T} {N : Nat} (hcl : vwCl[ci]? = some (y.cls, T, N)) (hR : fr + 1 ≤ R.frames ∧ 8 + (maxL + 11) + lo ≤ R.locals) (hcs : cells ≤ R.cells ∧ slots ≤ R.slots) (hsz : ls.size = nL) (hAs : As.length = n) (hst : st = As.reverse ++ .ref b :: rest) (hrm : (rest.map fun v => v.category).sum ≤ 8) (hdg : decode cc pc = .ok (.invokevirtual index, 3))
    (kk : ∀ (H1 : Heap) (locs1 : List Loc), wl g A s.heap (putAt ws is wc') H1 locs1 → W p l e R s m args below meth c H1 locs1 cells slots Q (F0 m (pc + 3) ls (.int r :: rest))) : W p l e R s m args below meth c H locs cells slots Q (F0 m pc ls st) := by
  obtain ⟨hx, hb, hml, hown, hts, hlk, hr, hK, hA, hN, hE⟩ := id C
  obtain ⟨hcw, hd, hin, hse, hini, hcd⟩ := md
  have hF := va_free w.2.1 w.2.2 hA is hC
  refine va_calli (va_runV (As := As) (rest := rest) (n := n) (maxL := maxL) (ret := rt) (bytes := bytes) ⟨hx, hb, hml, hown, hts⟩ (hM H.size) ⟨⟨rfl, rfl, hR.1, hR.2, pay_in hts (fun v hv => ?_), by rw [hcw]; exact List.mem_cons_self, by rw [← hcw]; exact hts _ hcd, hts _ hini, ⟨hd.1, hd.2.1⟩, fun sig h => ?_, hts _ hl⟩, hts _ hin, hts _ hse⟩ ⟨ctB_blind, va_recv hK w.1 hcl hrv, r_pre C w hC hn⟩ rfl hAs hsz hst (lv_room hrm) hdg hcs) w.2.2 (fun q _ h => hF q h) hF (fun r_1 u t H1 locs1 ht hvm hw hB hz1 hk1 hS => ?_)
  · have h1 := bw_gi (c := cw) (bw_c hcd) v hv
    exact ⟨bw_c hcd v hv, h1.2⟩
  · have h2 := hd.2.2
    rw [h] at h2
    exact (Option.some.inj h2).symm
  · have hw : r_1 = r := hw
    subst hw
    rw [ht] at hB
    exact kk H1 locs1 (wl_call w hC hn ha hB hk1 hS)
theorem r_callVv (C : ctx g p s m args meth c own cc nL ret A) (w : wl g A s.heap ws H locs) {y : MethodName} {cw : Cond} {bytes : ByteArray} {maxL n fr lo : Nat} {rt : Option FieldType} {b : Nat} {As : List Value} {wc wc' : va_W}
    (hM : CTv l g y cw fr lo (.ref b :: As) wc wc') (md : mdV y cw bytes maxL rt n) (is : List Nat) (hC : is.map (fun i => ws[i]?) = wc.map some) (hn : va_nd is = true) (ha : wc'.map Prod.fst = wc.map Prod.fst) {index : Nat} (hl : Cond.methodLink own index y ∈ bw)
    (q0 : Nat) {ci : Nat} {fs : List Value} (hrv : ws[q0]? = some (b, .inr (ci, fs))) {T : u_T} {N : Nat} (hcl : vwCl[ci]? = some (y.cls, T, N)) (hR : fr + 1 ≤ R.frames ∧ 8 + (maxL + 11) + lo ≤ R.locals) (hcs : cells ≤ R.cells ∧ slots ≤ R.slots) (hsz : ls.size = nL) (hAs : As.length = n) (hst : st = As.reverse ++ .ref b :: rest) (hrm : (rest.map fun v => v.category).sum ≤ 8) (hdg : decode cc pc = .ok (.invokevirtual index, 3))
    (kk : ∀ (H1 : Heap) (locs1 : List Loc), wl g A s.heap (putAt ws is wc') H1 locs1 → W p l e R s m args below meth c H1 locs1 cells slots Q (F0 m (pc + 3) ls rest)) : W p l e R s m args below meth c H locs cells slots Q (F0 m pc ls st) := by
  obtain ⟨hx, hb, hml, hown, hts, hlk, hr, hK, hA, hN, hE⟩ := id C
  obtain ⟨hcw, hd, hin, hse, hini, hcd⟩ := md
  have hF := va_free w.2.1 w.2.2 hA is hC
  refine va_callv (va_runV (As := As) (rest := rest) (n := n) (maxL := maxL) (ret := rt) (bytes := bytes) ⟨hx, hb, hml, hown, hts⟩ (hM H.size) ⟨⟨rfl, rfl, hR.1, hR.2, pay_in hts (fun v hv => ?_), by rw [hcw]; exact List.mem_cons_self, by rw [← hcw]; exact hts _ hcd, hts _ hini, ⟨hd.1, hd.2.1⟩, fun sig h => ?_, hts _ hl⟩, hts _ hin, hts _ hse⟩ ⟨ctB_blind, va_recv hK w.1 hcl hrv, r_pre C w hC hn⟩ rfl hAs hsz hst (lv_room hrm) hdg hcs) w.2.2 (fun q _ h => hF q h) hF (fun u t H1 locs1 ht hvm hw hB hz1 hk1 hS => ?_)
  · have h1 := bw_gi (c := cw) (bw_c hcd) v hv
    exact ⟨bw_c hcd v hv, h1.2⟩
  · have h2 := hd.2.2
    rw [h] at h2
    exact (Option.some.inj h2).symm
  · rw [ht] at hB
    exact kk H1 locs1 (wl_call w hC hn ha hB hk1 hS)
theorem r_callSi (C : ctx g p s m args meth c own cc nL ret A) (w : wl g A s.heap ws H locs) {y : MethodName} {cw : Cond} {bytes : ByteArray} {maxL n fr lo : Nat} {rt : Option FieldType} {As : List Value} {wc wc' : va_W} {r : Int32}
    (hM : CTi l g y cw fr lo As wc wc' r) (md : mdS y cw bytes maxL rt n) (is : List Nat) (hC : is.map (fun i => ws[i]?) = wc.map some) (hn : va_nd is = true) (ha : wc'.map Prod.fst = wc.map Prod.fst) {index : Nat} (hl : Cond.methodLink own index y ∈ bw)
    (hR : fr + 1 ≤ R.frames ∧ 8 + (maxL + 11) + lo ≤ R.locals) (hcs : cells ≤ R.cells ∧ slots ≤ R.slots) (hsz : ls.size = nL) (hAs : As.length = n) (hst : st = As.reverse ++ rest) (hrm : (rest.map fun v => v.category).sum ≤ 8) (hdg : decode cc pc = .ok (.invokestatic index, 3))
    (kk : ∀ (H1 : Heap) (locs1 : List Loc), wl g A s.heap (putAt ws is wc') H1 locs1 → W p l e R s m args below meth c H1 locs1 cells slots Q (F0 m (pc + 3) ls (.int r :: rest))) : W p l e R s m args below meth c H locs cells slots Q (F0 m pc ls st) := by
  obtain ⟨hx, hb, hml, hown, hts, hlk, hr, hK, hA, hN, hE⟩ := id C
  obtain ⟨hcw, hd, hin, hini, hcd⟩ := md
  have hF := va_free w.2.1 w.2.2 hA is hC
  refine va_calli (va_runS (As := As) (rest := rest) (n := n) (maxL := maxL) (ret := rt) (bytes := bytes) ⟨hx, hb, hml, hown, hts⟩ (hM H.size) ⟨⟨rfl, rfl, hR.1, hR.2, pay_in hts (fun v hv => ?_), by rw [hcw]; exact List.mem_cons_self, by rw [← hcw]; exact hts _ hcd, hts _ hini, ⟨hd.1, hd.2.1⟩, fun sig h => ?_, hts _ hl⟩, hts _ hin⟩ ⟨ctB_blind, r_pre C w hC hn⟩ rfl hAs hsz hst (lv_room hrm) hdg hcs) w.2.2 (fun q _ h => hF q h) hF (fun r_1 u t H1 locs1 ht hvm hw hB hz1 hk1 hS => ?_)
  · have h1 := bw_gi (c := cw) (bw_c hcd) v hv
    exact ⟨bw_c hcd v hv, h1.2⟩
  · have h2 := hd.2.2
    rw [h] at h2
    exact (Option.some.inj h2).symm
  · have hw : r_1 = r := hw
    subst hw
    rw [ht] at hB
    exact kk H1 locs1 (wl_call w hC hn ha hB hk1 hS)
theorem r_callSv (C : ctx g p s m args meth c own cc nL ret A) (w : wl g A s.heap ws H locs) {y : MethodName} {cw : Cond} {bytes : ByteArray} {maxL n fr lo : Nat} {rt : Option FieldType} {As : List Value} {wc wc' : va_W}
    (hM : CTv l g y cw fr lo As wc wc') (md : mdS y cw bytes maxL rt n) (is : List Nat) (hC : is.map (fun i => ws[i]?) = wc.map some) (hn : va_nd is = true) (ha : wc'.map Prod.fst = wc.map Prod.fst) {index : Nat} (hl : Cond.methodLink own index y ∈ bw)
    (hR : fr + 1 ≤ R.frames ∧ 8 + (maxL + 11) + lo ≤ R.locals) (hcs : cells ≤ R.cells ∧ slots ≤ R.slots) (hsz : ls.size = nL) (hAs : As.length = n) (hst : st = As.reverse ++ rest) (hrm : (rest.map fun v => v.category).sum ≤ 8) (hdg : decode cc pc = .ok (.invokestatic index, 3))
    (kk : ∀ (H1 : Heap) (locs1 : List Loc), wl g A s.heap (putAt ws is wc') H1 locs1 → W p l e R s m args below meth c H1 locs1 cells slots Q (F0 m (pc + 3) ls rest)) : W p l e R s m args below meth c H locs cells slots Q (F0 m pc ls st) := by
  obtain ⟨hx, hb, hml, hown, hts, hlk, hr, hK, hA, hN, hE⟩ := id C
  obtain ⟨hcw, hd, hin, hini, hcd⟩ := md
  have hF := va_free w.2.1 w.2.2 hA is hC
  refine va_callv (va_runS (As := As) (rest := rest) (n := n) (maxL := maxL) (ret := rt) (bytes := bytes) ⟨hx, hb, hml, hown, hts⟩ (hM H.size) ⟨⟨rfl, rfl, hR.1, hR.2, pay_in hts (fun v hv => ?_), by rw [hcw]; exact List.mem_cons_self, by rw [← hcw]; exact hts _ hcd, hts _ hini, ⟨hd.1, hd.2.1⟩, fun sig h => ?_, hts _ hl⟩, hts _ hin⟩ ⟨ctB_blind, r_pre C w hC hn⟩ rfl hAs hsz hst (lv_room hrm) hdg hcs) w.2.2 (fun q _ h => hF q h) hF (fun u t H1 locs1 ht hvm hw hB hz1 hk1 hS => ?_)
  · have h1 := bw_gi (c := cw) (bw_c hcd) v hv
    exact ⟨bw_c hcd v hv, h1.2⟩
  · have h2 := hd.2.2
    rw [h] at h2
    exact (Option.some.inj h2).symm
  · rw [ht] at hB
    exact kk H1 locs1 (wl_call w hC hn ha hB hk1 hS)
/-- a nest mate's static method -/
theorem r_callNi (C : ctx g p s m args meth c own cc nL ret A) (w : wl g A s.heap ws H locs) {y : MethodName} {cw : Cond} {bytes : ByteArray} {maxL n fr lo : Nat} {rt : Option FieldType} {As : List Value} {wc wc' : va_W} {r : Int32}
    (hM : CTi l g y cw fr lo As wc wc' r) (md : mdS y cw bytes maxL rt n) (is : List Nat) (hC : is.map (fun i => ws[i]?) = wc.map some) (hn : va_nd is = true) (ha : wc'.map Prod.fst = wc.map Prod.fst) {index : Nat} {host : String} (hl : Cond.methodLinkNest own index y host ∈ ev_nw)
    (hR : fr + 1 ≤ R.frames ∧ 8 + (maxL + 11) + lo ≤ R.locals) (hcs : cells ≤ R.cells ∧ slots ≤ R.slots) (hsz : ls.size = nL) (hAs : As.length = n) (hst : st = As.reverse ++ rest) (hrm : (rest.map fun v => v.category).sum ≤ 8) (hdg : decode cc pc = .ok (.invokestatic index, 3))
    (kk : ∀ (H1 : Heap) (locs1 : List Loc), wl g A s.heap (putAt ws is wc') H1 locs1 → W p l e R s m args below meth c H1 locs1 cells slots Q (F0 m (pc + 3) ls (.int r :: rest))) : W p l e R s m args below meth c H locs cells slots Q (F0 m pc ls st) := by
  obtain ⟨hx, hb, hml, hown, hts, hlk, hr, hK, hA, hN, hE⟩ := id C
  obtain ⟨hcw, hd, hin, hini, hcd⟩ := md
  have hF := va_free w.2.1 w.2.2 hA is hC
  refine va_calli (va_runSN (As := As) (rest := rest) (n := n) (maxL := maxL) (ret := rt) (bytes := bytes) ⟨hx, hb, hml, hown, hts⟩ (hM H.size) ⟨⟨⟨rfl, rfl, hR.1, hR.2, pay_in hts (fun v hv => ?_), by rw [hcw]; exact List.mem_cons_self⟩, by rw [← hcw]; exact hts _ hcd, hts _ hini, ⟨hd.1, hd.2.1⟩, fun sig h => ?_, va_Nw.use rfl (hN _ hl)⟩, hts _ hin, trivial⟩ ⟨ctB_blind, r_pre C w hC hn⟩ rfl hAs hsz hst (lv_room hrm) hdg hcs) w.2.2 (fun q _ h => hF q h) hF (fun r_1 u t H1 locs1 ht hvm hw hB hz1 hk1 hS => ?_)
  · have h1 := bw_gi (c := cw) (bw_c hcd) v hv
    exact ⟨bw_c hcd v hv, h1.2⟩
  · have h2 := hd.2.2
    rw [h] at h2
    exact (Option.some.inj h2).symm
  · have hw : r_1 = r := hw
    subst hw
    rw [ht] at hB
    exact kk H1 locs1 (wl_call w hC hn ha hB hk1 hS)
theorem r_get (C : ctx g p s m args meth c own cc nL ret A) (w : wl g A s.heap ws H locs) (q0 : Nat) {a ci N : Nat} {Cn : String} {T : u_T} {ty0 : Nat → FieldType} {fs : List Value} (he : ws[q0]? = some (a, .inr (ci, fs))) (cf : clF ci Cn T N ty0) (k : Nat) (hk : k < N) {index : Nat} (hl : Cond.fieldLink own index (T k).1 (T k).2.1 (T k).2.2.1 ∈ bw) {v : Value} (hv : fs[k]? = some v) (hdg : decode cc pc = .ok (.getfield index, 3))
    (kk : W p l e R s m args below meth c H locs cells slots Q (F0 m (pc + 3) ls (v :: rest))) : W p l e R s m args below meth c H locs cells slots Q (F0 m pc ls (.ref a :: rest)) := by
  obtain ⟨hx, hb, hml, hown, hts, hlk, hr, hK, hA, hN, hE⟩ := C
  exact va_get hx hb hts cf.2.1 hown hK w.1 q0 he cf.1 k hk (hts _ hl) (fun _ h => h) hv hdg kk
theorem r_getN (C : ctx g p s m args meth c own cc nL ret A) (w : wl g A s.heap ws H locs) (q0 : Nat) {a ci N : Nat} {Cn : String} {T : u_T} {ty0 : Nat → FieldType} {fs : List Value} (he : ws[q0]? = some (a, .inr (ci, fs))) (cf : clF ci Cn T N ty0) (k : Nat) (hk : k < N) {index : Nat} {host : String} (hl : Cond.fieldLinkNest own index (T k).1 (T k).2.1 (T k).2.2.1 host ∈ ev_nw) {v : Value} (hv : fs[k]? = some v) (hdg : decode cc pc = .ok (.getfield index, 3))
    (kk : W p l e R s m args below meth c H locs cells slots Q (F0 m (pc + 3) ls (v :: rest))) : W p l e R s m args below meth c H locs cells slots Q (F0 m pc ls (.ref a :: rest)) := by
  obtain ⟨hx, hb, hml, hown, hts, hlk, hr, hK, hA, hN, hE⟩ := C
  exact va_getN hx hb hts cf.2.1 hown hK w.1 q0 he cf.1 k hk (va_Nw.use rfl (hN _ hl)) (fun _ h => h) hv hdg kk
theorem r_puti (C : ctx g p s m args meth c own cc nL ret A) (w : wl g A s.heap ws H locs) (q0 : Nat) {a ci N : Nat} {Cn : String} {T : u_T} {ty0 : Nat → FieldType} {fs : List Value} (he : ws[q0]? = some (a, .inr (ci, fs))) (cf : clF ci Cn T N ty0) (k : Nat) (hk : k < N) {index : Nat} (hl : Cond.fieldLink own index (T k).1 (T k).2.1 (T k).2.2.1 ∈ bw) {x : Int32} (hf : (T k).2.2.2 = false) (hty : ty0 k = .int) (hk2 : k < fs.length) {ws' : va_W} (e1 : ws.set q0 (a, .inr (ci, fs.set k (.int x))) = ws') (hdg : decode cc pc = .ok (.putfield index, 3))
    (kk : ∀ (H1 : Heap) (locs1 : List Loc), wl g A s.heap ws' H1 locs1 → W p l e R s m args below meth c H1 locs1 cells slots Q (F0 m (pc + 3) ls rest)) : W p l e R s m args below meth c H locs cells slots Q (F0 m pc ls (.int x :: .ref a :: rest)) := by
  obtain ⟨hx, hb, hml, hown, hts, hlk, hr, hK, hA, hN, hE⟩ := C
  exact va_put hx hb hts cf.2.1 ty0 cf.2.2.1 cf.2.2.2 hown hK w.1 w.2.1 w.2.2 q0 he cf.1 k hk (hts _ hl) (fun _ h => h) hf ((cf.2.2.1 k hk).trans (congrArg some hty)) rfl rfl hk2 hdg (fun H1 locs1 hP hD hS => kk H1 locs1 (e1 ▸ ⟨hP, hD, hS⟩))
theorem r_putiN (C : ctx g p s m args meth c own cc nL ret A) (w : wl g A s.heap ws H locs) (q0 : Nat) {a ci N : Nat} {Cn : String} {T : u_T} {ty0 : Nat → FieldType} {fs : List Value} (he : ws[q0]? = some (a, .inr (ci, fs))) (cf : clF ci Cn T N ty0) (k : Nat) (hk : k < N) {index : Nat} {host : String} (hl : Cond.fieldLinkNest own index (T k).1 (T k).2.1 (T k).2.2.1 host ∈ ev_nw) {x : Int32} (hf : (T k).2.2.2 = false) (hty : ty0 k = .int) (hk2 : k < fs.length) {ws' : va_W} (e1 : ws.set q0 (a, .inr (ci, fs.set k (.int x))) = ws') (hdg : decode cc pc = .ok (.putfield index, 3))
    (kk : ∀ (H1 : Heap) (locs1 : List Loc), wl g A s.heap ws' H1 locs1 → W p l e R s m args below meth c H1 locs1 cells slots Q (F0 m (pc + 3) ls rest)) : W p l e R s m args below meth c H locs cells slots Q (F0 m pc ls (.int x :: .ref a :: rest)) := by
  obtain ⟨hx, hb, hml, hown, hts, hlk, hr, hK, hA, hN, hE⟩ := C
  exact va_putN hx hb hts cf.2.1 ty0 cf.2.2.1 cf.2.2.2 hown hK w.1 w.2.1 w.2.2 q0 he cf.1 k hk (va_Nw.use rfl (hN _ hl)) (fun _ h => h) hf ((cf.2.2.1 k hk).trans (congrArg some hty)) rfl rfl hk2 hdg (fun H1 locs1 hP hD hS => kk H1 locs1 (e1 ▸ ⟨hP, hD, hS⟩))
theorem r_iald (C : ctx g p s m args meth c own cc nL ret A) (w : wl g A s.heap ws H locs) (q0 : Nat) {a n : Nat} {f : Nat → Int32} (ha : ws[q0]? = some (a, .inl (gI g, n, .inl f))) {i : Int32} (hin : ix i n) (hdg : decode cc pc = .ok (.iaload, 1))
    (kk : W p l e R s m args below meth c H locs cells slots Q (F0 m (pc + 1) ls (.int (f i.toNatClampNeg) :: rest))) : W p l e R s m args below meth c H locs cells slots Q (F0 m pc ls (.int i :: .ref a :: rest)) := by
  obtain ⟨hx, hb, hml, hown, hts, hlk, hr, hK, hA, hN, hE⟩ := C
  exact va_iald hx hb hK w.1 q0 0 ha rfl hin hdg kk
theorem r_zald (C : ctx g p s m args meth c own cc nL ret A) (w : wl g A s.heap ws H locs) (q0 : Nat) {a n : Nat} {f : Nat → Int32} (ha : ws[q0]? = some (a, .inl (gZ g, n, .inl f))) {i : Int32} (hin : ix i n) (hdg : decode cc pc = .ok (.baload, 1))
    (kk : W p l e R s m args below meth c H locs cells slots Q (F0 m (pc + 1) ls (.int (f i.toNatClampNeg) :: rest))) : W p l e R s m args below meth c H locs cells slots Q (F0 m pc ls (.int i :: .ref a :: rest)) := by
  obtain ⟨hx, hb, hml, hown, hts, hlk, hr, hK, hA, hN, hE⟩ := C
  exact va_zald hx hb hK w.1 q0 1 ha rfl hin hdg kk
theorem r_iast (C : ctx g p s m args meth c own cc nL ret A) (w : wl g A s.heap ws H locs) (q0 : Nat) {a n : Nat} {f : Nat → Int32} (ha : ws[q0]? = some (a, .inl (gI g, n, .inl f))) {i x : Int32} (hin : ix i n) {ws' : va_W} (e1 : ws.set q0 (a, .inl (gI g, n, .inl (upd f i.toNatClampNeg x))) = ws') (hdg : decode cc pc = .ok (.iastore, 1))
    (kk : ∀ (H1 : Heap) (locs1 : List Loc), wl g A s.heap ws' H1 locs1 → W p l e R s m args below meth c H1 locs1 cells slots Q (F0 m (pc + 1) ls rest)) : W p l e R s m args below meth c H locs cells slots Q (F0 m pc ls (.int x :: .int i :: .ref a :: rest)) := by
  obtain ⟨hx, hb, hml, hown, hts, hlk, hr, hK, hA, hN, hE⟩ := C
  exact va_iast hx hb hK w.1 w.2.1 w.2.2 q0 0 ha rfl hin hdg (fun H1 locs1 hP hD hS => kk H1 locs1 (e1 ▸ ⟨hP, hD, hS⟩))
theorem r_zast (C : ctx g p s m args meth c own cc nL ret A) (w : wl g A s.heap ws H locs) (q0 : Nat) {a n : Nat} {f : Nat → Int32} (ha : ws[q0]? = some (a, .inl (gZ g, n, .inl f))) {i x : Int32} (hin : ix i n) {ws' : va_W} (e1 : ws.set q0 (a, .inl (gZ g, n, .inl (upd f i.toNatClampNeg (vp_nar .boolean x)))) = ws') (hdg : decode cc pc = .ok (.bastore, 1))
    (kk : ∀ (H1 : Heap) (locs1 : List Loc), wl g A s.heap ws' H1 locs1 → W p l e R s m args below meth c H1 locs1 cells slots Q (F0 m (pc + 1) ls rest)) : W p l e R s m args below meth c H locs cells slots Q (F0 m pc ls (.int x :: .int i :: .ref a :: rest)) := by
  obtain ⟨hx, hb, hml, hown, hts, hlk, hr, hK, hA, hN, hE⟩ := C
  exact va_zast hx hb hK w.1 w.2.1 w.2.2 q0 1 ha rfl hin hdg (fun H1 locs1 hP hD hS => kk H1 locs1 (e1 ▸ ⟨hP, hD, hS⟩))
/-- the ends -/
theorem r_iret (C : ctx g p s m args meth c own cc nL (some .int) A) {wo : va_W} (w : wl g A s.heap wo H locs) {v r : Int32} (hv : v = r) (hdg : decode cc pc = .ok (.ireturn, 1)) : W p l e R s m args below meth c H locs 0 0 (MQ below (Qi g A wo r) args s 0 0 A) (F0 m pc ls [.int v]) := by
  obtain ⟨hx, hb, hml, hown, hts, hlk, hr, hK, hA, hN, hE⟩ := C
  subst hv
  exact W.iret hx hb hr (fun t ht hW => ⟨⟨v, (), rfl, rfl, by show va_P g.1 vwCl wo t.heap; rw [ht]; exact w.1⟩, w.2.2.F ht⟩) w.2.2.2.2 hdg
theorem r_zret (C : ctx g p s m args meth c own cc nL (some .boolean) A) {wo : va_W} (w : wl g A s.heap wo H locs) {v r : Int32} (hv : v = r) (hn : vp_nar .boolean v = v) (hdg : decode cc pc = .ok (.ireturn, 1)) : W p l e R s m args below meth c H locs 0 0 (MQ below (Qi g A wo r) args s 0 0 A) (F0 m pc ls [.int v]) := by
  obtain ⟨hx, hb, hml, hown, hts, hlk, hr, hK, hA, hN, hE⟩ := C
  subst hv
  exact W.zret hx hb hr (by rw [show narrow .boolean (.int v) = .int (vp_nar .boolean v) from rfl, hn]) (fun t ht hW => ⟨⟨v, (), rfl, rfl, by show va_P g.1 vwCl wo t.heap; rw [ht]; exact w.1⟩, w.2.2.F ht⟩) w.2.2.2.2 hdg
theorem r_vret (C : ctx g p s m args meth c own cc nL none A) {wo : va_W} (w : wl g A s.heap wo H locs) (hdg : decode cc pc = .ok (.return_, 1)) : W p l e R s m args below meth c H locs 0 0 (MQ below (Qv g A wo) args s 0 0 A) (F0 m pc ls []) := by
  obtain ⟨hx, hb, hml, hown, hts, hlk, hr, hK, hA, hN, hE⟩ := C
  exact W.vret hx hb hr (fun t ht hW => ⟨⟨(), rfl, trivial, by show va_P g.1 vwCl wo t.heap; rw [ht]; exact w.1⟩, w.2.2.F ht⟩) w.2.2.2.2 hdg
end ROWS
/-- a contract from a walk -/
theorem ct_i {l : Launch} {g : evG} {y : MethodName} {cc : ByteArray} {maxL fr lo : Nat} {ret : Option FieldType} {As : List Value} {ws ws' : va_W} {r : Int32} (hy : plainName y.cls = true) (hln : (lg_sl As).length ≤ maxL)
    (k : ∀ (p : Program) (e : Env) (s : State) (m : MethodId) (args : Array Value) (below : List Frame) (meth : Method) (c : Code) (A : Nat → Prop) (ls : Array Slot), ctx g p s m args meth c y.cls cc maxL ret A → wl g A s.heap ws s.heap [] → lv_has ls maxL (lv_args 0 As) → W p l e (rmK fr lo) s m args below meth c s.heap [] 0 0 (MQ below (Qi g A ws' r) args s 0 0 A) (F0 m 0 ls [])) : CTi l g y (Cond.code y cc maxL ret) fr lo As ws ws' r := by
  intro sz
  refine Met.ofW (cc := cc) (maxL := maxL) (ret := ret) hy rfl ?_
  intro p e s m args below meth c s₁ B hml hv
  obtain ⟨rfl, hsz, hP, hK, hD0, hN, hE⟩ := hv
  subst hsz
  have hts := atoms_spec (ws := Cond.code y cc maxL ret :: bw) B.pre
  have hown : s.vm.findClass y.cls = some m.cls := findClass_of_methodNamed B.named
  have hl := lv_entry As (n := maxL) hln
  rw [lg_entry_eq]
  exact k p e s m _ below meth c (va_A ws s.heap.size) _ ⟨B.exec, B.bytes, hml, hown, fun w hw => hts w (List.mem_cons_of_mem _ hw), B.notSynchronized, B.returns, hK, fun q h => Or.inr h, hN, hE⟩ ⟨hP, hD0.self, va_S.rf⟩ hl
theorem ct_v {l : Launch} {g : evG} {y : MethodName} {cc : ByteArray} {maxL fr lo : Nat} {As : List Value} {ws ws' : va_W} (hy : plainName y.cls = true) (hln : (lg_sl As).length ≤ maxL)
    (k : ∀ (p : Program) (e : Env) (s : State) (m : MethodId) (args : Array Value) (below : List Frame) (meth : Method) (c : Code) (A : Nat → Prop) (ls : Array Slot), ctx g p s m args meth c y.cls cc maxL none A → wl g A s.heap ws s.heap [] → lv_has ls maxL (lv_args 0 As) → W p l e (rmK fr lo) s m args below meth c s.heap [] 0 0 (MQ below (Qv g A ws') args s 0 0 A) (F0 m 0 ls [])) : CTv l g y (Cond.code y cc maxL none) fr lo As ws ws' := by
  intro sz
  refine Met.ofW (cc := cc) (maxL := maxL) (ret := none) hy rfl ?_
  intro p e s m args below meth c s₁ B hml hv
  obtain ⟨rfl, hsz, hP, hK, hD0, hN, hE⟩ := hv
  subst hsz
  have hts := atoms_spec (ws := Cond.code y cc maxL none :: bw) B.pre
  have hown : s.vm.findClass y.cls = some m.cls := findClass_of_methodNamed B.named
  have hl := lv_entry As (n := maxL) hln
  rw [lg_entry_eq]
  exact k p e s m _ below meth c (va_A ws s.heap.size) _ ⟨B.exec, B.bytes, hml, hown, fun w hw => hts w (List.mem_cons_of_mem _ hw), B.notSynchronized, B.returns, hK, fun q h => Or.inr h, hN, hE⟩ ⟨hP, hD0.self, va_S.rf⟩ hl
end
