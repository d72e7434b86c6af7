section
-- ===== PART A: goes FIRST, ahead of the names: the tables' words, and 'selects' of the private methods out of them =====
/-- a private method of a class that the tables say can be made, by its rows of tables_1 -/
def lw_okq (q : MethodName × Nat) : Prop := (q.1.cls ≠ "java/lang/invoke/MethodHandle" ∧ q.1.cls ≠ "java/lang/invoke/VarHandle") ∧ Cond.instantiable q.1.cls q.2 ∈ tables_1 ∧ Cond.privateMethod q.1 ∈ tables_1 ∧ Cond.instanceMethod q.1 ∈ tables_1
theorem lw_p0 : lw_okq (⟨"GenerationNames", "noteStateBefore", "()V"⟩, 6) := ⟨⟨by decide +kernel, by decide +kernel⟩, List.mem_of_getElem? (i := 9) (by decide +kernel), List.mem_of_getElem? (i := 133) (by decide +kernel), List.mem_of_getElem? (i := 134) (by decide +kernel)⟩
theorem lw_p1 : lw_okq (⟨"GenerationNames", "recorded", "(I)I"⟩, 6) := ⟨⟨by decide +kernel, by decide +kernel⟩, List.mem_of_getElem? (i := 9) (by decide +kernel), List.mem_of_getElem? (i := 168) (by decide +kernel), List.mem_of_getElem? (i := 169) (by decide +kernel)⟩
theorem lw_p2 : lw_okq (⟨"GenerationNames", "dropOldestState", "()V"⟩, 6) := ⟨⟨by decide +kernel, by decide +kernel⟩, List.mem_of_getElem? (i := 9) (by decide +kernel), List.mem_of_getElem? (i := 175) (by decide +kernel), List.mem_of_getElem? (i := 176) (by decide +kernel)⟩
theorem lw_p3 : lw_okq (⟨"GenerationNames", "carryOutOrders", "()I"⟩, 6) := ⟨⟨by decide +kernel, by decide +kernel⟩, List.mem_of_getElem? (i := 9) (by decide +kernel), List.mem_of_getElem? (i := 422) (by decide +kernel), List.mem_of_getElem? (i := 423) (by decide +kernel)⟩
theorem lw_p4 : lw_okq (⟨"GenerationNames", "carryOutOrder", "(I)I"⟩, 6) := ⟨⟨by decide +kernel, by decide +kernel⟩, List.mem_of_getElem? (i := 9) (by decide +kernel), List.mem_of_getElem? (i := 434) (by decide +kernel), List.mem_of_getElem? (i := 435) (by decide +kernel)⟩
theorem lw_p5 : lw_okq (⟨"GenerationNamesModel", "wholes", "()I"⟩, 12) := ⟨⟨by decide +kernel, by decide +kernel⟩, List.mem_of_getElem? (i := 467) (by decide +kernel), List.mem_of_getElem? (i := 521) (by decide +kernel), List.mem_of_getElem? (i := 522) (by decide +kernel)⟩
theorem lw_p6 : lw_okq (⟨"GenerationNamesModel", "many", "(I)I"⟩, 12) := ⟨⟨by decide +kernel, by decide +kernel⟩, List.mem_of_getElem? (i := 467) (by decide +kernel), List.mem_of_getElem? (i := 525) (by decide +kernel), List.mem_of_getElem? (i := 526) (by decide +kernel)⟩
theorem lw_p7 : lw_okq (⟨"GenerationNamesModel", "of", "(II)I"⟩, 12) := ⟨⟨by decide +kernel, by decide +kernel⟩, List.mem_of_getElem? (i := 467) (by decide +kernel), List.mem_of_getElem? (i := 529) (by decide +kernel), List.mem_of_getElem? (i := 530) (by decide +kernel)⟩
theorem lw_p8 : lw_okq (⟨"GenerationNamesModel", "allHoles", "()I"⟩, 12) := ⟨⟨by decide +kernel, by decide +kernel⟩, List.mem_of_getElem? (i := 467) (by decide +kernel), List.mem_of_getElem? (i := 533) (by decide +kernel), List.mem_of_getElem? (i := 534) (by decide +kernel)⟩
theorem lw_p9 : lw_okq (⟨"GenerationNamesModel", "holes", "(I)I"⟩, 12) := ⟨⟨by decide +kernel, by decide +kernel⟩, List.mem_of_getElem? (i := 467) (by decide +kernel), List.mem_of_getElem? (i := 537) (by decide +kernel), List.mem_of_getElem? (i := 538) (by decide +kernel)⟩
theorem lw_p10 : lw_okq (⟨"GenerationNamesModel", "isHole", "(II)Z"⟩, 12) := ⟨⟨by decide +kernel, by decide +kernel⟩, List.mem_of_getElem? (i := 467) (by decide +kernel), List.mem_of_getElem? (i := 541) (by decide +kernel), List.mem_of_getElem? (i := 542) (by decide +kernel)⟩
theorem lw_p11 : lw_okq (⟨"GenerationNamesModel", "gen", "(III)I"⟩, 12) := ⟨⟨by decide +kernel, by decide +kernel⟩, List.mem_of_getElem? (i := 467) (by decide +kernel), List.mem_of_getElem? (i := 545) (by decide +kernel), List.mem_of_getElem? (i := 546) (by decide +kernel)⟩
theorem lw_p12 : lw_okq (⟨"GenerationNamesModel", "record", "()V"⟩, 12) := ⟨⟨by decide +kernel, by decide +kernel⟩, List.mem_of_getElem? (i := 467) (by decide +kernel), List.mem_of_getElem? (i := 553) (by decide +kernel), List.mem_of_getElem? (i := 554) (by decide +kernel)⟩
theorem lw_p13 : lw_okq (⟨"GenerationNamesModel", "lay", "(III)V"⟩, 12) := ⟨⟨by decide +kernel, by decide +kernel⟩, List.mem_of_getElem? (i := 467) (by decide +kernel), List.mem_of_getElem? (i := 564) (by decide +kernel), List.mem_of_getElem? (i := 565) (by decide +kernel)⟩
theorem lw_p14 : lw_okq (⟨"GenerationNamesModel", "roll", "(I)V"⟩, 12) := ⟨⟨by decide +kernel, by decide +kernel⟩, List.mem_of_getElem? (i := 467) (by decide +kernel), List.mem_of_getElem? (i := 568) (by decide +kernel), List.mem_of_getElem? (i := 569) (by decide +kernel)⟩
theorem lw_p15 : lw_okq (⟨"GenerationNamesModel", "trim", "(I)V"⟩, 12) := ⟨⟨by decide +kernel, by decide +kernel⟩, List.mem_of_getElem? (i := 467) (by decide +kernel), List.mem_of_getElem? (i := 572) (by decide +kernel), List.mem_of_getElem? (i := 573) (by decide +kernel)⟩
def lw_privs_1 : List (MethodName × Nat) := [(⟨"GenerationNames", "noteStateBefore", "()V"⟩, 6), (⟨"GenerationNames", "recorded", "(I)I"⟩, 6), (⟨"GenerationNames", "dropOldestState", "()V"⟩, 6), (⟨"GenerationNames", "carryOutOrders", "()I"⟩, 6), (⟨"GenerationNames", "carryOutOrder", "(I)I"⟩, 6), (⟨"GenerationNamesModel", "wholes", "()I"⟩, 12), (⟨"GenerationNamesModel", "many", "(I)I"⟩, 12), (⟨"GenerationNamesModel", "of", "(II)I"⟩, 12), (⟨"GenerationNamesModel", "allHoles", "()I"⟩, 12), (⟨"GenerationNamesModel", "holes", "(I)I"⟩, 12), (⟨"GenerationNamesModel", "isHole", "(II)Z"⟩, 12), (⟨"GenerationNamesModel", "gen", "(III)I"⟩, 12), (⟨"GenerationNamesModel", "record", "()V"⟩, 12), (⟨"GenerationNamesModel", "lay", "(III)V"⟩, 12), (⟨"GenerationNamesModel", "roll", "(I)V"⟩, 12), (⟨"GenerationNamesModel", "trim", "(I)V"⟩, 12)]
theorem lw_r1 : ∀ q ∈ lw_privs_1, lw_okq q := List.forall_mem_cons.mpr ⟨lw_p0, List.forall_mem_cons.mpr ⟨lw_p1, List.forall_mem_cons.mpr ⟨lw_p2, List.forall_mem_cons.mpr ⟨lw_p3, List.forall_mem_cons.mpr ⟨lw_p4, List.forall_mem_cons.mpr ⟨lw_p5, List.forall_mem_cons.mpr ⟨lw_p6, List.forall_mem_cons.mpr ⟨lw_p7, List.forall_mem_cons.mpr ⟨lw_p8, List.forall_mem_cons.mpr ⟨lw_p9, List.forall_mem_cons.mpr ⟨lw_p10, List.forall_mem_cons.mpr ⟨lw_p11, List.forall_mem_cons.mpr ⟨lw_p12, List.forall_mem_cons.mpr ⟨lw_p13, List.forall_mem_cons.mpr ⟨lw_p14, List.forall_mem_cons.mpr ⟨lw_p15, fun _ h => absurd h List.not_mem_nil⟩⟩⟩⟩⟩⟩⟩⟩⟩⟩⟩⟩⟩⟩⟩⟩
theorem lw_p16 : lw_okq (⟨"GenerationNamesModel", "canWrite", "(II)Z"⟩, 12) := ⟨⟨by decide +kernel, by decide +kernel⟩, List.mem_of_getElem? (i := 467) (by decide +kernel), List.mem_of_getElem? (i := 583) (by decide +kernel), List.mem_of_getElem? (i := 584) (by decide +kernel)⟩
theorem lw_p17 : lw_okq (⟨"GenerationNamesModel", "runs", "()Z"⟩, 12) := ⟨⟨by decide +kernel, by decide +kernel⟩, List.mem_of_getElem? (i := 467) (by decide +kernel), List.mem_of_getElem? (i := 587) (by decide +kernel), List.mem_of_getElem? (i := 588) (by decide +kernel)⟩
theorem lw_p18 : lw_okq (⟨"GenerationNamesModel", "told", "(II)I"⟩, 12) := ⟨⟨by decide +kernel, by decide +kernel⟩, List.mem_of_getElem? (i := 467) (by decide +kernel), List.mem_of_getElem? (i := 591) (by decide +kernel), List.mem_of_getElem? (i := 592) (by decide +kernel)⟩
theorem lw_p19 : lw_okq (⟨"GenerationNamesModel", "markOf", "(II)I"⟩, 12) := ⟨⟨by decide +kernel, by decide +kernel⟩, List.mem_of_getElem? (i := 467) (by decide +kernel), List.mem_of_getElem? (i := 595) (by decide +kernel), List.mem_of_getElem? (i := 596) (by decide +kernel)⟩
theorem lw_p20 : lw_okq (⟨"GenerationNamesModel", "placeOf", "(II)I"⟩, 12) := ⟨⟨by decide +kernel, by decide +kernel⟩, List.mem_of_getElem? (i := 467) (by decide +kernel), List.mem_of_getElem? (i := 599) (by decide +kernel), List.mem_of_getElem? (i := 600) (by decide +kernel)⟩
theorem lw_p21 : lw_okq (⟨"GenerationNamesModel", "writeIt", "(III)I"⟩, 12) := ⟨⟨by decide +kernel, by decide +kernel⟩, List.mem_of_getElem? (i := 467) (by decide +kernel), List.mem_of_getElem? (i := 603) (by decide +kernel), List.mem_of_getElem? (i := 604) (by decide +kernel)⟩
theorem lw_p22 : lw_okq (⟨"GenerationNamesModel", "make", "(II)I"⟩, 12) := ⟨⟨by decide +kernel, by decide +kernel⟩, List.mem_of_getElem? (i := 467) (by decide +kernel), List.mem_of_getElem? (i := 607) (by decide +kernel), List.mem_of_getElem? (i := 608) (by decide +kernel)⟩
theorem lw_p23 : lw_okq (⟨"GenerationNamesModel", "layGen", "(IIII)V"⟩, 12) := ⟨⟨by decide +kernel, by decide +kernel⟩, List.mem_of_getElem? (i := 467) (by decide +kernel), List.mem_of_getElem? (i := 611) (by decide +kernel), List.mem_of_getElem? (i := 612) (by decide +kernel)⟩
theorem lw_p24 : lw_okq (⟨"GenerationNamesModel", "readIt", "(II)I"⟩, 12) := ⟨⟨by decide +kernel, by decide +kernel⟩, List.mem_of_getElem? (i := 467) (by decide +kernel), List.mem_of_getElem? (i := 622) (by decide +kernel), List.mem_of_getElem? (i := 623) (by decide +kernel)⟩
theorem lw_p25 : lw_okq (⟨"GenerationNamesModel", "deleteIt", "(II)I"⟩, 12) := ⟨⟨by decide +kernel, by decide +kernel⟩, List.mem_of_getElem? (i := 467) (by decide +kernel), List.mem_of_getElem? (i := 630) (by decide +kernel), List.mem_of_getElem? (i := 631) (by decide +kernel)⟩
theorem lw_p26 : lw_okq (⟨"GenerationNamesModel", "deleteAt", "(II)V"⟩, 12) := ⟨⟨by decide +kernel, by decide +kernel⟩, List.mem_of_getElem? (i := 467) (by decide +kernel), List.mem_of_getElem? (i := 634) (by decide +kernel), List.mem_of_getElem? (i := 635) (by decide +kernel)⟩
theorem lw_p27 : lw_okq (⟨"GenerationNamesModel", "beginIt", "()I"⟩, 12) := ⟨⟨by decide +kernel, by decide +kernel⟩, List.mem_of_getElem? (i := 467) (by decide +kernel), List.mem_of_getElem? (i := 642) (by decide +kernel), List.mem_of_getElem? (i := 643) (by decide +kernel)⟩
theorem lw_p28 : lw_okq (⟨"GenerationNamesModel", "start", "()I"⟩, 12) := ⟨⟨by decide +kernel, by decide +kernel⟩, List.mem_of_getElem? (i := 467) (by decide +kernel), List.mem_of_getElem? (i := 646) (by decide +kernel), List.mem_of_getElem? (i := 647) (by decide +kernel)⟩
theorem lw_p29 : lw_okq (⟨"GenerationNamesModel", "endIt", "(I)I"⟩, 12) := ⟨⟨by decide +kernel, by decide +kernel⟩, List.mem_of_getElem? (i := 467) (by decide +kernel), List.mem_of_getElem? (i := 654) (by decide +kernel), List.mem_of_getElem? (i := 655) (by decide +kernel)⟩
theorem lw_p30 : lw_okq (⟨"GenerationNamesModel", "madePlace", "(I)I"⟩, 12) := ⟨⟨by decide +kernel, by decide +kernel⟩, List.mem_of_getElem? (i := 467) (by decide +kernel), List.mem_of_getElem? (i := 658) (by decide +kernel), List.mem_of_getElem? (i := 659) (by decide +kernel)⟩
theorem lw_p31 : lw_okq (⟨"GenerationNamesModel", "madeMany", "()I"⟩, 12) := ⟨⟨by decide +kernel, by decide +kernel⟩, List.mem_of_getElem? (i := 467) (by decide +kernel), List.mem_of_getElem? (i := 662) (by decide +kernel), List.mem_of_getElem? (i := 663) (by decide +kernel)⟩
def lw_privs_2 : List (MethodName × Nat) := [(⟨"GenerationNamesModel", "canWrite", "(II)Z"⟩, 12), (⟨"GenerationNamesModel", "runs", "()Z"⟩, 12), (⟨"GenerationNamesModel", "told", "(II)I"⟩, 12), (⟨"GenerationNamesModel", "markOf", "(II)I"⟩, 12), (⟨"GenerationNamesModel", "placeOf", "(II)I"⟩, 12), (⟨"GenerationNamesModel", "writeIt", "(III)I"⟩, 12), (⟨"GenerationNamesModel", "make", "(II)I"⟩, 12), (⟨"GenerationNamesModel", "layGen", "(IIII)V"⟩, 12), (⟨"GenerationNamesModel", "readIt", "(II)I"⟩, 12), (⟨"GenerationNamesModel", "deleteIt", "(II)I"⟩, 12), (⟨"GenerationNamesModel", "deleteAt", "(II)V"⟩, 12), (⟨"GenerationNamesModel", "beginIt", "()I"⟩, 12), (⟨"GenerationNamesModel", "start", "()I"⟩, 12), (⟨"GenerationNamesModel", "endIt", "(I)I"⟩, 12), (⟨"GenerationNamesModel", "madePlace", "(I)I"⟩, 12), (⟨"GenerationNamesModel", "madeMany", "()I"⟩, 12)]
theorem lw_r2 : ∀ q ∈ lw_privs_2, lw_okq q := List.forall_mem_cons.mpr ⟨lw_p16, List.forall_mem_cons.mpr ⟨lw_p17, List.forall_mem_cons.mpr ⟨lw_p18, List.forall_mem_cons.mpr ⟨lw_p19, List.forall_mem_cons.mpr ⟨lw_p20, List.forall_mem_cons.mpr ⟨lw_p21, List.forall_mem_cons.mpr ⟨lw_p22, List.forall_mem_cons.mpr ⟨lw_p23, List.forall_mem_cons.mpr ⟨lw_p24, List.forall_mem_cons.mpr ⟨lw_p25, List.forall_mem_cons.mpr ⟨lw_p26, List.forall_mem_cons.mpr ⟨lw_p27, List.forall_mem_cons.mpr ⟨lw_p28, List.forall_mem_cons.mpr ⟨lw_p29, List.forall_mem_cons.mpr ⟨lw_p30, List.forall_mem_cons.mpr ⟨lw_p31, fun _ h => absurd h List.not_mem_nil⟩⟩⟩⟩⟩⟩⟩⟩⟩⟩⟩⟩⟩⟩⟩⟩
theorem lw_p32 : lw_okq (⟨"GenerationNamesModel", "canAgain", "()Z"⟩, 12) := ⟨⟨by decide +kernel, by decide +kernel⟩, List.mem_of_getElem? (i := 467) (by decide +kernel), List.mem_of_getElem? (i := 670) (by decide +kernel), List.mem_of_getElem? (i := 671) (by decide +kernel)⟩
theorem lw_p33 : lw_okq (⟨"GenerationNamesModel", "allData", "(I)I"⟩, 12) := ⟨⟨by decide +kernel, by decide +kernel⟩, List.mem_of_getElem? (i := 467) (by decide +kernel), List.mem_of_getElem? (i := 678) (by decide +kernel), List.mem_of_getElem? (i := 679) (by decide +kernel)⟩
theorem lw_p34 : lw_okq (⟨"GenerationNamesModel", "nameOf", "(II)I"⟩, 12) := ⟨⟨by decide +kernel, by decide +kernel⟩, List.mem_of_getElem? (i := 467) (by decide +kernel), List.mem_of_getElem? (i := 686) (by decide +kernel), List.mem_of_getElem? (i := 687) (by decide +kernel)⟩
theorem lw_p35 : lw_okq (⟨"GenerationNamesModel", "isNewestMade", "(I)Z"⟩, 12) := ⟨⟨by decide +kernel, by decide +kernel⟩, List.mem_of_getElem? (i := 467) (by decide +kernel), List.mem_of_getElem? (i := 702) (by decide +kernel), List.mem_of_getElem? (i := 703) (by decide +kernel)⟩
theorem lw_p36 : lw_okq (⟨"GenerationNamesModel", "putAside", "()V"⟩, 12) := ⟨⟨by decide +kernel, by decide +kernel⟩, List.mem_of_getElem? (i := 467) (by decide +kernel), List.mem_of_getElem? (i := 714) (by decide +kernel), List.mem_of_getElem? (i := 715) (by decide +kernel)⟩
theorem lw_p37 : lw_okq (⟨"GenerationNamesModel", "bringBack", "()V"⟩, 12) := ⟨⟨by decide +kernel, by decide +kernel⟩, List.mem_of_getElem? (i := 467) (by decide +kernel), List.mem_of_getElem? (i := 718) (by decide +kernel), List.mem_of_getElem? (i := 719) (by decide +kernel)⟩
theorem lw_p38 : lw_okq (⟨"GenerationNamesModel", "readPad", "()I"⟩, 12) := ⟨⟨by decide +kernel, by decide +kernel⟩, List.mem_of_getElem? (i := 467) (by decide +kernel), List.mem_of_getElem? (i := 739) (by decide +kernel), List.mem_of_getElem? (i := 740) (by decide +kernel)⟩
theorem lw_p39 : lw_okq (⟨"GenerationNamesModel", "readOrder", "()V"⟩, 12) := ⟨⟨by decide +kernel, by decide +kernel⟩, List.mem_of_getElem? (i := 467) (by decide +kernel), List.mem_of_getElem? (i := 743) (by decide +kernel), List.mem_of_getElem? (i := 744) (by decide +kernel)⟩
theorem lw_p40 : lw_okq (⟨"GenerationNamesModel", "letter", "()I"⟩, 12) := ⟨⟨by decide +kernel, by decide +kernel⟩, List.mem_of_getElem? (i := 467) (by decide +kernel), List.mem_of_getElem? (i := 747) (by decide +kernel), List.mem_of_getElem? (i := 748) (by decide +kernel)⟩
theorem lw_p41 : lw_okq (⟨"GenerationNamesModel", "wants", "(Z)V"⟩, 12) := ⟨⟨by decide +kernel, by decide +kernel⟩, List.mem_of_getElem? (i := 467) (by decide +kernel), List.mem_of_getElem? (i := 751) (by decide +kernel), List.mem_of_getElem? (i := 752) (by decide +kernel)⟩
theorem lw_p42 : lw_okq (⟨"GenerationNamesModel", "digit", "(II)I"⟩, 12) := ⟨⟨by decide +kernel, by decide +kernel⟩, List.mem_of_getElem? (i := 467) (by decide +kernel), List.mem_of_getElem? (i := 755) (by decide +kernel), List.mem_of_getElem? (i := 756) (by decide +kernel)⟩
theorem lw_p43 : lw_okq (⟨"GenerationNamesModel", "name", "()I"⟩, 12) := ⟨⟨by decide +kernel, by decide +kernel⟩, List.mem_of_getElem? (i := 467) (by decide +kernel), List.mem_of_getElem? (i := 759) (by decide +kernel), List.mem_of_getElem? (i := 760) (by decide +kernel)⟩
theorem lw_p44 : lw_okq (⟨"GenerationNamesModel", "number", "()I"⟩, 12) := ⟨⟨by decide +kernel, by decide +kernel⟩, List.mem_of_getElem? (i := 467) (by decide +kernel), List.mem_of_getElem? (i := 763) (by decide +kernel), List.mem_of_getElem? (i := 764) (by decide +kernel)⟩
theorem lw_p45 : lw_okq (⟨"GenerationNamesModel", "can", "(III)Z"⟩, 12) := ⟨⟨by decide +kernel, by decide +kernel⟩, List.mem_of_getElem? (i := 467) (by decide +kernel), List.mem_of_getElem? (i := 771) (by decide +kernel), List.mem_of_getElem? (i := 772) (by decide +kernel)⟩
theorem lw_p46 : lw_okq (⟨"GenerationNamesModel", "act", "(IIII)V"⟩, 12) := ⟨⟨by decide +kernel, by decide +kernel⟩, List.mem_of_getElem? (i := 467) (by decide +kernel), List.mem_of_getElem? (i := 775) (by decide +kernel), List.mem_of_getElem? (i := 776) (by decide +kernel)⟩
def lw_privs_3 : List (MethodName × Nat) := [(⟨"GenerationNamesModel", "canAgain", "()Z"⟩, 12), (⟨"GenerationNamesModel", "allData", "(I)I"⟩, 12), (⟨"GenerationNamesModel", "nameOf", "(II)I"⟩, 12), (⟨"GenerationNamesModel", "isNewestMade", "(I)Z"⟩, 12), (⟨"GenerationNamesModel", "putAside", "()V"⟩, 12), (⟨"GenerationNamesModel", "bringBack", "()V"⟩, 12), (⟨"GenerationNamesModel", "readPad", "()I"⟩, 12), (⟨"GenerationNamesModel", "readOrder", "()V"⟩, 12), (⟨"GenerationNamesModel", "letter", "()I"⟩, 12), (⟨"GenerationNamesModel", "wants", "(Z)V"⟩, 12), (⟨"GenerationNamesModel", "digit", "(II)I"⟩, 12), (⟨"GenerationNamesModel", "name", "()I"⟩, 12), (⟨"GenerationNamesModel", "number", "()I"⟩, 12), (⟨"GenerationNamesModel", "can", "(III)Z"⟩, 12), (⟨"GenerationNamesModel", "act", "(IIII)V"⟩, 12)]
theorem lw_r3 : ∀ q ∈ lw_privs_3, lw_okq q := List.forall_mem_cons.mpr ⟨lw_p32, List.forall_mem_cons.mpr ⟨lw_p33, List.forall_mem_cons.mpr ⟨lw_p34, List.forall_mem_cons.mpr ⟨lw_p35, List.forall_mem_cons.mpr ⟨lw_p36, List.forall_mem_cons.mpr ⟨lw_p37, List.forall_mem_cons.mpr ⟨lw_p38, List.forall_mem_cons.mpr ⟨lw_p39, List.forall_mem_cons.mpr ⟨lw_p40, List.forall_mem_cons.mpr ⟨lw_p41, List.forall_mem_cons.mpr ⟨lw_p42, List.forall_mem_cons.mpr ⟨lw_p43, List.forall_mem_cons.mpr ⟨lw_p44, List.forall_mem_cons.mpr ⟨lw_p45, List.forall_mem_cons.mpr ⟨lw_p46, fun _ h => absurd h List.not_mem_nil⟩⟩⟩⟩⟩⟩⟩⟩⟩⟩⟩⟩⟩⟩⟩
def lw_privs : List (MethodName × Nat) := lw_privs_1 ++ (lw_privs_2 ++ (lw_privs_3))
def lw_tbl : List Cond := k2_sels lw_privs ++ tables_1
theorem lw_privs_ok : ∀ q ∈ lw_privs, lw_okq q := by
  show ∀ q ∈ lw_privs_1 ++ (lw_privs_2 ++ (lw_privs_3)), lw_okq q
  exact List.forall_mem_append.mpr ⟨lw_r1, List.forall_mem_append.mpr ⟨lw_r2, lw_r3⟩⟩
end
section
/-! ===== BEGIN words of one list among another's, by their places ===== -/
theorem goodIn_r {big : List Cond} (ws : List Cond) (ps : List Nat) (hp : ws = ps.filterMap (fun i => big[i]?)) (h : ws.all goodWord = true) : GoodIn big ws := by
  intro w hw
  have h1 := List.all_eq_true.mp h w hw
  rw [hp] at hw
  obtain ⟨i, -, hi⟩ := List.mem_filterMap.mp hw
  have hm : w ∈ big := by first | exact List.mem_of_getElem? hi | exact List.getElem?_mem hi
  exact ⟨hm, good_of_word h1⟩
theorem goodIn_app {big a b : List Cond} (ha : GoodIn big a) (hb : GoodIn big b) : GoodIn big (a ++ b) := fun w h => (List.mem_append.mp h).elim (ha w) (hb w)
theorem goodIn_ca {big a b : List Cond} {c : Cond} (ha : GoodIn big (c :: a)) (hb : GoodIn big b) : GoodIn big (c :: (a ++ b)) := fun w h => (List.mem_cons.mp h).elim (fun e => ha w (List.mem_cons.mpr (Or.inl e))) (fun h => (List.mem_append.mp h).elim (fun h => ha w (List.mem_cons.mpr (Or.inr h))) (hb w))
theorem goodIn_sub {big ws : List Cond} (hm : ∀ w ∈ ws, w ∈ big) (h : ws.all goodWord = true) : GoodIn big ws := fun w hw => ⟨hm w hw, good_of_word (List.all_eq_true.mp h w hw)⟩
/-! ===== END ===== -/

/-! ===== BEGIN printed: names, fields, word lists, decode rows ===== -/
def RX0 : String := "GenerationNames$Group"
def TX0 : u_T := fun k => match k with
  | 0 => ("GenerationNames$Group", "keep", "I", false)
  | 1 => ("GenerationNames$Group", "newest", "I", false)
  | 2 => ("GenerationNames$Group", "size", "I", false)
  | 3 => ("GenerationNames$Group", "rolledOff", "I", false)
  | 4 => ("GenerationNames$Group", "deleted", "I", false)
  | 5 => ("GenerationNames$Group", "newestForJob", "I", false)
  | 6 => ("GenerationNames$Group", "madeByJob", "I", false)
  | 7 => ("GenerationNames$Group", "data", "[I", true)
  | 8 => ("GenerationNames$Group", "reads", "[I", true)
  | _ => ("GenerationNames$Group", "jobs", "[I", true)
def tyX0 : Nat → FieldType := fun k => match k with
  | 0 => .int
  | 1 => .int
  | 2 => .int
  | 3 => .int
  | 4 => .int
  | 5 => .int
  | 6 => .int
  | 7 => .array .int
  | 8 => .array .int
  | _ => .array .int
abbrev wsX00 : List Cond := u_ws RX0 TX0 10
theorem nmX0 : ∀ a, a < 10 → ∀ b, b < 10 → a ≠ b → (TX0 a).2.1 ≠ (TX0 b).2.1 := by decide +kernel
theorem tyX0_ok : ∀ k, k < 10 → parseFieldDescriptor (TX0 k).2.2.1 = some (tyX0 k) := by decide +kernel
abbrev cX0_init : ByteArray := prog_2_method_1_code
def yX0_init : MethodName := ⟨RX0, "<init>", "()V"⟩
abbrev cX0_copyFrom : ByteArray := prog_2_method_2_code
def yX0_copyFrom : MethodName := ⟨RX0, "copyFrom", "(LGenerationNames$Group;)V"⟩
abbrev cX0_numberOf : ByteArray := prog_2_method_3_code
def yX0_numberOf : MethodName := ⟨RX0, "numberOf", "(I)I"⟩
abbrev cX0_oldest : ByteArray := prog_2_method_4_code
def yX0_oldest : MethodName := ⟨RX0, "oldest", "()I"⟩
abbrev cX0_isHole : ByteArray := prog_2_method_5_code
def yX0_isHole : MethodName := ⟨RX0, "isHole", "(I)Z"⟩
abbrev cX0_isThere : ByteArray := prog_2_method_6_code
def yX0_isThere : MethodName := ⟨RX0, "isThere", "(I)Z"⟩
abbrev cX0_numberIfThere : ByteArray := prog_2_method_7_code
def yX0_numberIfThere : MethodName := ⟨RX0, "numberIfThere", "(I)I"⟩
abbrev cX0_serialOf : ByteArray := prog_2_method_8_code
def yX0_serialOf : MethodName := ⟨RX0, "serialOf", "(IZ)I"⟩
abbrev cX0_nameForJob : ByteArray := prog_2_method_9_code
def yX0_nameForJob : MethodName := ⟨RX0, "nameForJob", "(I)I"⟩
abbrev cX0_make : ByteArray := prog_2_method_10_code
def yX0_make : MethodName := ⟨RX0, "make", "(II)I"⟩
abbrev cX0_leaveMost : ByteArray := prog_2_method_11_code
def yX0_leaveMost : MethodName := ⟨RX0, "leaveMost", "(I)V"⟩
abbrev cX0_makeHole : ByteArray := prog_2_method_12_code
def yX0_makeHole : MethodName := ⟨RX0, "makeHole", "(I)V"⟩
abbrev cX0_countHoles : ByteArray := prog_2_method_13_code
def yX0_countHoles : MethodName := ⟨RX0, "countHoles", "()I"⟩
abbrev cX0_sumOfData : ByteArray := prog_2_method_14_code
def yX0_sumOfData : MethodName := ⟨RX0, "sumOfData", "()I"⟩
def RX1 : String := "GenerationNames$Pad"
def TX1 : u_T := fun k => match k with
  | 0 => ("GenerationNames$Pad", "signs", "[C", true)
  | _ => ("GenerationNames$Pad", "length", "I", false)
def tyX1 : Nat → FieldType := fun k => match k with
  | 0 => .array .char
  | _ => .int
abbrev wsX10 : List Cond := u_ws RX1 TX1 2
theorem nmX1 : ∀ a, a < 2 → ∀ b, b < 2 → a ≠ b → (TX1 a).2.1 ≠ (TX1 b).2.1 := by decide +kernel
theorem tyX1_ok : ∀ k, k < 2 → parseFieldDescriptor (TX1 k).2.2.1 = some (tyX1 k) := by decide +kernel
abbrev cX1_init : ByteArray := prog_3_method_1_code
def yX1_init : MethodName := ⟨RX1, "<init>", "()V"⟩
abbrev cX1_size : ByteArray := prog_3_method_2_code
def yX1_size : MethodName := ⟨RX1, "size", "()I"⟩
abbrev cX1_sign : ByteArray := prog_3_method_3_code
def yX1_sign : MethodName := ⟨RX1, "sign", "(I)I"⟩
abbrev cX1_empty : ByteArray := prog_3_method_4_code
def yX1_empty : MethodName := ⟨RX1, "empty", "()I"⟩
abbrev cX1_append : ByteArray := prog_3_method_5_code
def yX1_append : MethodName := ⟨RX1, "append", "(J)I"⟩
abbrev cX1_countCharacters : ByteArray := prog_3_method_6_code
def yX1_countCharacters : MethodName := ⟨RX1, "countCharacters", "(J)I"⟩
abbrev cX1_findFault : ByteArray := prog_3_method_7_code
def yX1_findFault : MethodName := ⟨RX1, "findFault", "()I"⟩
abbrev cX1_placeBehind : ByteArray := prog_3_method_8_code
def yX1_placeBehind : MethodName := ⟨RX1, "placeBehind", "(II)I"⟩
abbrev cX1_placeBehindLetter : ByteArray := prog_3_method_9_code
def yX1_placeBehindLetter : MethodName := ⟨RX1, "placeBehindLetter", "(I)I"⟩
abbrev cX1_placeBehindName : ByteArray := prog_3_method_10_code
def yX1_placeBehindName : MethodName := ⟨RX1, "placeBehindName", "(III)I"⟩
abbrev cX1_placeBehindOrder : ByteArray := prog_3_method_11_code
def yX1_placeBehindOrder : MethodName := ⟨RX1, "placeBehindOrder", "(I)I"⟩
abbrev cX1_isDigit : ByteArray := prog_3_method_12_code
def yX1_isDigit : MethodName := ⟨RX1, "isDigit", "(I)Z"⟩
abbrev cX1_startsOrder : ByteArray := prog_3_method_13_code
def yX1_startsOrder : MethodName := ⟨RX1, "startsOrder", "(I)Z"⟩
abbrev cX1_groupOfOrder : ByteArray := prog_3_method_14_code
def yX1_groupOfOrder : MethodName := ⟨RX1, "groupOfOrder", "(I)I"⟩
abbrev cX1_nameOfOrder : ByteArray := prog_3_method_15_code
def yX1_nameOfOrder : MethodName := ⟨RX1, "nameOfOrder", "(I)I"⟩
abbrev cX1_dataOfOrder : ByteArray := prog_3_method_16_code
def yX1_dataOfOrder : MethodName := ⟨RX1, "dataOfOrder", "(I)I"⟩
def RX2 : String := "GenerationNames$State"
def TX2 : u_T := fun k => match k with
  | 0 => ("GenerationNames$State", "groups", "[LGenerationNames$Group;", true)
  | 1 => ("GenerationNames$State", "jobsBegun", "I", false)
  | 2 => ("GenerationNames$State", "jobRuns", "Z", false)
  | 3 => ("GenerationNames$State", "lastJobFailed", "Z", false)
  | 4 => ("GenerationNames$State", "jobsFailed", "I", false)
  | 5 => ("GenerationNames$State", "reads", "I", false)
  | _ => ("GenerationNames$State", "vainReads", "I", false)
def tyX2 : Nat → FieldType := fun k => match k with
  | 0 => .array (.object "GenerationNames$Group")
  | 1 => .int
  | 2 => .boolean
  | 3 => .boolean
  | 4 => .int
  | 5 => .int
  | _ => .int
abbrev wsX20 : List Cond := u_ws RX2 TX2 7
theorem nmX2 : ∀ a, a < 7 → ∀ b, b < 7 → a ≠ b → (TX2 a).2.1 ≠ (TX2 b).2.1 := by decide +kernel
theorem tyX2_ok : ∀ k, k < 7 → parseFieldDescriptor (TX2 k).2.2.1 = some (tyX2 k) := by decide +kernel
abbrev cX2_init : ByteArray := prog_4_method_1_code
def yX2_init : MethodName := ⟨RX2, "<init>", "()V"⟩
abbrev cX2_copyFrom : ByteArray := prog_4_method_2_code
def yX2_copyFrom : MethodName := ⟨RX2, "copyFrom", "(LGenerationNames$State;)V"⟩
abbrev cX2_isGroup : ByteArray := prog_4_method_3_code
def yX2_isGroup : MethodName := ⟨RX2, "isGroup", "(I)Z"⟩
abbrev cX2_isName : ByteArray := prog_4_method_4_code
def yX2_isName : MethodName := ⟨RX2, "isName", "(I)Z"⟩
abbrev cX2_changeKeep : ByteArray := prog_4_method_5_code
def yX2_changeKeep : MethodName := ⟨RX2, "changeKeep", "(II)I"⟩
abbrev cX2_hasNewestOfJob : ByteArray := prog_4_method_6_code
def yX2_hasNewestOfJob : MethodName := ⟨RX2, "hasNewestOfJob", "(LGenerationNames$Group;)Z"⟩
abbrev cX2_writeByName : ByteArray := prog_4_method_7_code
def yX2_writeByName : MethodName := ⟨RX2, "writeByName", "(III)I"⟩
abbrev cX2_readByName : ByteArray := prog_4_method_8_code
def yX2_readByName : MethodName := ⟨RX2, "readByName", "(II)I"⟩
abbrev cX2_deleteByName : ByteArray := prog_4_method_9_code
def yX2_deleteByName : MethodName := ⟨RX2, "deleteByName", "(II)I"⟩
abbrev cX2_beginJob : ByteArray := prog_4_method_10_code
def yX2_beginJob : MethodName := ⟨RX2, "beginJob", "()I"⟩
abbrev cX2_repeatJob : ByteArray := prog_4_method_11_code
def yX2_repeatJob : MethodName := ⟨RX2, "repeatJob", "()I"⟩
abbrev cX2_startJob : ByteArray := prog_4_method_12_code
def yX2_startJob : MethodName := ⟨RX2, "startJob", "()I"⟩
abbrev cX2_endJob : ByteArray := prog_4_method_13_code
def yX2_endJob : MethodName := ⟨RX2, "endJob", "(I)I"⟩
abbrev cX2_countMadeByJob : ByteArray := prog_4_method_14_code
def yX2_countMadeByJob : MethodName := ⟨RX2, "countMadeByJob", "()I"⟩
abbrev cX2_aboutGroup : ByteArray := prog_4_method_15_code
def yX2_aboutGroup : MethodName := ⟨RX2, "aboutGroup", "(II)I"⟩
abbrev cX2_aboutGeneration : ByteArray := prog_4_method_16_code
def yX2_aboutGeneration : MethodName := ⟨RX2, "aboutGeneration", "(III)I"⟩
abbrev cX2_numberByName : ByteArray := prog_4_method_17_code
def yX2_numberByName : MethodName := ⟨RX2, "numberByName", "(II)I"⟩
abbrev cX2_counted : ByteArray := prog_4_method_18_code
def yX2_counted : MethodName := ⟨RX2, "counted", "(I)I"⟩
abbrev cX2_countHoles : ByteArray := prog_4_method_19_code
def yX2_countHoles : MethodName := ⟨RX2, "countHoles", "()I"⟩
abbrev cX2_countThere : ByteArray := prog_4_method_20_code
def yX2_countThere : MethodName := ⟨RX2, "countThere", "()I"⟩
abbrev cX2_groupsThatAre : ByteArray := prog_4_method_21_code
def yX2_groupsThatAre : MethodName := ⟨RX2, "groupsThatAre", "(I)I"⟩
abbrev cX2_isSo : ByteArray := prog_4_method_22_code
def yX2_isSo : MethodName := ⟨RX2, "isSo", "(LGenerationNames$Group;I)Z"⟩
abbrev cX2_numberThatRolls : ByteArray := prog_4_method_23_code
def yX2_numberThatRolls : MethodName := ⟨RX2, "numberThatRolls", "(I)I"⟩
abbrev cX2_newestIfFailed : ByteArray := prog_4_method_24_code
def yX2_newestIfFailed : MethodName := ⟨RX2, "newestIfFailed", "(I)I"⟩
abbrev cX2_leastKeepOf : ByteArray := prog_4_method_25_code
def yX2_leastKeepOf : MethodName := ⟨RX2, "leastKeepOf", "(I)I"⟩
def RX3 : String := "GenerationNames"
def TX3 : u_T := fun k => match k with
  | 0 => ("GenerationNames", "now", "LGenerationNames$State;", true)
  | 1 => ("GenerationNames", "history", "[LGenerationNames$State;", true)
  | 2 => ("GenerationNames", "undoable", "I", false)
  | 3 => ("GenerationNames", "slots", "[LGenerationNames$State;", true)
  | 4 => ("GenerationNames", "saved", "[Z", true)
  | _ => ("GenerationNames", "pad", "LGenerationNames$Pad;", true)
def tyX3 : Nat → FieldType := fun k => match k with
  | 0 => .object "GenerationNames$State"
  | 1 => .array (.object "GenerationNames$State")
  | 2 => .int
  | 3 => .array (.object "GenerationNames$State")
  | 4 => .array .boolean
  | _ => .object "GenerationNames$Pad"
abbrev wsX30 : List Cond := u_ws RX3 TX3 6
theorem nmX3 : ∀ a, a < 6 → ∀ b, b < 6 → a ≠ b → (TX3 a).2.1 ≠ (TX3 b).2.1 := by decide +kernel
theorem tyX3_ok : ∀ k, k < 6 → parseFieldDescriptor (TX3 k).2.2.1 = some (tyX3 k) := by decide +kernel
abbrev cX3_init : ByteArray := prog_1_method_1_code
def yX3_init : MethodName := ⟨RX3, "<init>", "()V"⟩
abbrev cX3_keep : ByteArray := prog_1_method_2_code
def yX3_keep : MethodName := ⟨RX3, "keep", "(II)I"⟩
abbrev cX3_write : ByteArray := prog_1_method_3_code
def yX3_write : MethodName := ⟨RX3, "write", "(III)I"⟩
abbrev cX3_read : ByteArray := prog_1_method_4_code
def yX3_read : MethodName := ⟨RX3, "read", "(II)I"⟩
abbrev cX3_delete : ByteArray := prog_1_method_5_code
def yX3_delete : MethodName := ⟨RX3, "delete", "(II)I"⟩
abbrev cX3_begin : ByteArray := prog_1_method_6_code
def yX3_begin : MethodName := ⟨RX3, "begin", "()I"⟩
abbrev cX3_end : ByteArray := prog_1_method_7_code
def yX3_end : MethodName := ⟨RX3, "end", "(I)I"⟩
abbrev cX3_again : ByteArray := prog_1_method_8_code
def yX3_again : MethodName := ⟨RX3, "again", "()I"⟩
abbrev cX3_ofGroup : ByteArray := prog_1_method_9_code
def yX3_ofGroup : MethodName := ⟨RX3, "ofGroup", "(II)I"⟩
abbrev cX3_generation : ByteArray := prog_1_method_10_code
def yX3_generation : MethodName := ⟨RX3, "generation", "(III)I"⟩
abbrev cX3_named : ByteArray := prog_1_method_11_code
def yX3_named : MethodName := ⟨RX3, "named", "(II)I"⟩
abbrev cX3_count : ByteArray := prog_1_method_12_code
def yX3_count : MethodName := ⟨RX3, "count", "(I)I"⟩
abbrev cX3_groups : ByteArray := prog_1_method_13_code
def yX3_groups : MethodName := ⟨RX3, "groups", "(I)I"⟩
abbrev cX3_rolls : ByteArray := prog_1_method_14_code
def yX3_rolls : MethodName := ⟨RX3, "rolls", "(I)I"⟩
abbrev cX3_ifFailed : ByteArray := prog_1_method_15_code
def yX3_ifFailed : MethodName := ⟨RX3, "ifFailed", "(I)I"⟩
abbrev cX3_leastKeep : ByteArray := prog_1_method_16_code
def yX3_leastKeep : MethodName := ⟨RX3, "leastKeep", "(I)I"⟩
abbrev cX3_put : ByteArray := prog_1_method_17_code
def yX3_put : MethodName := ⟨RX3, "put", "(J)I"⟩
abbrev cX3_wipe : ByteArray := prog_1_method_18_code
def yX3_wipe : MethodName := ⟨RX3, "wipe", "()I"⟩
abbrev cX3_fault : ByteArray := prog_1_method_19_code
def yX3_fault : MethodName := ⟨RX3, "fault", "()I"⟩
abbrev cX3_carryOut : ByteArray := prog_1_method_20_code
def yX3_carryOut : MethodName := ⟨RX3, "carryOut", "()I"⟩
abbrev cX3_undo : ByteArray := prog_1_method_21_code
def yX3_undo : MethodName := ⟨RX3, "undo", "()I"⟩
abbrev cX3_save : ByteArray := prog_1_method_22_code
def yX3_save : MethodName := ⟨RX3, "save", "(I)I"⟩
abbrev cX3_restore : ByteArray := prog_1_method_23_code
def yX3_restore : MethodName := ⟨RX3, "restore", "(I)I"⟩
abbrev cX3_isSlot : ByteArray := prog_1_method_24_code
def yX3_isSlot : MethodName := ⟨RX3, "isSlot", "(I)Z"⟩
abbrev cX3_isError : ByteArray := prog_1_method_25_code
def yX3_isError : MethodName := ⟨RX3, "isError", "(I)Z"⟩
abbrev cX3_noteStateBefore : ByteArray := prog_1_method_26_code
def yX3_noteStateBefore : MethodName := ⟨RX3, "noteStateBefore", "()V"⟩
abbrev cX3_recorded : ByteArray := prog_1_method_27_code
def yX3_recorded : MethodName := ⟨RX3, "recorded", "(I)I"⟩
abbrev cX3_dropOldestState : ByteArray := prog_1_method_28_code
def yX3_dropOldestState : MethodName := ⟨RX3, "dropOldestState", "()V"⟩
abbrev cX3_carryOutOrders : ByteArray := prog_1_method_29_code
def yX3_carryOutOrders : MethodName := ⟨RX3, "carryOutOrders", "()I"⟩
abbrev cX3_carryOutOrder : ByteArray := prog_1_method_30_code
def yX3_carryOutOrder : MethodName := ⟨RX3, "carryOutOrder", "(I)I"⟩
def RX4 : String := "GenerationNamesModel"
def TX4 : u_T := fun k => match k with
  | 0 => ("GenerationNamesModel", "z", "[I", true)
  | 1 => ("GenerationNamesModel", "past", "[I", true)
  | 2 => ("GenerationNamesModel", "slots", "[I", true)
  | 3 => ("GenerationNamesModel", "isSaved", "[Z", true)
  | 4 => ("GenerationNamesModel", "pastMany", "I", false)
  | 5 => ("GenerationNamesModel", "spare", "[I", true)
  | 6 => ("GenerationNamesModel", "pad", "[C", true)
  | 7 => ("GenerationNamesModel", "typed", "I", false)
  | 8 => ("GenerationNamesModel", "orders", "[I", true)
  | 9 => ("GenerationNamesModel", "orderMany", "I", false)
  | 10 => ("GenerationNamesModel", "spot", "I", false)
  | _ => ("GenerationNamesModel", "wrong", "I", false)
def tyX4 : Nat → FieldType := fun k => match k with
  | 0 => .array .int
  | 1 => .array .int
  | 2 => .array .int
  | 3 => .array .boolean
  | 4 => .int
  | 5 => .array .int
  | 6 => .array .char
  | 7 => .int
  | 8 => .array .int
  | 9 => .int
  | 10 => .int
  | _ => .int
abbrev wsX40 : List Cond := u_ws RX4 TX4 12
theorem nmX4 : ∀ a, a < 12 → ∀ b, b < 12 → a ≠ b → (TX4 a).2.1 ≠ (TX4 b).2.1 := by decide +kernel
theorem tyX4_ok : ∀ k, k < 12 → parseFieldDescriptor (TX4 k).2.2.1 = some (tyX4 k) := by decide +kernel
abbrev cX4_init : ByteArray := prog_6_method_1_code
def yX4_init : MethodName := ⟨RX4, "<init>", "()V"⟩
abbrev cX4_in : ByteArray := prog_6_method_2_code
def yX4_in : MethodName := ⟨RX4, "in", "(III)Z"⟩
abbrev cX4_isGroup : ByteArray := prog_6_method_3_code
def yX4_isGroup : MethodName := ⟨RX4, "isGroup", "(I)Z"⟩
abbrev cX4_of : ByteArray := prog_6_method_4_code
def yX4_of : MethodName := ⟨RX4, "of", "(II)I"⟩
abbrev cX4_lay : ByteArray := prog_6_method_5_code
def yX4_lay : MethodName := ⟨RX4, "lay", "(III)V"⟩
abbrev cX4_many : ByteArray := prog_6_method_6_code
def yX4_many : MethodName := ⟨RX4, "many", "(I)I"⟩
abbrev cX4_gen : ByteArray := prog_6_method_7_code
def yX4_gen : MethodName := ⟨RX4, "gen", "(III)I"⟩
abbrev cX4_layGen : ByteArray := prog_6_method_8_code
def yX4_layGen : MethodName := ⟨RX4, "layGen", "(IIII)V"⟩
abbrev cX4_isHole : ByteArray := prog_6_method_9_code
def yX4_isHole : MethodName := ⟨RX4, "isHole", "(II)Z"⟩
abbrev cX4_runs : ByteArray := prog_6_method_10_code
def yX4_runs : MethodName := ⟨RX4, "runs", "()Z"⟩
abbrev cX4_record : ByteArray := prog_6_method_11_code
def yX4_record : MethodName := ⟨RX4, "record", "()V"⟩
abbrev cX4_undo : ByteArray := prog_6_method_12_code
def yX4_undo : MethodName := ⟨RX4, "undo", "()I"⟩
abbrev cX4_save : ByteArray := prog_6_method_13_code
def yX4_save : MethodName := ⟨RX4, "save", "(I)I"⟩
abbrev cX4_restore : ByteArray := prog_6_method_14_code
def yX4_restore : MethodName := ⟨RX4, "restore", "(I)I"⟩
abbrev cX4_trim : ByteArray := prog_6_method_15_code
def yX4_trim : MethodName := ⟨RX4, "trim", "(I)V"⟩
abbrev cX4_roll : ByteArray := prog_6_method_16_code
def yX4_roll : MethodName := ⟨RX4, "roll", "(I)V"⟩
abbrev cX4_numberBehind : ByteArray := prog_6_method_17_code
def yX4_numberBehind : MethodName := ⟨RX4, "numberBehind", "(I)I"⟩
abbrev cX4_make : ByteArray := prog_6_method_18_code
def yX4_make : MethodName := ⟨RX4, "make", "(II)I"⟩
abbrev cX4_deleteAt : ByteArray := prog_6_method_19_code
def yX4_deleteAt : MethodName := ⟨RX4, "deleteAt", "(II)V"⟩
abbrev cX4_placeOf : ByteArray := prog_6_method_20_code
def yX4_placeOf : MethodName := ⟨RX4, "placeOf", "(II)I"⟩
abbrev cX4_isName : ByteArray := prog_6_method_21_code
def yX4_isName : MethodName := ⟨RX4, "isName", "(I)Z"⟩
abbrev cX4_markOf : ByteArray := prog_6_method_22_code
def yX4_markOf : MethodName := ⟨RX4, "markOf", "(II)I"⟩
abbrev cX4_told : ByteArray := prog_6_method_23_code
def yX4_told : MethodName := ⟨RX4, "told", "(II)I"⟩
abbrev cX4_keep : ByteArray := prog_6_method_24_code
def yX4_keep : MethodName := ⟨RX4, "keep", "(II)I"⟩
abbrev cX4_canWrite : ByteArray := prog_6_method_25_code
def yX4_canWrite : MethodName := ⟨RX4, "canWrite", "(II)Z"⟩
abbrev cX4_writeIt : ByteArray := prog_6_method_26_code
def yX4_writeIt : MethodName := ⟨RX4, "writeIt", "(III)I"⟩
abbrev cX4_write : ByteArray := prog_6_method_27_code
def yX4_write : MethodName := ⟨RX4, "write", "(III)I"⟩
abbrev cX4_readIt : ByteArray := prog_6_method_28_code
def yX4_readIt : MethodName := ⟨RX4, "readIt", "(II)I"⟩
abbrev cX4_read : ByteArray := prog_6_method_29_code
def yX4_read : MethodName := ⟨RX4, "read", "(II)I"⟩
abbrev cX4_deleteIt : ByteArray := prog_6_method_30_code
def yX4_deleteIt : MethodName := ⟨RX4, "deleteIt", "(II)I"⟩
abbrev cX4_delete : ByteArray := prog_6_method_31_code
def yX4_delete : MethodName := ⟨RX4, "delete", "(II)I"⟩
abbrev cX4_start : ByteArray := prog_6_method_32_code
def yX4_start : MethodName := ⟨RX4, "start", "()I"⟩
abbrev cX4_beginIt : ByteArray := prog_6_method_33_code
def yX4_beginIt : MethodName := ⟨RX4, "beginIt", "()I"⟩
abbrev cX4_begin : ByteArray := prog_6_method_34_code
def yX4_begin : MethodName := ⟨RX4, "begin", "()I"⟩
abbrev cX4_madePlace : ByteArray := prog_6_method_35_code
def yX4_madePlace : MethodName := ⟨RX4, "madePlace", "(I)I"⟩
abbrev cX4_madeMany : ByteArray := prog_6_method_36_code
def yX4_madeMany : MethodName := ⟨RX4, "madeMany", "()I"⟩
abbrev cX4_endIt : ByteArray := prog_6_method_37_code
def yX4_endIt : MethodName := ⟨RX4, "endIt", "(I)I"⟩
abbrev cX4_end : ByteArray := prog_6_method_38_code
def yX4_end : MethodName := ⟨RX4, "end", "(I)I"⟩
abbrev cX4_canAgain : ByteArray := prog_6_method_39_code
def yX4_canAgain : MethodName := ⟨RX4, "canAgain", "()Z"⟩
abbrev cX4_again : ByteArray := prog_6_method_40_code
def yX4_again : MethodName := ⟨RX4, "again", "()I"⟩
abbrev cX4_holes : ByteArray := prog_6_method_41_code
def yX4_holes : MethodName := ⟨RX4, "holes", "(I)I"⟩
abbrev cX4_allData : ByteArray := prog_6_method_42_code
def yX4_allData : MethodName := ⟨RX4, "allData", "(I)I"⟩
abbrev cX4_ofGroup : ByteArray := prog_6_method_43_code
def yX4_ofGroup : MethodName := ⟨RX4, "ofGroup", "(II)I"⟩
abbrev cX4_nameOf : ByteArray := prog_6_method_44_code
def yX4_nameOf : MethodName := ⟨RX4, "nameOf", "(II)I"⟩
abbrev cX4_generation : ByteArray := prog_6_method_45_code
def yX4_generation : MethodName := ⟨RX4, "generation", "(III)I"⟩
abbrev cX4_named : ByteArray := prog_6_method_46_code
def yX4_named : MethodName := ⟨RX4, "named", "(II)I"⟩
abbrev cX4_allHoles : ByteArray := prog_6_method_47_code
def yX4_allHoles : MethodName := ⟨RX4, "allHoles", "()I"⟩
abbrev cX4_wholes : ByteArray := prog_6_method_48_code
def yX4_wholes : MethodName := ⟨RX4, "wholes", "()I"⟩
abbrev cX4_count : ByteArray := prog_6_method_49_code
def yX4_count : MethodName := ⟨RX4, "count", "(I)I"⟩
abbrev cX4_isNewestMade : ByteArray := prog_6_method_50_code
def yX4_isNewestMade : MethodName := ⟨RX4, "isNewestMade", "(I)Z"⟩
abbrev cX4_groups : ByteArray := prog_6_method_51_code
def yX4_groups : MethodName := ⟨RX4, "groups", "(I)I"⟩
abbrev cX4_rolls : ByteArray := prog_6_method_52_code
def yX4_rolls : MethodName := ⟨RX4, "rolls", "(I)I"⟩
abbrev cX4_putAside : ByteArray := prog_6_method_53_code
def yX4_putAside : MethodName := ⟨RX4, "putAside", "()V"⟩
abbrev cX4_bringBack : ByteArray := prog_6_method_54_code
def yX4_bringBack : MethodName := ⟨RX4, "bringBack", "()V"⟩
abbrev cX4_ifFailed : ByteArray := prog_6_method_55_code
def yX4_ifFailed : MethodName := ⟨RX4, "ifFailed", "(I)I"⟩
abbrev cX4_leastKeep : ByteArray := prog_6_method_56_code
def yX4_leastKeep : MethodName := ⟨RX4, "leastKeep", "(I)I"⟩
abbrev cX4_put : ByteArray := prog_6_method_57_code
def yX4_put : MethodName := ⟨RX4, "put", "(J)I"⟩
abbrev cX4_wipe : ByteArray := prog_6_method_58_code
def yX4_wipe : MethodName := ⟨RX4, "wipe", "()I"⟩
abbrev cX4_letter : ByteArray := prog_6_method_59_code
def yX4_letter : MethodName := ⟨RX4, "letter", "()I"⟩
abbrev cX4_wants : ByteArray := prog_6_method_60_code
def yX4_wants : MethodName := ⟨RX4, "wants", "(Z)V"⟩
abbrev cX4_digit : ByteArray := prog_6_method_61_code
def yX4_digit : MethodName := ⟨RX4, "digit", "(II)I"⟩
abbrev cX4_number : ByteArray := prog_6_method_62_code
def yX4_number : MethodName := ⟨RX4, "number", "()I"⟩
abbrev cX4_name : ByteArray := prog_6_method_63_code
def yX4_name : MethodName := ⟨RX4, "name", "()I"⟩
abbrev cX4_readOrder : ByteArray := prog_6_method_64_code
def yX4_readOrder : MethodName := ⟨RX4, "readOrder", "()V"⟩
abbrev cX4_readPad : ByteArray := prog_6_method_65_code
def yX4_readPad : MethodName := ⟨RX4, "readPad", "()I"⟩
abbrev cX4_fault : ByteArray := prog_6_method_66_code
def yX4_fault : MethodName := ⟨RX4, "fault", "()I"⟩
abbrev cX4_can : ByteArray := prog_6_method_67_code
def yX4_can : MethodName := ⟨RX4, "can", "(III)Z"⟩
abbrev cX4_act : ByteArray := prog_6_method_68_code
def yX4_act : MethodName := ⟨RX4, "act", "(IIII)V"⟩
abbrev cX4_carryOut : ByteArray := prog_6_method_69_code
def yX4_carryOut : MethodName := ⟨RX4, "carryOut", "()I"⟩
def RJ9 : String := "java/lang/Math"
def TJ9 : u_T := fun k => match k with
  | _ => ("", "", "", false)
def tyJ9 : Nat → FieldType := fun k => match k with
  | _ => .int
abbrev wsJ90 : List Cond := u_ws RJ9 TJ9 0
theorem nmJ9 : ∀ a, a < 0 → ∀ b, b < 0 → a ≠ b → (TJ9 a).2.1 ≠ (TJ9 b).2.1 := by decide +kernel
theorem tyJ9_ok : ∀ k, k < 0 → parseFieldDescriptor (TJ9 k).2.2.1 = some (tyJ9 k) := by decide +kernel
abbrev cJ9_max_7cf53 : ByteArray := prog_7_method_65_code
def yJ9_max_7cf53 : MethodName := ⟨RJ9, "max", "(II)I"⟩
def RJ10 : String := "java/lang/System"
def TJ10 : u_T := fun k => match k with
  | _ => ("", "", "", false)
def tyJ10 : Nat → FieldType := fun k => match k with
  | _ => .int
abbrev wsJ100 : List Cond := u_ws RJ10 TJ10 0
theorem nmJ10 : ∀ a, a < 0 → ∀ b, b < 0 → a ≠ b → (TJ10 a).2.1 ≠ (TJ10 b).2.1 := by decide +kernel
theorem tyJ10_ok : ∀ k, k < 0 → parseFieldDescriptor (TJ10 k).2.2.1 = some (tyJ10 k) := by decide +kernel
def RL : String := "GenerationNamesLaw"
abbrev cL_law : ByteArray := code
def yL_law : MethodName := ⟨RL, "law", "([I)Z"⟩
def wsX0_init : List Cond := .code yX0_init cX0_init 1 none :: ([.methodLink RX0 3 objectInit, .instanceMethod objectInit, .code objectInit ⟨#[0xb1]⟩ 1 none, .fieldLink RX0 9 "GenerationNames$Group" "keep" "I", .fieldLink RX0 15 "GenerationNames$Group" "newest" "I", .fieldLink RX0 18 "GenerationNames$Group" "size" "I", .fieldLink RX0 21 "GenerationNames$Group" "rolledOff" "I", .fieldLink RX0 24 "GenerationNames$Group" "deleted" "I", .fieldLink RX0 27 "GenerationNames$Group" "newestForJob" "I", .fieldLink RX0 30 "GenerationNames$Group" "madeByJob" "I", .arrayClass .int, .fieldLink RX0 33 "GenerationNames$Group" "data" "[I", .fieldLink RX0 37 "GenerationNames$Group" "reads" "[I", .fieldLink RX0 40 "GenerationNames$Group" "jobs" "[I"] ++ wsX00)
def wsX0_copyFrom : List Cond := .code yX0_copyFrom cX0_copyFrom 2 none :: ([.fieldLink RX0 9 "GenerationNames$Group" "keep" "I", .fieldLink RX0 15 "GenerationNames$Group" "newest" "I", .fieldLink RX0 18 "GenerationNames$Group" "size" "I", .fieldLink RX0 21 "GenerationNames$Group" "rolledOff" "I", .fieldLink RX0 24 "GenerationNames$Group" "deleted" "I", .fieldLink RX0 27 "GenerationNames$Group" "newestForJob" "I", .fieldLink RX0 30 "GenerationNames$Group" "madeByJob" "I", .fieldLink RX0 33 "GenerationNames$Group" "data" "[I", .methodLink RX0 43 arraycopyName, .native arraycopyName, .static arraycopyName, .initialized "java/lang/System", .fieldLink RX0 37 "GenerationNames$Group" "reads" "[I", .fieldLink RX0 40 "GenerationNames$Group" "jobs" "[I"] ++ wsX00)
def wsX0_numberOf : List Cond := .code yX0_numberOf cX0_numberOf 2 (some .int) :: ([])
def wsX0_oldest : List Cond := .code yX0_oldest cX0_oldest 1 (some .int) :: ([.fieldLink RX0 15 "GenerationNames$Group" "newest" "I", .fieldLink RX0 18 "GenerationNames$Group" "size" "I"] ++ wsX00)
def wsX0_isHole : List Cond := .code yX0_isHole cX0_isHole 2 (some .boolean) :: ([.fieldLink RX0 33 "GenerationNames$Group" "data" "[I"] ++ wsX00)
def wsX0_isThere : List Cond := .code yX0_isThere cX0_isThere 2 (some .boolean) :: ([.fieldLink RX0 15 "GenerationNames$Group" "newest" "I", .methodLink RX0 49 yX0_oldest, .instanceMethod yX0_oldest, .selects RX0 yX0_oldest yX0_oldest, .initialized RX0, .code yX0_oldest cX0_oldest 1 (some .int), .fieldLink RX0 18 "GenerationNames$Group" "size" "I", .methodLink RX0 53 yX0_isHole, .instanceMethod yX0_isHole, .selects RX0 yX0_isHole yX0_isHole, .code yX0_isHole cX0_isHole 2 (some .boolean), .fieldLink RX0 33 "GenerationNames$Group" "data" "[I"] ++ wsX00)
def wsX0_numberIfThere : List Cond := .code yX0_numberIfThere cX0_numberIfThere 2 (some .int) :: ([.methodLink RX0 57 yX0_isThere, .instanceMethod yX0_isThere, .selects RX0 yX0_isThere yX0_isThere, .initialized RX0, .code yX0_isThere cX0_isThere 2 (some .boolean), .fieldLink RX0 15 "GenerationNames$Group" "newest" "I", .methodLink RX0 49 yX0_oldest, .instanceMethod yX0_oldest, .selects RX0 yX0_oldest yX0_oldest, .code yX0_oldest cX0_oldest 1 (some .int), .fieldLink RX0 18 "GenerationNames$Group" "size" "I", .methodLink RX0 53 yX0_isHole, .instanceMethod yX0_isHole, .selects RX0 yX0_isHole yX0_isHole, .code yX0_isHole cX0_isHole 2 (some .boolean), .fieldLink RX0 33 "GenerationNames$Group" "data" "[I", .methodLink RX0 60 yX0_numberOf, .instanceMethod yX0_numberOf, .selects RX0 yX0_numberOf yX0_numberOf, .code yX0_numberOf cX0_numberOf 2 (some .int)] ++ wsX00)
def wsX0_serialOf : List Cond := .code yX0_serialOf cX0_serialOf 3 (some .int) :: ([.fieldLink RX0 30 "GenerationNames$Group" "madeByJob" "I", .fieldLink RX0 27 "GenerationNames$Group" "newestForJob" "I", .fieldLink RX0 15 "GenerationNames$Group" "newest" "I"] ++ wsX00)
def wsX0_nameForJob : List Cond := .code yX0_nameForJob cX0_nameForJob 3 (some .int) :: ([.fieldLink RX0 30 "GenerationNames$Group" "madeByJob" "I", .fieldLink RX0 27 "GenerationNames$Group" "newestForJob" "I"] ++ wsX00)
def wsX0_leaveMost : List Cond := .code yX0_leaveMost cX0_leaveMost 2 none :: ([.fieldLink RX0 18 "GenerationNames$Group" "size" "I", .fieldLink RX0 21 "GenerationNames$Group" "rolledOff" "I", .methodLink RX0 49 yX0_oldest, .instanceMethod yX0_oldest, .selects RX0 yX0_oldest yX0_oldest, .initialized RX0, .code yX0_oldest cX0_oldest 1 (some .int), .fieldLink RX0 15 "GenerationNames$Group" "newest" "I", .methodLink RX0 53 yX0_isHole, .instanceMethod yX0_isHole, .selects RX0 yX0_isHole yX0_isHole, .code yX0_isHole cX0_isHole 2 (some .boolean), .fieldLink RX0 33 "GenerationNames$Group" "data" "[I"] ++ wsX00)
def wsX0_make : List Cond := .code yX0_make cX0_make 4 (some .int) :: ([.fieldLink RX0 9 "GenerationNames$Group" "keep" "I", .fieldLink RX0 15 "GenerationNames$Group" "newest" "I", .fieldLink RX0 18 "GenerationNames$Group" "size" "I", .fieldLink RX0 33 "GenerationNames$Group" "data" "[I", .fieldLink RX0 37 "GenerationNames$Group" "reads" "[I", .fieldLink RX0 40 "GenerationNames$Group" "jobs" "[I", .fieldLink RX0 30 "GenerationNames$Group" "madeByJob" "I", .methodLink RX0 64 yX0_leaveMost, .instanceMethod yX0_leaveMost, .selects RX0 yX0_leaveMost yX0_leaveMost, .initialized RX0, .code yX0_leaveMost cX0_leaveMost 2 none, .fieldLink RX0 21 "GenerationNames$Group" "rolledOff" "I", .methodLink RX0 49 yX0_oldest, .instanceMethod yX0_oldest, .selects RX0 yX0_oldest yX0_oldest, .code yX0_oldest cX0_oldest 1 (some .int), .methodLink RX0 53 yX0_isHole, .instanceMethod yX0_isHole, .selects RX0 yX0_isHole yX0_isHole, .code yX0_isHole cX0_isHole 2 (some .boolean)] ++ wsX00)
def wsX0_makeHole : List Cond := .code yX0_makeHole cX0_makeHole 2 none :: ([.fieldLink RX0 33 "GenerationNames$Group" "data" "[I", .fieldLink RX0 24 "GenerationNames$Group" "deleted" "I", .fieldLink RX0 9 "GenerationNames$Group" "keep" "I", .methodLink RX0 64 yX0_leaveMost, .instanceMethod yX0_leaveMost, .selects RX0 yX0_leaveMost yX0_leaveMost, .initialized RX0, .code yX0_leaveMost cX0_leaveMost 2 none, .fieldLink RX0 18 "GenerationNames$Group" "size" "I", .fieldLink RX0 21 "GenerationNames$Group" "rolledOff" "I", .methodLink RX0 49 yX0_oldest, .instanceMethod yX0_oldest, .selects RX0 yX0_oldest yX0_oldest, .code yX0_oldest cX0_oldest 1 (some .int), .fieldLink RX0 15 "GenerationNames$Group" "newest" "I", .methodLink RX0 53 yX0_isHole, .instanceMethod yX0_isHole, .selects RX0 yX0_isHole yX0_isHole, .code yX0_isHole cX0_isHole 2 (some .boolean)] ++ wsX00)
def wsX0_countHoles : List Cond := .code yX0_countHoles cX0_countHoles 3 (some .int) :: ([.fieldLink RX0 15 "GenerationNames$Group" "newest" "I", .methodLink RX0 49 yX0_oldest, .instanceMethod yX0_oldest, .selects RX0 yX0_oldest yX0_oldest, .initialized RX0, .code yX0_oldest cX0_oldest 1 (some .int), .fieldLink RX0 18 "GenerationNames$Group" "size" "I", .methodLink RX0 53 yX0_isHole, .instanceMethod yX0_isHole, .selects RX0 yX0_isHole yX0_isHole, .code yX0_isHole cX0_isHole 2 (some .boolean), .fieldLink RX0 33 "GenerationNames$Group" "data" "[I"] ++ wsX00)
def wsX0_sumOfData : List Cond := .code yX0_sumOfData cX0_sumOfData 3 (some .int) :: ([.fieldLink RX0 15 "GenerationNames$Group" "newest" "I", .fieldLink RX0 33 "GenerationNames$Group" "data" "[I", .methodLink RX0 49 yX0_oldest, .instanceMethod yX0_oldest, .selects RX0 yX0_oldest yX0_oldest, .initialized RX0, .code yX0_oldest cX0_oldest 1 (some .int), .fieldLink RX0 18 "GenerationNames$Group" "size" "I", .methodLink RX0 53 yX0_isHole, .instanceMethod yX0_isHole, .selects RX0 yX0_isHole yX0_isHole, .code yX0_isHole cX0_isHole 2 (some .boolean)] ++ wsX00)
def wsX1_init : List Cond := .code yX1_init cX1_init 1 none :: ([.methodLink RX1 3 objectInit, .instanceMethod objectInit, .code objectInit ⟨#[0xb1]⟩ 1 none, .arrayClass .char, .fieldLink RX1 9 "GenerationNames$Pad" "signs" "[C", .fieldLink RX1 15 "GenerationNames$Pad" "length" "I"] ++ wsX10)
def wsX1_size : List Cond := .code yX1_size cX1_size 1 (some .int) :: ([.fieldLink RX1 15 "GenerationNames$Pad" "length" "I"] ++ wsX10)
def wsX1_sign : List Cond := .code yX1_sign cX1_sign 2 (some .int) :: ([.fieldLink RX1 15 "GenerationNames$Pad" "length" "I", .fieldLink RX1 9 "GenerationNames$Pad" "signs" "[C"] ++ wsX10)
def wsX1_empty : List Cond := .code yX1_empty cX1_empty 2 (some .int) :: ([.fieldLink RX1 15 "GenerationNames$Pad" "length" "I"] ++ wsX10)
def wsX1_countCharacters : List Cond := .code yX1_countCharacters cX1_countCharacters 8 (some .int) :: ([.constantLong RX1 23 (255), .constantLong RX1 25 (33), .constantLong RX1 27 (126)])
def wsX1_append : List Cond := .code yX1_append cX1_append 5 (some .int) :: ([.fieldLink RX1 15 "GenerationNames$Pad" "length" "I", .fieldLink RX1 9 "GenerationNames$Pad" "signs" "[C", .constantLong RX1 23 (255), .methodLink RX1 19 yX1_countCharacters, .instanceMethod yX1_countCharacters, .selects RX1 yX1_countCharacters yX1_countCharacters, .initialized RX1, .code yX1_countCharacters cX1_countCharacters 8 (some .int), .constantLong RX1 25 (33), .constantLong RX1 27 (126)] ++ wsX10)
def wsX1_placeBehindLetter : List Cond := .code yX1_placeBehindLetter cX1_placeBehindLetter 2 (some .int) :: ([])
def wsX1_placeBehindName : List Cond := .code yX1_placeBehindName cX1_placeBehindName 4 (some .int) :: ([])
def wsX1_isDigit : List Cond := .code yX1_isDigit cX1_isDigit 2 (some .boolean) :: ([])
def wsX1_placeBehindOrder : List Cond := .code yX1_placeBehindOrder cX1_placeBehindOrder 2 (some .int) :: ([])
def wsX1_placeBehind : List Cond := .code yX1_placeBehind cX1_placeBehind 3 (some .int) :: ([.methodLink RX1 33 yX1_placeBehindLetter, .instanceMethod yX1_placeBehindLetter, .selects RX1 yX1_placeBehindLetter yX1_placeBehindLetter, .initialized RX1, .code yX1_placeBehindLetter cX1_placeBehindLetter 2 (some .int), .methodLink RX1 37 yX1_placeBehindName, .instanceMethod yX1_placeBehindName, .selects RX1 yX1_placeBehindName yX1_placeBehindName, .code yX1_placeBehindName cX1_placeBehindName 4 (some .int), .methodLink RX1 41 yX1_isDigit, .instanceMethod yX1_isDigit, .selects RX1 yX1_isDigit yX1_isDigit, .code yX1_isDigit cX1_isDigit 2 (some .boolean), .methodLink RX1 45 yX1_placeBehindOrder, .instanceMethod yX1_placeBehindOrder, .selects RX1 yX1_placeBehindOrder yX1_placeBehindOrder, .code yX1_placeBehindOrder cX1_placeBehindOrder 2 (some .int)])
def wsX1_findFault : List Cond := .code yX1_findFault cX1_findFault 3 (some .int) :: ([.fieldLink RX1 15 "GenerationNames$Pad" "length" "I", .fieldLink RX1 9 "GenerationNames$Pad" "signs" "[C", .methodLink RX1 29 yX1_placeBehind, .instanceMethod yX1_placeBehind, .selects RX1 yX1_placeBehind yX1_placeBehind, .initialized RX1, .code yX1_placeBehind cX1_placeBehind 3 (some .int), .methodLink RX1 33 yX1_placeBehindLetter, .instanceMethod yX1_placeBehindLetter, .selects RX1 yX1_placeBehindLetter yX1_placeBehindLetter, .code yX1_placeBehindLetter cX1_placeBehindLetter 2 (some .int), .methodLink RX1 37 yX1_placeBehindName, .instanceMethod yX1_placeBehindName, .selects RX1 yX1_placeBehindName yX1_placeBehindName, .code yX1_placeBehindName cX1_placeBehindName 4 (some .int), .methodLink RX1 41 yX1_isDigit, .instanceMethod yX1_isDigit, .selects RX1 yX1_isDigit yX1_isDigit, .code yX1_isDigit cX1_isDigit 2 (some .boolean), .methodLink RX1 45 yX1_placeBehindOrder, .instanceMethod yX1_placeBehindOrder, .selects RX1 yX1_placeBehindOrder yX1_placeBehindOrder, .code yX1_placeBehindOrder cX1_placeBehindOrder 2 (some .int)] ++ wsX10)
def wsX1_startsOrder : List Cond := .code yX1_startsOrder cX1_startsOrder 2 (some .boolean) :: ([.methodLink RX1 48 yX1_sign, .instanceMethod yX1_sign, .selects RX1 yX1_sign yX1_sign, .initialized RX1, .code yX1_sign cX1_sign 2 (some .int), .fieldLink RX1 15 "GenerationNames$Pad" "length" "I", .fieldLink RX1 9 "GenerationNames$Pad" "signs" "[C"] ++ wsX10)
def wsX1_groupOfOrder : List Cond := .code yX1_groupOfOrder cX1_groupOfOrder 2 (some .int) :: ([.methodLink RX1 48 yX1_sign, .instanceMethod yX1_sign, .selects RX1 yX1_sign yX1_sign, .initialized RX1, .code yX1_sign cX1_sign 2 (some .int), .fieldLink RX1 15 "GenerationNames$Pad" "length" "I", .fieldLink RX1 9 "GenerationNames$Pad" "signs" "[C"] ++ wsX10)
def wsX1_nameOfOrder : List Cond := .code yX1_nameOfOrder cX1_nameOfOrder 2 (some .int) :: ([.methodLink RX1 48 yX1_sign, .instanceMethod yX1_sign, .selects RX1 yX1_sign yX1_sign, .initialized RX1, .code yX1_sign cX1_sign 2 (some .int), .fieldLink RX1 15 "GenerationNames$Pad" "length" "I", .fieldLink RX1 9 "GenerationNames$Pad" "signs" "[C"] ++ wsX10)
def wsX1_dataOfOrder : List Cond := .code yX1_dataOfOrder cX1_dataOfOrder 5 (some .int) :: ([.fieldLink RX1 15 "GenerationNames$Pad" "length" "I", .methodLink RX1 48 yX1_sign, .instanceMethod yX1_sign, .selects RX1 yX1_sign yX1_sign, .initialized RX1, .code yX1_sign cX1_sign 2 (some .int), .fieldLink RX1 9 "GenerationNames$Pad" "signs" "[C", .methodLink RX1 41 yX1_isDigit, .instanceMethod yX1_isDigit, .selects RX1 yX1_isDigit yX1_isDigit, .code yX1_isDigit cX1_isDigit 2 (some .boolean)] ++ wsX10)
def wsX2_init_r1 : List Cond := [Cond.methodLink RX2 3 objectInit, Cond.instanceMethod objectInit, Cond.code objectInit ⟨#[0xb1]⟩ 1 none, Cond.classLink RX2 9 RX0, Cond.fieldLink RX2 11 "GenerationNames$State" "groups" "[LGenerationNames$Group;", Cond.fieldLink RX2 17 "GenerationNames$State" "jobsBegun" "I", Cond.fieldLink RX2 21 "GenerationNames$State" "jobRuns" "Z", Cond.fieldLink RX2 25 "GenerationNames$State" "lastJobFailed" "Z", Cond.fieldLink RX2 28 "GenerationNames$State" "jobsFailed" "I", Cond.fieldLink RX2 31 "GenerationNames$State" "reads" "I", Cond.fieldLink RX2 34 "GenerationNames$State" "vainReads" "I", Cond.instantiable RX0 10, Cond.initialized RX0, Cond.instanceMethod yX0_init, Cond.code yX0_init cX0_init 1 none, Cond.methodLink RX0 3 objectInit, Cond.fieldLink RX0 9 "GenerationNames$Group" "keep" "I", Cond.fieldLink RX0 15 "GenerationNames$Group" "newest" "I", Cond.fieldLink RX0 18 "GenerationNames$Group" "size" "I", Cond.fieldLink RX0 21 "GenerationNames$Group" "rolledOff" "I", Cond.fieldLink RX0 24 "GenerationNames$Group" "deleted" "I", Cond.fieldLink RX0 27 "GenerationNames$Group" "newestForJob" "I", Cond.fieldLink RX0 30 "GenerationNames$Group" "madeByJob" "I", Cond.arrayClass .int]
def wsX2_init_r2 : List Cond := [Cond.fieldLink RX0 33 "GenerationNames$Group" "data" "[I", Cond.fieldLink RX0 37 "GenerationNames$Group" "reads" "[I", Cond.fieldLink RX0 40 "GenerationNames$Group" "jobs" "[I"]
def wsX2_init : List Cond := .code yX2_init cX2_init 2 none :: ((wsX2_init_r1 ++ wsX2_init_r2) ++ wsX20 ++ wsX00)
def wsX2_copyFrom_r1 : List Cond := [Cond.fieldLink RX2 11 "GenerationNames$State" "groups" "[LGenerationNames$Group;", Cond.fieldLink RX2 17 "GenerationNames$State" "jobsBegun" "I", Cond.fieldLink RX2 21 "GenerationNames$State" "jobRuns" "Z", Cond.fieldLink RX2 25 "GenerationNames$State" "lastJobFailed" "Z", Cond.fieldLink RX2 28 "GenerationNames$State" "jobsFailed" "I", Cond.fieldLink RX2 31 "GenerationNames$State" "reads" "I", Cond.fieldLink RX2 34 "GenerationNames$State" "vainReads" "I", Cond.methodLink RX2 38 yX0_copyFrom, Cond.instanceMethod yX0_copyFrom, Cond.selects RX0 yX0_copyFrom yX0_copyFrom, Cond.initialized RX0, Cond.code yX0_copyFrom cX0_copyFrom 2 none, Cond.fieldLink RX0 9 "GenerationNames$Group" "keep" "I", Cond.fieldLink RX0 15 "GenerationNames$Group" "newest" "I", Cond.fieldLink RX0 18 "GenerationNames$Group" "size" "I", Cond.fieldLink RX0 21 "GenerationNames$Group" "rolledOff" "I", Cond.fieldLink RX0 24 "GenerationNames$Group" "deleted" "I", Cond.fieldLink RX0 27 "GenerationNames$Group" "newestForJob" "I", Cond.fieldLink RX0 30 "GenerationNames$Group" "madeByJob" "I", Cond.fieldLink RX0 33 "GenerationNames$Group" "data" "[I", Cond.methodLink RX0 43 arraycopyName, Cond.native arraycopyName, Cond.static arraycopyName, Cond.initialized "java/lang/System"]
def wsX2_copyFrom_r2 : List Cond := [Cond.fieldLink RX0 37 "GenerationNames$Group" "reads" "[I", Cond.fieldLink RX0 40 "GenerationNames$Group" "jobs" "[I"]
def wsX2_copyFrom : List Cond := .code yX2_copyFrom cX2_copyFrom 3 none :: ((wsX2_copyFrom_r1 ++ wsX2_copyFrom_r2) ++ wsX20 ++ wsX00)
def wsX2_isGroup : List Cond := .code yX2_isGroup cX2_isGroup 2 (some .boolean) :: ([])
def wsX2_isName : List Cond := .code yX2_isName cX2_isName 2 (some .boolean) :: ([])
def wsX2_changeKeep : List Cond := .code yX2_changeKeep cX2_changeKeep 5 (some .int) :: ([.fieldLink RX2 11 "GenerationNames$State" "groups" "[LGenerationNames$Group;", .fieldLink RX2 46 "GenerationNames$Group" "keep" "I", .methodLink RX2 42 yX2_isGroup, .instanceMethod yX2_isGroup, .selects RX2 yX2_isGroup yX2_isGroup, .initialized RX2, .code yX2_isGroup cX2_isGroup 2 (some .boolean), .methodLink RX2 49 yX0_leaveMost, .instanceMethod yX0_leaveMost, .selects RX0 yX0_leaveMost yX0_leaveMost, .initialized RX0, .code yX0_leaveMost cX0_leaveMost 2 none, .fieldLink RX0 18 "GenerationNames$Group" "size" "I", .fieldLink RX0 21 "GenerationNames$Group" "rolledOff" "I", .methodLink RX0 49 yX0_oldest, .instanceMethod yX0_oldest, .selects RX0 yX0_oldest yX0_oldest, .code yX0_oldest cX0_oldest 1 (some .int), .fieldLink RX0 15 "GenerationNames$Group" "newest" "I", .methodLink RX0 53 yX0_isHole, .instanceMethod yX0_isHole, .selects RX0 yX0_isHole yX0_isHole, .code yX0_isHole cX0_isHole 2 (some .boolean), .fieldLink RX0 33 "GenerationNames$Group" "data" "[I"] ++ wsX20 ++ wsX00)
def wsX2_hasNewestOfJob : List Cond := .code yX2_hasNewestOfJob cX2_hasNewestOfJob 2 (some .boolean) :: ([.fieldLink RX2 21 "GenerationNames$State" "jobRuns" "Z", .fieldLink RX2 53 "GenerationNames$Group" "madeByJob" "I"] ++ wsX20 ++ wsX00)
def wsX2_writeByName_r1 : List Cond := [Cond.fieldLink RX2 11 "GenerationNames$State" "groups" "[LGenerationNames$Group;", Cond.fieldLink RX2 21 "GenerationNames$State" "jobRuns" "Z", Cond.fieldLink RX2 17 "GenerationNames$State" "jobsBegun" "I", Cond.fieldLink RX2 78 "GenerationNames$Group" "data" "[I", Cond.methodLink RX2 42 yX2_isGroup, Cond.instanceMethod yX2_isGroup, Cond.selects RX2 yX2_isGroup yX2_isGroup, Cond.initialized RX2, Cond.code yX2_isGroup cX2_isGroup 2 (some .boolean), Cond.methodLink RX2 56 yX2_isName, Cond.instanceMethod yX2_isName, Cond.selects RX2 yX2_isName yX2_isName, Cond.code yX2_isName cX2_isName 2 (some .boolean), Cond.methodLink RX2 59 yX2_hasNewestOfJob, Cond.instanceMethod yX2_hasNewestOfJob, Cond.selects RX2 yX2_hasNewestOfJob yX2_hasNewestOfJob, Cond.code yX2_hasNewestOfJob cX2_hasNewestOfJob 2 (some .boolean), Cond.fieldLink RX2 53 "GenerationNames$Group" "madeByJob" "I", Cond.methodLink RX2 63 yX0_make, Cond.instanceMethod yX0_make, Cond.selects RX0 yX0_make yX0_make, Cond.initialized RX0, Cond.code yX0_make cX0_make 4 (some .int), Cond.fieldLink RX0 9 "GenerationNames$Group" "keep" "I"]
def wsX2_writeByName_r2 : List Cond := [Cond.fieldLink RX0 15 "GenerationNames$Group" "newest" "I", Cond.fieldLink RX0 18 "GenerationNames$Group" "size" "I", Cond.fieldLink RX0 33 "GenerationNames$Group" "data" "[I", Cond.fieldLink RX0 37 "GenerationNames$Group" "reads" "[I", Cond.fieldLink RX0 40 "GenerationNames$Group" "jobs" "[I", Cond.fieldLink RX0 30 "GenerationNames$Group" "madeByJob" "I", Cond.methodLink RX0 64 yX0_leaveMost, Cond.instanceMethod yX0_leaveMost, Cond.selects RX0 yX0_leaveMost yX0_leaveMost, Cond.code yX0_leaveMost cX0_leaveMost 2 none, Cond.fieldLink RX0 21 "GenerationNames$Group" "rolledOff" "I", Cond.methodLink RX0 49 yX0_oldest, Cond.instanceMethod yX0_oldest, Cond.selects RX0 yX0_oldest yX0_oldest, Cond.code yX0_oldest cX0_oldest 1 (some .int), Cond.methodLink RX0 53 yX0_isHole, Cond.instanceMethod yX0_isHole, Cond.selects RX0 yX0_isHole yX0_isHole, Cond.code yX0_isHole cX0_isHole 2 (some .boolean), Cond.methodLink RX2 67 yX0_numberOf, Cond.instanceMethod yX0_numberOf, Cond.selects RX0 yX0_numberOf yX0_numberOf, Cond.code yX0_numberOf cX0_numberOf 2 (some .int), Cond.methodLink RX2 71 yX0_serialOf]
def wsX2_writeByName_r3 : List Cond := [Cond.instanceMethod yX0_serialOf, Cond.selects RX0 yX0_serialOf yX0_serialOf, Cond.code yX0_serialOf cX0_serialOf 3 (some .int), Cond.fieldLink RX0 27 "GenerationNames$Group" "newestForJob" "I", Cond.methodLink RX2 75 yX0_isThere, Cond.instanceMethod yX0_isThere, Cond.selects RX0 yX0_isThere yX0_isThere, Cond.code yX0_isThere cX0_isThere 2 (some .boolean)]
def wsX2_writeByName : List Cond := .code yX2_writeByName cX2_writeByName 6 (some .int) :: ((wsX2_writeByName_r1 ++ (wsX2_writeByName_r2 ++ wsX2_writeByName_r3)) ++ wsX20 ++ wsX00)
def wsX2_readByName_r1 : List Cond := [Cond.fieldLink RX2 11 "GenerationNames$State" "groups" "[LGenerationNames$Group;", Cond.fieldLink RX2 21 "GenerationNames$State" "jobRuns" "Z", Cond.fieldLink RX2 31 "GenerationNames$State" "reads" "I", Cond.fieldLink RX2 34 "GenerationNames$State" "vainReads" "I", Cond.fieldLink RX2 82 "GenerationNames$Group" "reads" "[I", Cond.fieldLink RX2 78 "GenerationNames$Group" "data" "[I", Cond.methodLink RX2 42 yX2_isGroup, Cond.instanceMethod yX2_isGroup, Cond.selects RX2 yX2_isGroup yX2_isGroup, Cond.initialized RX2, Cond.code yX2_isGroup cX2_isGroup 2 (some .boolean), Cond.methodLink RX2 56 yX2_isName, Cond.instanceMethod yX2_isName, Cond.selects RX2 yX2_isName yX2_isName, Cond.code yX2_isName cX2_isName 2 (some .boolean), Cond.methodLink RX2 71 yX0_serialOf, Cond.instanceMethod yX0_serialOf, Cond.selects RX0 yX0_serialOf yX0_serialOf, Cond.initialized RX0, Cond.code yX0_serialOf cX0_serialOf 3 (some .int), Cond.fieldLink RX0 30 "GenerationNames$Group" "madeByJob" "I", Cond.fieldLink RX0 27 "GenerationNames$Group" "newestForJob" "I", Cond.fieldLink RX0 15 "GenerationNames$Group" "newest" "I", Cond.methodLink RX2 75 yX0_isThere]
def wsX2_readByName_r2 : List Cond := [Cond.instanceMethod yX0_isThere, Cond.selects RX0 yX0_isThere yX0_isThere, Cond.code yX0_isThere cX0_isThere 2 (some .boolean), Cond.methodLink RX0 49 yX0_oldest, Cond.instanceMethod yX0_oldest, Cond.selects RX0 yX0_oldest yX0_oldest, Cond.code yX0_oldest cX0_oldest 1 (some .int), Cond.fieldLink RX0 18 "GenerationNames$Group" "size" "I", Cond.methodLink RX0 53 yX0_isHole, Cond.instanceMethod yX0_isHole, Cond.selects RX0 yX0_isHole yX0_isHole, Cond.code yX0_isHole cX0_isHole 2 (some .boolean), Cond.fieldLink RX0 33 "GenerationNames$Group" "data" "[I"]
def wsX2_readByName : List Cond := .code yX2_readByName cX2_readByName 6 (some .int) :: ((wsX2_readByName_r1 ++ wsX2_readByName_r2) ++ wsX20 ++ wsX00)
def wsX2_deleteByName_r1 : List Cond := [Cond.fieldLink RX2 11 "GenerationNames$State" "groups" "[LGenerationNames$Group;", Cond.fieldLink RX2 21 "GenerationNames$State" "jobRuns" "Z", Cond.methodLink RX2 42 yX2_isGroup, Cond.instanceMethod yX2_isGroup, Cond.selects RX2 yX2_isGroup yX2_isGroup, Cond.initialized RX2, Cond.code yX2_isGroup cX2_isGroup 2 (some .boolean), Cond.methodLink RX2 56 yX2_isName, Cond.instanceMethod yX2_isName, Cond.selects RX2 yX2_isName yX2_isName, Cond.code yX2_isName cX2_isName 2 (some .boolean), Cond.methodLink RX2 71 yX0_serialOf, Cond.instanceMethod yX0_serialOf, Cond.selects RX0 yX0_serialOf yX0_serialOf, Cond.initialized RX0, Cond.code yX0_serialOf cX0_serialOf 3 (some .int), Cond.fieldLink RX0 30 "GenerationNames$Group" "madeByJob" "I", Cond.fieldLink RX0 27 "GenerationNames$Group" "newestForJob" "I", Cond.fieldLink RX0 15 "GenerationNames$Group" "newest" "I", Cond.methodLink RX2 75 yX0_isThere, Cond.instanceMethod yX0_isThere, Cond.selects RX0 yX0_isThere yX0_isThere, Cond.code yX0_isThere cX0_isThere 2 (some .boolean), Cond.methodLink RX0 49 yX0_oldest]
def wsX2_deleteByName_r2 : List Cond := [Cond.instanceMethod yX0_oldest, Cond.selects RX0 yX0_oldest yX0_oldest, Cond.code yX0_oldest cX0_oldest 1 (some .int), Cond.fieldLink RX0 18 "GenerationNames$Group" "size" "I", Cond.methodLink RX0 53 yX0_isHole, Cond.instanceMethod yX0_isHole, Cond.selects RX0 yX0_isHole yX0_isHole, Cond.code yX0_isHole cX0_isHole 2 (some .boolean), Cond.fieldLink RX0 33 "GenerationNames$Group" "data" "[I", Cond.methodLink RX2 84 yX0_makeHole, Cond.instanceMethod yX0_makeHole, Cond.selects RX0 yX0_makeHole yX0_makeHole, Cond.code yX0_makeHole cX0_makeHole 2 none, Cond.fieldLink RX0 24 "GenerationNames$Group" "deleted" "I", Cond.fieldLink RX0 9 "GenerationNames$Group" "keep" "I", Cond.methodLink RX0 64 yX0_leaveMost, Cond.instanceMethod yX0_leaveMost, Cond.selects RX0 yX0_leaveMost yX0_leaveMost, Cond.code yX0_leaveMost cX0_leaveMost 2 none, Cond.fieldLink RX0 21 "GenerationNames$Group" "rolledOff" "I", Cond.methodLink RX2 67 yX0_numberOf, Cond.instanceMethod yX0_numberOf, Cond.selects RX0 yX0_numberOf yX0_numberOf, Cond.code yX0_numberOf cX0_numberOf 2 (some .int)]
def wsX2_deleteByName : List Cond := .code yX2_deleteByName cX2_deleteByName 5 (some .int) :: ((wsX2_deleteByName_r1 ++ wsX2_deleteByName_r2) ++ wsX20 ++ wsX00)
def wsX2_startJob : List Cond := .code yX2_startJob cX2_startJob 2 (some .int) :: ([.fieldLink RX2 11 "GenerationNames$State" "groups" "[LGenerationNames$Group;", .fieldLink RX2 53 "GenerationNames$Group" "madeByJob" "I", .fieldLink RX2 21 "GenerationNames$State" "jobRuns" "Z", .fieldLink RX2 17 "GenerationNames$State" "jobsBegun" "I"] ++ wsX20 ++ wsX00)
def wsX2_beginJob : List Cond := .code yX2_beginJob cX2_beginJob 2 (some .int) :: ([.fieldLink RX2 21 "GenerationNames$State" "jobRuns" "Z", .fieldLink RX2 11 "GenerationNames$State" "groups" "[LGenerationNames$Group;", .fieldLink RX2 87 "GenerationNames$Group" "newest" "I", .fieldLink RX2 90 "GenerationNames$Group" "newestForJob" "I", .methodLink RX2 93 yX2_startJob, .instanceMethod yX2_startJob, .selects RX2 yX2_startJob yX2_startJob, .initialized RX2, .code yX2_startJob cX2_startJob 2 (some .int), .fieldLink RX2 53 "GenerationNames$Group" "madeByJob" "I", .fieldLink RX2 17 "GenerationNames$State" "jobsBegun" "I"] ++ wsX20 ++ wsX00)
def wsX2_repeatJob : List Cond := .code yX2_repeatJob cX2_repeatJob 1 (some .int) :: ([.fieldLink RX2 21 "GenerationNames$State" "jobRuns" "Z", .fieldLink RX2 25 "GenerationNames$State" "lastJobFailed" "Z", .methodLink RX2 93 yX2_startJob, .instanceMethod yX2_startJob, .selects RX2 yX2_startJob yX2_startJob, .initialized RX2, .code yX2_startJob cX2_startJob 2 (some .int), .fieldLink RX2 11 "GenerationNames$State" "groups" "[LGenerationNames$Group;", .fieldLink RX2 53 "GenerationNames$Group" "madeByJob" "I", .fieldLink RX2 17 "GenerationNames$State" "jobsBegun" "I"] ++ wsX20 ++ wsX00)
def wsX2_countMadeByJob : List Cond := .code yX2_countMadeByJob cX2_countMadeByJob 3 (some .int) :: ([.fieldLink RX2 21 "GenerationNames$State" "jobRuns" "Z", .fieldLink RX2 11 "GenerationNames$State" "groups" "[LGenerationNames$Group;", .fieldLink RX2 53 "GenerationNames$Group" "madeByJob" "I", .methodLink RX2 75 yX0_isThere, .instanceMethod yX0_isThere, .selects RX0 yX0_isThere yX0_isThere, .initialized RX0, .code yX0_isThere cX0_isThere 2 (some .boolean), .fieldLink RX0 15 "GenerationNames$Group" "newest" "I", .methodLink RX0 49 yX0_oldest, .instanceMethod yX0_oldest, .selects RX0 yX0_oldest yX0_oldest, .code yX0_oldest cX0_oldest 1 (some .int), .fieldLink RX0 18 "GenerationNames$Group" "size" "I", .methodLink RX0 53 yX0_isHole, .instanceMethod yX0_isHole, .selects RX0 yX0_isHole yX0_isHole, .code yX0_isHole cX0_isHole 2 (some .boolean), .fieldLink RX0 33 "GenerationNames$Group" "data" "[I"] ++ wsX20 ++ wsX00)
def wsX2_endJob_r1 : List Cond := [Cond.fieldLink RX2 21 "GenerationNames$State" "jobRuns" "Z", Cond.fieldLink RX2 25 "GenerationNames$State" "lastJobFailed" "Z", Cond.fieldLink RX2 28 "GenerationNames$State" "jobsFailed" "I", Cond.fieldLink RX2 11 "GenerationNames$State" "groups" "[LGenerationNames$Group;", Cond.fieldLink RX2 53 "GenerationNames$Group" "madeByJob" "I", Cond.methodLink RX2 75 yX0_isThere, Cond.instanceMethod yX0_isThere, Cond.selects RX0 yX0_isThere yX0_isThere, Cond.initialized RX0, Cond.code yX0_isThere cX0_isThere 2 (some .boolean), Cond.fieldLink RX0 15 "GenerationNames$Group" "newest" "I", Cond.methodLink RX0 49 yX0_oldest, Cond.instanceMethod yX0_oldest, Cond.selects RX0 yX0_oldest yX0_oldest, Cond.code yX0_oldest cX0_oldest 1 (some .int), Cond.fieldLink RX0 18 "GenerationNames$Group" "size" "I", Cond.methodLink RX0 53 yX0_isHole, Cond.instanceMethod yX0_isHole, Cond.selects RX0 yX0_isHole yX0_isHole, Cond.code yX0_isHole cX0_isHole 2 (some .boolean), Cond.fieldLink RX0 33 "GenerationNames$Group" "data" "[I", Cond.methodLink RX2 84 yX0_makeHole, Cond.instanceMethod yX0_makeHole, Cond.selects RX0 yX0_makeHole yX0_makeHole]
def wsX2_endJob_r2 : List Cond := [Cond.code yX0_makeHole cX0_makeHole 2 none, Cond.fieldLink RX0 24 "GenerationNames$Group" "deleted" "I", Cond.fieldLink RX0 9 "GenerationNames$Group" "keep" "I", Cond.methodLink RX0 64 yX0_leaveMost, Cond.instanceMethod yX0_leaveMost, Cond.selects RX0 yX0_leaveMost yX0_leaveMost, Cond.code yX0_leaveMost cX0_leaveMost 2 none, Cond.fieldLink RX0 21 "GenerationNames$Group" "rolledOff" "I", Cond.methodLink RX2 97 yX2_countMadeByJob, Cond.instanceMethod yX2_countMadeByJob, Cond.selects RX2 yX2_countMadeByJob yX2_countMadeByJob, Cond.initialized RX2, Cond.code yX2_countMadeByJob cX2_countMadeByJob 3 (some .int)]
def wsX2_endJob : List Cond := .code yX2_endJob cX2_endJob 3 (some .int) :: ((wsX2_endJob_r1 ++ wsX2_endJob_r2) ++ wsX20 ++ wsX00)
def wsX2_aboutGroup_r1 : List Cond := [Cond.fieldLink RX2 11 "GenerationNames$State" "groups" "[LGenerationNames$Group;", Cond.fieldLink RX2 46 "GenerationNames$Group" "keep" "I", Cond.fieldLink RX2 100 "GenerationNames$Group" "size" "I", Cond.fieldLink RX2 87 "GenerationNames$Group" "newest" "I", Cond.fieldLink RX2 106 "GenerationNames$Group" "rolledOff" "I", Cond.fieldLink RX2 109 "GenerationNames$Group" "deleted" "I", Cond.methodLink RX2 42 yX2_isGroup, Cond.instanceMethod yX2_isGroup, Cond.selects RX2 yX2_isGroup yX2_isGroup, Cond.initialized RX2, Cond.code yX2_isGroup cX2_isGroup 2 (some .boolean), Cond.methodLink RX2 103 yX0_countHoles, Cond.instanceMethod yX0_countHoles, Cond.selects RX0 yX0_countHoles yX0_countHoles, Cond.initialized RX0, Cond.code yX0_countHoles cX0_countHoles 3 (some .int), Cond.fieldLink RX0 15 "GenerationNames$Group" "newest" "I", Cond.methodLink RX0 49 yX0_oldest, Cond.instanceMethod yX0_oldest, Cond.selects RX0 yX0_oldest yX0_oldest, Cond.code yX0_oldest cX0_oldest 1 (some .int), Cond.fieldLink RX0 18 "GenerationNames$Group" "size" "I", Cond.methodLink RX0 53 yX0_isHole, Cond.instanceMethod yX0_isHole]
def wsX2_aboutGroup_r2 : List Cond := [Cond.selects RX0 yX0_isHole yX0_isHole, Cond.code yX0_isHole cX0_isHole 2 (some .boolean), Cond.fieldLink RX0 33 "GenerationNames$Group" "data" "[I", Cond.methodLink RX2 67 yX0_numberOf, Cond.instanceMethod yX0_numberOf, Cond.selects RX0 yX0_numberOf yX0_numberOf, Cond.code yX0_numberOf cX0_numberOf 2 (some .int), Cond.methodLink RX2 112 yX0_sumOfData, Cond.instanceMethod yX0_sumOfData, Cond.selects RX0 yX0_sumOfData yX0_sumOfData, Cond.code yX0_sumOfData cX0_sumOfData 3 (some .int)]
def wsX2_aboutGroup : List Cond := .code yX2_aboutGroup cX2_aboutGroup 4 (some .int) :: ((wsX2_aboutGroup_r1 ++ wsX2_aboutGroup_r2) ++ wsX20 ++ wsX00)
def wsX2_aboutGeneration_r1 : List Cond := [Cond.fieldLink RX2 11 "GenerationNames$State" "groups" "[LGenerationNames$Group;", Cond.fieldLink RX2 100 "GenerationNames$Group" "size" "I", Cond.fieldLink RX2 87 "GenerationNames$Group" "newest" "I", Cond.fieldLink RX2 78 "GenerationNames$Group" "data" "[I", Cond.fieldLink RX2 82 "GenerationNames$Group" "reads" "[I", Cond.fieldLink RX2 118 "GenerationNames$Group" "jobs" "[I", Cond.fieldLink RX2 21 "GenerationNames$State" "jobRuns" "Z", Cond.methodLink RX2 42 yX2_isGroup, Cond.instanceMethod yX2_isGroup, Cond.selects RX2 yX2_isGroup yX2_isGroup, Cond.initialized RX2, Cond.code yX2_isGroup cX2_isGroup 2 (some .boolean), Cond.methodLink RX2 67 yX0_numberOf, Cond.instanceMethod yX0_numberOf, Cond.selects RX0 yX0_numberOf yX0_numberOf, Cond.initialized RX0, Cond.code yX0_numberOf cX0_numberOf 2 (some .int), Cond.methodLink RX2 115 yX0_isHole, Cond.instanceMethod yX0_isHole, Cond.selects RX0 yX0_isHole yX0_isHole, Cond.code yX0_isHole cX0_isHole 2 (some .boolean), Cond.fieldLink RX0 33 "GenerationNames$Group" "data" "[I", Cond.methodLink RX2 121 yX0_nameForJob, Cond.instanceMethod yX0_nameForJob]
def wsX2_aboutGeneration_r2 : List Cond := [Cond.selects RX0 yX0_nameForJob yX0_nameForJob, Cond.code yX0_nameForJob cX0_nameForJob 3 (some .int), Cond.fieldLink RX0 30 "GenerationNames$Group" "madeByJob" "I", Cond.fieldLink RX0 27 "GenerationNames$Group" "newestForJob" "I"]
def wsX2_aboutGeneration : List Cond := .code yX2_aboutGeneration cX2_aboutGeneration 7 (some .int) :: ((wsX2_aboutGeneration_r1 ++ wsX2_aboutGeneration_r2) ++ wsX20 ++ wsX00)
def wsX2_numberByName_r1 : List Cond := [Cond.fieldLink RX2 11 "GenerationNames$State" "groups" "[LGenerationNames$Group;", Cond.fieldLink RX2 21 "GenerationNames$State" "jobRuns" "Z", Cond.methodLink RX2 42 yX2_isGroup, Cond.instanceMethod yX2_isGroup, Cond.selects RX2 yX2_isGroup yX2_isGroup, Cond.initialized RX2, Cond.code yX2_isGroup cX2_isGroup 2 (some .boolean), Cond.methodLink RX2 56 yX2_isName, Cond.instanceMethod yX2_isName, Cond.selects RX2 yX2_isName yX2_isName, Cond.code yX2_isName cX2_isName 2 (some .boolean), Cond.methodLink RX2 71 yX0_serialOf, Cond.instanceMethod yX0_serialOf, Cond.selects RX0 yX0_serialOf yX0_serialOf, Cond.initialized RX0, Cond.code yX0_serialOf cX0_serialOf 3 (some .int), Cond.fieldLink RX0 30 "GenerationNames$Group" "madeByJob" "I", Cond.fieldLink RX0 27 "GenerationNames$Group" "newestForJob" "I", Cond.fieldLink RX0 15 "GenerationNames$Group" "newest" "I", Cond.methodLink RX2 124 yX0_numberIfThere, Cond.instanceMethod yX0_numberIfThere, Cond.selects RX0 yX0_numberIfThere yX0_numberIfThere, Cond.code yX0_numberIfThere cX0_numberIfThere 2 (some .int), Cond.methodLink RX0 57 yX0_isThere]
def wsX2_numberByName_r2 : List Cond := [Cond.instanceMethod yX0_isThere, Cond.selects RX0 yX0_isThere yX0_isThere, Cond.code yX0_isThere cX0_isThere 2 (some .boolean), Cond.methodLink RX0 49 yX0_oldest, Cond.instanceMethod yX0_oldest, Cond.selects RX0 yX0_oldest yX0_oldest, Cond.code yX0_oldest cX0_oldest 1 (some .int), Cond.fieldLink RX0 18 "GenerationNames$Group" "size" "I", Cond.methodLink RX0 53 yX0_isHole, Cond.instanceMethod yX0_isHole, Cond.selects RX0 yX0_isHole yX0_isHole, Cond.code yX0_isHole cX0_isHole 2 (some .boolean), Cond.fieldLink RX0 33 "GenerationNames$Group" "data" "[I", Cond.methodLink RX0 60 yX0_numberOf, Cond.instanceMethod yX0_numberOf, Cond.selects RX0 yX0_numberOf yX0_numberOf, Cond.code yX0_numberOf cX0_numberOf 2 (some .int)]
def wsX2_numberByName : List Cond := .code yX2_numberByName cX2_numberByName 4 (some .int) :: ((wsX2_numberByName_r1 ++ wsX2_numberByName_r2) ++ wsX20 ++ wsX00)
def wsX2_countThere : List Cond := .code yX2_countThere cX2_countThere 3 (some .int) :: ([.fieldLink RX2 11 "GenerationNames$State" "groups" "[LGenerationNames$Group;", .fieldLink RX2 100 "GenerationNames$Group" "size" "I", .methodLink RX2 103 yX0_countHoles, .instanceMethod yX0_countHoles, .selects RX0 yX0_countHoles yX0_countHoles, .initialized RX0, .code yX0_countHoles cX0_countHoles 3 (some .int), .fieldLink RX0 15 "GenerationNames$Group" "newest" "I", .methodLink RX0 49 yX0_oldest, .instanceMethod yX0_oldest, .selects RX0 yX0_oldest yX0_oldest, .code yX0_oldest cX0_oldest 1 (some .int), .fieldLink RX0 18 "GenerationNames$Group" "size" "I", .methodLink RX0 53 yX0_isHole, .instanceMethod yX0_isHole, .selects RX0 yX0_isHole yX0_isHole, .code yX0_isHole cX0_isHole 2 (some .boolean), .fieldLink RX0 33 "GenerationNames$Group" "data" "[I"] ++ wsX20 ++ wsX00)
def wsX2_countHoles : List Cond := .code yX2_countHoles cX2_countHoles 3 (some .int) :: ([.fieldLink RX2 11 "GenerationNames$State" "groups" "[LGenerationNames$Group;", .methodLink RX2 103 yX0_countHoles, .instanceMethod yX0_countHoles, .selects RX0 yX0_countHoles yX0_countHoles, .initialized RX0, .code yX0_countHoles cX0_countHoles 3 (some .int), .fieldLink RX0 15 "GenerationNames$Group" "newest" "I", .methodLink RX0 49 yX0_oldest, .instanceMethod yX0_oldest, .selects RX0 yX0_oldest yX0_oldest, .code yX0_oldest cX0_oldest 1 (some .int), .fieldLink RX0 18 "GenerationNames$Group" "size" "I", .methodLink RX0 53 yX0_isHole, .instanceMethod yX0_isHole, .selects RX0 yX0_isHole yX0_isHole, .code yX0_isHole cX0_isHole 2 (some .boolean), .fieldLink RX0 33 "GenerationNames$Group" "data" "[I"] ++ wsX20 ++ wsX00)
def wsX2_counted_r1 : List Cond := [Cond.fieldLink RX2 17 "GenerationNames$State" "jobsBegun" "I", Cond.fieldLink RX2 21 "GenerationNames$State" "jobRuns" "Z", Cond.fieldLink RX2 28 "GenerationNames$State" "jobsFailed" "I", Cond.fieldLink RX2 31 "GenerationNames$State" "reads" "I", Cond.fieldLink RX2 34 "GenerationNames$State" "vainReads" "I", Cond.methodLink RX2 127 yX2_countThere, Cond.instanceMethod yX2_countThere, Cond.selects RX2 yX2_countThere yX2_countThere, Cond.initialized RX2, Cond.code yX2_countThere cX2_countThere 3 (some .int), Cond.fieldLink RX2 11 "GenerationNames$State" "groups" "[LGenerationNames$Group;", Cond.fieldLink RX2 100 "GenerationNames$Group" "size" "I", Cond.methodLink RX2 103 yX0_countHoles, Cond.instanceMethod yX0_countHoles, Cond.selects RX0 yX0_countHoles yX0_countHoles, Cond.initialized RX0, Cond.code yX0_countHoles cX0_countHoles 3 (some .int), Cond.fieldLink RX0 15 "GenerationNames$Group" "newest" "I", Cond.methodLink RX0 49 yX0_oldest, Cond.instanceMethod yX0_oldest, Cond.selects RX0 yX0_oldest yX0_oldest, Cond.code yX0_oldest cX0_oldest 1 (some .int), Cond.fieldLink RX0 18 "GenerationNames$Group" "size" "I", Cond.methodLink RX0 53 yX0_isHole]
def wsX2_counted_r2 : List Cond := [Cond.instanceMethod yX0_isHole, Cond.selects RX0 yX0_isHole yX0_isHole, Cond.code yX0_isHole cX0_isHole 2 (some .boolean), Cond.fieldLink RX0 33 "GenerationNames$Group" "data" "[I", Cond.methodLink RX2 130 yX2_countHoles, Cond.instanceMethod yX2_countHoles, Cond.selects RX2 yX2_countHoles yX2_countHoles, Cond.code yX2_countHoles cX2_countHoles 3 (some .int), Cond.methodLink RX2 97 yX2_countMadeByJob, Cond.instanceMethod yX2_countMadeByJob, Cond.selects RX2 yX2_countMadeByJob yX2_countMadeByJob, Cond.code yX2_countMadeByJob cX2_countMadeByJob 3 (some .int), Cond.fieldLink RX2 53 "GenerationNames$Group" "madeByJob" "I", Cond.methodLink RX2 75 yX0_isThere, Cond.instanceMethod yX0_isThere, Cond.selects RX0 yX0_isThere yX0_isThere, Cond.code yX0_isThere cX0_isThere 2 (some .boolean)]
def wsX2_counted : List Cond := .code yX2_counted cX2_counted 2 (some .int) :: ((wsX2_counted_r1 ++ wsX2_counted_r2) ++ wsX20 ++ wsX00)
def wsX2_isSo_r1 : List Cond := [Cond.fieldLink RX2 100 "GenerationNames$Group" "size" "I", Cond.fieldLink RX2 21 "GenerationNames$State" "jobRuns" "Z", Cond.methodLink RX2 103 yX0_countHoles, Cond.instanceMethod yX0_countHoles, Cond.selects RX0 yX0_countHoles yX0_countHoles, Cond.initialized RX0, Cond.code yX0_countHoles cX0_countHoles 3 (some .int), Cond.fieldLink RX0 15 "GenerationNames$Group" "newest" "I", Cond.methodLink RX0 49 yX0_oldest, Cond.instanceMethod yX0_oldest, Cond.selects RX0 yX0_oldest yX0_oldest, Cond.code yX0_oldest cX0_oldest 1 (some .int), Cond.fieldLink RX0 18 "GenerationNames$Group" "size" "I", Cond.methodLink RX0 53 yX0_isHole, Cond.instanceMethod yX0_isHole, Cond.selects RX0 yX0_isHole yX0_isHole, Cond.code yX0_isHole cX0_isHole 2 (some .boolean), Cond.fieldLink RX0 33 "GenerationNames$Group" "data" "[I", Cond.methodLink RX2 59 yX2_hasNewestOfJob, Cond.instanceMethod yX2_hasNewestOfJob, Cond.selects RX2 yX2_hasNewestOfJob yX2_hasNewestOfJob, Cond.initialized RX2, Cond.code yX2_hasNewestOfJob cX2_hasNewestOfJob 2 (some .boolean), Cond.fieldLink RX2 53 "GenerationNames$Group" "madeByJob" "I"]
def wsX2_isSo_r2 : List Cond := [Cond.methodLink RX2 71 yX0_serialOf, Cond.instanceMethod yX0_serialOf, Cond.selects RX0 yX0_serialOf yX0_serialOf, Cond.code yX0_serialOf cX0_serialOf 3 (some .int), Cond.fieldLink RX0 30 "GenerationNames$Group" "madeByJob" "I", Cond.fieldLink RX0 27 "GenerationNames$Group" "newestForJob" "I", Cond.methodLink RX2 75 yX0_isThere, Cond.instanceMethod yX0_isThere, Cond.selects RX0 yX0_isThere yX0_isThere, Cond.code yX0_isThere cX0_isThere 2 (some .boolean)]
def wsX2_isSo : List Cond := .code yX2_isSo cX2_isSo 3 (some .boolean) :: ((wsX2_isSo_r1 ++ wsX2_isSo_r2) ++ wsX00 ++ wsX20)
def wsX2_groupsThatAre_r1 : List Cond := [Cond.fieldLink RX2 11 "GenerationNames$State" "groups" "[LGenerationNames$Group;", Cond.methodLink RX2 131 yX2_isSo, Cond.instanceMethod yX2_isSo, Cond.selects RX2 yX2_isSo yX2_isSo, Cond.initialized RX2, Cond.code yX2_isSo cX2_isSo 3 (some .boolean), Cond.fieldLink RX2 100 "GenerationNames$Group" "size" "I", Cond.fieldLink RX2 21 "GenerationNames$State" "jobRuns" "Z", Cond.methodLink RX2 103 yX0_countHoles, Cond.instanceMethod yX0_countHoles, Cond.selects RX0 yX0_countHoles yX0_countHoles, Cond.initialized RX0, Cond.code yX0_countHoles cX0_countHoles 3 (some .int), Cond.fieldLink RX0 15 "GenerationNames$Group" "newest" "I", Cond.methodLink RX0 49 yX0_oldest, Cond.instanceMethod yX0_oldest, Cond.selects RX0 yX0_oldest yX0_oldest, Cond.code yX0_oldest cX0_oldest 1 (some .int), Cond.fieldLink RX0 18 "GenerationNames$Group" "size" "I", Cond.methodLink RX0 53 yX0_isHole, Cond.instanceMethod yX0_isHole, Cond.selects RX0 yX0_isHole yX0_isHole, Cond.code yX0_isHole cX0_isHole 2 (some .boolean), Cond.fieldLink RX0 33 "GenerationNames$Group" "data" "[I"]
def wsX2_groupsThatAre_r2 : List Cond := [Cond.methodLink RX2 59 yX2_hasNewestOfJob, Cond.instanceMethod yX2_hasNewestOfJob, Cond.selects RX2 yX2_hasNewestOfJob yX2_hasNewestOfJob, Cond.code yX2_hasNewestOfJob cX2_hasNewestOfJob 2 (some .boolean), Cond.fieldLink RX2 53 "GenerationNames$Group" "madeByJob" "I", Cond.methodLink RX2 71 yX0_serialOf, Cond.instanceMethod yX0_serialOf, Cond.selects RX0 yX0_serialOf yX0_serialOf, Cond.code yX0_serialOf cX0_serialOf 3 (some .int), Cond.fieldLink RX0 30 "GenerationNames$Group" "madeByJob" "I", Cond.fieldLink RX0 27 "GenerationNames$Group" "newestForJob" "I", Cond.methodLink RX2 75 yX0_isThere, Cond.instanceMethod yX0_isThere, Cond.selects RX0 yX0_isThere yX0_isThere, Cond.code yX0_isThere cX0_isThere 2 (some .boolean)]
def wsX2_groupsThatAre : List Cond := .code yX2_groupsThatAre cX2_groupsThatAre 4 (some .int) :: ((wsX2_groupsThatAre_r1 ++ wsX2_groupsThatAre_r2) ++ wsX20 ++ wsX00)
def wsX2_numberThatRolls_r1 : List Cond := [Cond.fieldLink RX2 11 "GenerationNames$State" "groups" "[LGenerationNames$Group;", Cond.fieldLink RX2 100 "GenerationNames$Group" "size" "I", Cond.fieldLink RX2 46 "GenerationNames$Group" "keep" "I", Cond.methodLink RX2 42 yX2_isGroup, Cond.instanceMethod yX2_isGroup, Cond.selects RX2 yX2_isGroup yX2_isGroup, Cond.initialized RX2, Cond.code yX2_isGroup cX2_isGroup 2 (some .boolean), Cond.methodLink RX2 135 yX0_oldest, Cond.instanceMethod yX0_oldest, Cond.selects RX0 yX0_oldest yX0_oldest, Cond.initialized RX0, Cond.code yX0_oldest cX0_oldest 1 (some .int), Cond.fieldLink RX0 15 "GenerationNames$Group" "newest" "I", Cond.fieldLink RX0 18 "GenerationNames$Group" "size" "I", Cond.methodLink RX2 124 yX0_numberIfThere, Cond.instanceMethod yX0_numberIfThere, Cond.selects RX0 yX0_numberIfThere yX0_numberIfThere, Cond.code yX0_numberIfThere cX0_numberIfThere 2 (some .int), Cond.methodLink RX0 57 yX0_isThere, Cond.instanceMethod yX0_isThere, Cond.selects RX0 yX0_isThere yX0_isThere, Cond.code yX0_isThere cX0_isThere 2 (some .boolean), Cond.methodLink RX0 49 yX0_oldest]
def wsX2_numberThatRolls_r2 : List Cond := [Cond.methodLink RX0 53 yX0_isHole, Cond.instanceMethod yX0_isHole, Cond.selects RX0 yX0_isHole yX0_isHole, Cond.code yX0_isHole cX0_isHole 2 (some .boolean), Cond.fieldLink RX0 33 "GenerationNames$Group" "data" "[I", Cond.methodLink RX0 60 yX0_numberOf, Cond.instanceMethod yX0_numberOf, Cond.selects RX0 yX0_numberOf yX0_numberOf, Cond.code yX0_numberOf cX0_numberOf 2 (some .int)]
def wsX2_numberThatRolls : List Cond := .code yX2_numberThatRolls cX2_numberThatRolls 3 (some .int) :: ((wsX2_numberThatRolls_r1 ++ wsX2_numberThatRolls_r2) ++ wsX20 ++ wsX00)
def wsX2_newestIfFailed_r1 : List Cond := [Cond.fieldLink RX2 11 "GenerationNames$State" "groups" "[LGenerationNames$Group;", Cond.fieldLink RX2 87 "GenerationNames$Group" "newest" "I", Cond.methodLink RX2 42 yX2_isGroup, Cond.instanceMethod yX2_isGroup, Cond.selects RX2 yX2_isGroup yX2_isGroup, Cond.initialized RX2, Cond.code yX2_isGroup cX2_isGroup 2 (some .boolean), Cond.methodLink RX2 59 yX2_hasNewestOfJob, Cond.instanceMethod yX2_hasNewestOfJob, Cond.selects RX2 yX2_hasNewestOfJob yX2_hasNewestOfJob, Cond.code yX2_hasNewestOfJob cX2_hasNewestOfJob 2 (some .boolean), Cond.fieldLink RX2 21 "GenerationNames$State" "jobRuns" "Z", Cond.fieldLink RX2 53 "GenerationNames$Group" "madeByJob" "I", Cond.methodLink RX2 124 yX0_numberIfThere, Cond.instanceMethod yX0_numberIfThere, Cond.selects RX0 yX0_numberIfThere yX0_numberIfThere, Cond.initialized RX0, Cond.code yX0_numberIfThere cX0_numberIfThere 2 (some .int), Cond.methodLink RX0 57 yX0_isThere, Cond.instanceMethod yX0_isThere, Cond.selects RX0 yX0_isThere yX0_isThere, Cond.code yX0_isThere cX0_isThere 2 (some .boolean), Cond.fieldLink RX0 15 "GenerationNames$Group" "newest" "I", Cond.methodLink RX0 49 yX0_oldest]
def wsX2_newestIfFailed_r2 : List Cond := [Cond.instanceMethod yX0_oldest, Cond.selects RX0 yX0_oldest yX0_oldest, Cond.code yX0_oldest cX0_oldest 1 (some .int), Cond.fieldLink RX0 18 "GenerationNames$Group" "size" "I", Cond.methodLink RX0 53 yX0_isHole, Cond.instanceMethod yX0_isHole, Cond.selects RX0 yX0_isHole yX0_isHole, Cond.code yX0_isHole cX0_isHole 2 (some .boolean), Cond.fieldLink RX0 33 "GenerationNames$Group" "data" "[I", Cond.methodLink RX0 60 yX0_numberOf, Cond.instanceMethod yX0_numberOf, Cond.selects RX0 yX0_numberOf yX0_numberOf, Cond.code yX0_numberOf cX0_numberOf 2 (some .int)]
def wsX2_newestIfFailed : List Cond := .code yX2_newestIfFailed cX2_newestIfFailed 3 (some .int) :: ((wsX2_newestIfFailed_r1 ++ wsX2_newestIfFailed_r2) ++ wsX20 ++ wsX00)
def wsX2_leastKeepOf : List Cond := .code yX2_leastKeepOf cX2_leastKeepOf 2 (some .int) :: ([.fieldLink RX2 11 "GenerationNames$State" "groups" "[LGenerationNames$Group;", .fieldLink RX2 100 "GenerationNames$Group" "size" "I", .methodLink RX2 138 Lib.Math.max.name, .static Lib.Math.max.name, .initialized "java/lang/Math", .code Lib.Math.max.name Lib.Math.max.code 2 (some .int), .methodLink RX2 42 yX2_isGroup, .instanceMethod yX2_isGroup, .selects RX2 yX2_isGroup yX2_isGroup, .initialized RX2, .code yX2_isGroup cX2_isGroup 2 (some .boolean)] ++ wsX20 ++ wsX00)
def wsX3_init_r1 : List Cond := [Cond.methodLink RX3 3 objectInit, Cond.instanceMethod objectInit, Cond.code objectInit ⟨#[0xb1]⟩ 1 none, Cond.classLink RX3 9 RX2, Cond.instantiable RX2 7, Cond.initialized RX2, Cond.fieldLink RX3 12 "GenerationNames" "now" "LGenerationNames$State;", Cond.fieldLink RX3 16 "GenerationNames" "history" "[LGenerationNames$State;", Cond.fieldLink RX3 20 "GenerationNames" "undoable" "I", Cond.fieldLink RX3 24 "GenerationNames" "slots" "[LGenerationNames$State;", Cond.arrayClass .boolean, Cond.fieldLink RX3 27 "GenerationNames" "saved" "[Z", Cond.classLink RX3 31 RX1, Cond.instantiable RX1 2, Cond.initialized RX1, Cond.fieldLink RX3 34 "GenerationNames" "pad" "LGenerationNames$Pad;", Cond.methodLink RX3 11 yX2_init, Cond.instanceMethod yX2_init, Cond.code yX2_init cX2_init 2 none, Cond.methodLink RX2 3 objectInit, Cond.classLink RX2 9 RX0, Cond.fieldLink RX2 11 "GenerationNames$State" "groups" "[LGenerationNames$Group;", Cond.fieldLink RX2 17 "GenerationNames$State" "jobsBegun" "I", Cond.fieldLink RX2 21 "GenerationNames$State" "jobRuns" "Z"]
def wsX3_init_r2 : List Cond := [Cond.fieldLink RX2 25 "GenerationNames$State" "lastJobFailed" "Z", Cond.fieldLink RX2 28 "GenerationNames$State" "jobsFailed" "I", Cond.fieldLink RX2 31 "GenerationNames$State" "reads" "I", Cond.fieldLink RX2 34 "GenerationNames$State" "vainReads" "I", Cond.instantiable RX0 10, Cond.initialized RX0, Cond.instanceMethod yX0_init, Cond.code yX0_init cX0_init 1 none, Cond.methodLink RX0 3 objectInit, Cond.fieldLink RX0 9 "GenerationNames$Group" "keep" "I", Cond.fieldLink RX0 15 "GenerationNames$Group" "newest" "I", Cond.fieldLink RX0 18 "GenerationNames$Group" "size" "I", Cond.fieldLink RX0 21 "GenerationNames$Group" "rolledOff" "I", Cond.fieldLink RX0 24 "GenerationNames$Group" "deleted" "I", Cond.fieldLink RX0 27 "GenerationNames$Group" "newestForJob" "I", Cond.fieldLink RX0 30 "GenerationNames$Group" "madeByJob" "I", Cond.arrayClass .int, Cond.fieldLink RX0 33 "GenerationNames$Group" "data" "[I", Cond.fieldLink RX0 37 "GenerationNames$Group" "reads" "[I", Cond.fieldLink RX0 40 "GenerationNames$Group" "jobs" "[I", Cond.instanceMethod yX1_init, Cond.code yX1_init cX1_init 1 none, Cond.methodLink RX1 3 objectInit, Cond.arrayClass .char]
def wsX3_init_r3 : List Cond := [Cond.fieldLink RX1 9 "GenerationNames$Pad" "signs" "[C", Cond.fieldLink RX1 15 "GenerationNames$Pad" "length" "I"]
def wsX3_init : List Cond := .code yX3_init cX3_init 2 none :: ((wsX3_init_r1 ++ (wsX3_init_r2 ++ wsX3_init_r3)) ++ wsX20 ++ wsX30 ++ wsX10 ++ wsX00)
def wsX3_noteStateBefore_r1 : List Cond := [Cond.fieldLink RX3 16 "GenerationNames" "history" "[LGenerationNames$State;", Cond.fieldLink RX3 20 "GenerationNames" "undoable" "I", Cond.fieldLink RX3 12 "GenerationNames" "now" "LGenerationNames$State;", Cond.methodLink RX3 109 yX2_copyFrom, Cond.instanceMethod yX2_copyFrom, Cond.selects RX2 yX2_copyFrom yX2_copyFrom, Cond.initialized RX2, Cond.code yX2_copyFrom cX2_copyFrom 3 none, Cond.fieldLink RX2 11 "GenerationNames$State" "groups" "[LGenerationNames$Group;", Cond.fieldLink RX2 17 "GenerationNames$State" "jobsBegun" "I", Cond.fieldLink RX2 21 "GenerationNames$State" "jobRuns" "Z", Cond.fieldLink RX2 25 "GenerationNames$State" "lastJobFailed" "Z", Cond.fieldLink RX2 28 "GenerationNames$State" "jobsFailed" "I", Cond.fieldLink RX2 31 "GenerationNames$State" "reads" "I", Cond.fieldLink RX2 34 "GenerationNames$State" "vainReads" "I", Cond.methodLink RX2 38 yX0_copyFrom, Cond.instanceMethod yX0_copyFrom, Cond.selects RX0 yX0_copyFrom yX0_copyFrom, Cond.initialized RX0, Cond.code yX0_copyFrom cX0_copyFrom 2 none, Cond.fieldLink RX0 9 "GenerationNames$Group" "keep" "I", Cond.fieldLink RX0 15 "GenerationNames$Group" "newest" "I", Cond.fieldLink RX0 18 "GenerationNames$Group" "size" "I", Cond.fieldLink RX0 21 "GenerationNames$Group" "rolledOff" "I"]
def wsX3_noteStateBefore_r2 : List Cond := [Cond.fieldLink RX0 24 "GenerationNames$Group" "deleted" "I", Cond.fieldLink RX0 27 "GenerationNames$Group" "newestForJob" "I", Cond.fieldLink RX0 30 "GenerationNames$Group" "madeByJob" "I", Cond.fieldLink RX0 33 "GenerationNames$Group" "data" "[I", Cond.methodLink RX0 43 arraycopyName, Cond.native arraycopyName, Cond.static arraycopyName, Cond.initialized "java/lang/System", Cond.fieldLink RX0 37 "GenerationNames$Group" "reads" "[I", Cond.fieldLink RX0 40 "GenerationNames$Group" "jobs" "[I"]
def wsX3_noteStateBefore : List Cond := .code yX3_noteStateBefore cX3_noteStateBefore 1 none :: ((wsX3_noteStateBefore_r1 ++ wsX3_noteStateBefore_r2) ++ wsX30 ++ wsX20 ++ wsX00)
def wsX3_isError : List Cond := .code yX3_isError cX3_isError 1 (some .boolean) :: ([])
def wsX3_dropOldestState : List Cond := .code yX3_dropOldestState cX3_dropOldestState 3 none :: ([.fieldLink RX3 16 "GenerationNames" "history" "[LGenerationNames$State;"] ++ wsX30)
def wsX3_recorded : List Cond := .code yX3_recorded cX3_recorded 2 (some .int) :: ([.fieldLink RX3 20 "GenerationNames" "undoable" "I", .methodLink RX3 120 yX3_isError, .static yX3_isError, .initialized RX3, .code yX3_isError cX3_isError 1 (some .boolean), .methodLink RX3 123 yX3_dropOldestState, .instanceMethod yX3_dropOldestState, .selects RX3 yX3_dropOldestState yX3_dropOldestState, .code yX3_dropOldestState cX3_dropOldestState 3 none, .fieldLink RX3 16 "GenerationNames" "history" "[LGenerationNames$State;"] ++ wsX30)
def wsX3_keep_r1 : List Cond := [Cond.fieldLink RX3 12 "GenerationNames" "now" "LGenerationNames$State;", Cond.methodLink RX3 38 yX3_noteStateBefore, Cond.instanceMethod yX3_noteStateBefore, Cond.selects RX3 yX3_noteStateBefore yX3_noteStateBefore, Cond.initialized RX3, Cond.code yX3_noteStateBefore cX3_noteStateBefore 1 none, Cond.fieldLink RX3 16 "GenerationNames" "history" "[LGenerationNames$State;", Cond.fieldLink RX3 20 "GenerationNames" "undoable" "I", Cond.methodLink RX3 109 yX2_copyFrom, Cond.instanceMethod yX2_copyFrom, Cond.selects RX2 yX2_copyFrom yX2_copyFrom, Cond.initialized RX2, Cond.code yX2_copyFrom cX2_copyFrom 3 none, Cond.fieldLink RX2 11 "GenerationNames$State" "groups" "[LGenerationNames$Group;", Cond.fieldLink RX2 17 "GenerationNames$State" "jobsBegun" "I", Cond.fieldLink RX2 21 "GenerationNames$State" "jobRuns" "Z", Cond.fieldLink RX2 25 "GenerationNames$State" "lastJobFailed" "Z", Cond.fieldLink RX2 28 "GenerationNames$State" "jobsFailed" "I", Cond.fieldLink RX2 31 "GenerationNames$State" "reads" "I", Cond.fieldLink RX2 34 "GenerationNames$State" "vainReads" "I", Cond.methodLink RX2 38 yX0_copyFrom, Cond.instanceMethod yX0_copyFrom, Cond.selects RX0 yX0_copyFrom yX0_copyFrom, Cond.initialized RX0]
def wsX3_keep_r2 : List Cond := [Cond.code yX0_copyFrom cX0_copyFrom 2 none, Cond.fieldLink RX0 9 "GenerationNames$Group" "keep" "I", Cond.fieldLink RX0 15 "GenerationNames$Group" "newest" "I", Cond.fieldLink RX0 18 "GenerationNames$Group" "size" "I", Cond.fieldLink RX0 21 "GenerationNames$Group" "rolledOff" "I", Cond.fieldLink RX0 24 "GenerationNames$Group" "deleted" "I", Cond.fieldLink RX0 27 "GenerationNames$Group" "newestForJob" "I", Cond.fieldLink RX0 30 "GenerationNames$Group" "madeByJob" "I", Cond.fieldLink RX0 33 "GenerationNames$Group" "data" "[I", Cond.methodLink RX0 43 arraycopyName, Cond.native arraycopyName, Cond.static arraycopyName, Cond.initialized "java/lang/System", Cond.fieldLink RX0 37 "GenerationNames$Group" "reads" "[I", Cond.fieldLink RX0 40 "GenerationNames$Group" "jobs" "[I", Cond.methodLink RX3 41 yX2_changeKeep, Cond.instanceMethod yX2_changeKeep, Cond.selects RX2 yX2_changeKeep yX2_changeKeep, Cond.code yX2_changeKeep cX2_changeKeep 5 (some .int), Cond.fieldLink RX2 46 "GenerationNames$Group" "keep" "I", Cond.methodLink RX2 42 yX2_isGroup, Cond.instanceMethod yX2_isGroup, Cond.selects RX2 yX2_isGroup yX2_isGroup, Cond.code yX2_isGroup cX2_isGroup 2 (some .boolean)]
def wsX3_keep_r3 : List Cond := [Cond.methodLink RX2 49 yX0_leaveMost, Cond.instanceMethod yX0_leaveMost, Cond.selects RX0 yX0_leaveMost yX0_leaveMost, Cond.code yX0_leaveMost cX0_leaveMost 2 none, Cond.methodLink RX0 49 yX0_oldest, Cond.instanceMethod yX0_oldest, Cond.selects RX0 yX0_oldest yX0_oldest, Cond.code yX0_oldest cX0_oldest 1 (some .int), Cond.methodLink RX0 53 yX0_isHole, Cond.instanceMethod yX0_isHole, Cond.selects RX0 yX0_isHole yX0_isHole, Cond.code yX0_isHole cX0_isHole 2 (some .boolean), Cond.methodLink RX3 45 yX3_recorded, Cond.instanceMethod yX3_recorded, Cond.selects RX3 yX3_recorded yX3_recorded, Cond.code yX3_recorded cX3_recorded 2 (some .int), Cond.methodLink RX3 120 yX3_isError, Cond.static yX3_isError, Cond.code yX3_isError cX3_isError 1 (some .boolean), Cond.methodLink RX3 123 yX3_dropOldestState, Cond.instanceMethod yX3_dropOldestState, Cond.selects RX3 yX3_dropOldestState yX3_dropOldestState, Cond.code yX3_dropOldestState cX3_dropOldestState 3 none]
def wsX3_keep : List Cond := .code yX3_keep cX3_keep 3 (some .int) :: ((wsX3_keep_r1 ++ (wsX3_keep_r2 ++ wsX3_keep_r3)) ++ wsX30 ++ wsX20 ++ wsX00)
def wsX3_write_r1 : List Cond := [Cond.fieldLink RX3 12 "GenerationNames" "now" "LGenerationNames$State;", Cond.methodLink RX3 38 yX3_noteStateBefore, Cond.instanceMethod yX3_noteStateBefore, Cond.selects RX3 yX3_noteStateBefore yX3_noteStateBefore, Cond.initialized RX3, Cond.code yX3_noteStateBefore cX3_noteStateBefore 1 none, Cond.fieldLink RX3 16 "GenerationNames" "history" "[LGenerationNames$State;", Cond.fieldLink RX3 20 "GenerationNames" "undoable" "I", Cond.methodLink RX3 109 yX2_copyFrom, Cond.instanceMethod yX2_copyFrom, Cond.selects RX2 yX2_copyFrom yX2_copyFrom, Cond.initialized RX2, Cond.code yX2_copyFrom cX2_copyFrom 3 none, Cond.fieldLink RX2 11 "GenerationNames$State" "groups" "[LGenerationNames$Group;", Cond.fieldLink RX2 17 "GenerationNames$State" "jobsBegun" "I", Cond.fieldLink RX2 21 "GenerationNames$State" "jobRuns" "Z", Cond.fieldLink RX2 25 "GenerationNames$State" "lastJobFailed" "Z", Cond.fieldLink RX2 28 "GenerationNames$State" "jobsFailed" "I", Cond.fieldLink RX2 31 "GenerationNames$State" "reads" "I", Cond.fieldLink RX2 34 "GenerationNames$State" "vainReads" "I", Cond.methodLink RX2 38 yX0_copyFrom, Cond.instanceMethod yX0_copyFrom, Cond.selects RX0 yX0_copyFrom yX0_copyFrom, Cond.initialized RX0]
def wsX3_write_r2 : List Cond := [Cond.code yX0_copyFrom cX0_copyFrom 2 none, Cond.fieldLink RX0 9 "GenerationNames$Group" "keep" "I", Cond.fieldLink RX0 15 "GenerationNames$Group" "newest" "I", Cond.fieldLink RX0 18 "GenerationNames$Group" "size" "I", Cond.fieldLink RX0 21 "GenerationNames$Group" "rolledOff" "I", Cond.fieldLink RX0 24 "GenerationNames$Group" "deleted" "I", Cond.fieldLink RX0 27 "GenerationNames$Group" "newestForJob" "I", Cond.fieldLink RX0 30 "GenerationNames$Group" "madeByJob" "I", Cond.fieldLink RX0 33 "GenerationNames$Group" "data" "[I", Cond.methodLink RX0 43 arraycopyName, Cond.native arraycopyName, Cond.static arraycopyName, Cond.initialized "java/lang/System", Cond.fieldLink RX0 37 "GenerationNames$Group" "reads" "[I", Cond.fieldLink RX0 40 "GenerationNames$Group" "jobs" "[I", Cond.methodLink RX3 49 yX2_writeByName, Cond.instanceMethod yX2_writeByName, Cond.selects RX2 yX2_writeByName yX2_writeByName, Cond.code yX2_writeByName cX2_writeByName 6 (some .int), Cond.fieldLink RX2 78 "GenerationNames$Group" "data" "[I", Cond.methodLink RX2 42 yX2_isGroup, Cond.instanceMethod yX2_isGroup, Cond.selects RX2 yX2_isGroup yX2_isGroup, Cond.code yX2_isGroup cX2_isGroup 2 (some .boolean)]
def wsX3_write_r3 : List Cond := [Cond.methodLink RX2 56 yX2_isName, Cond.instanceMethod yX2_isName, Cond.selects RX2 yX2_isName yX2_isName, Cond.code yX2_isName cX2_isName 2 (some .boolean), Cond.methodLink RX2 59 yX2_hasNewestOfJob, Cond.instanceMethod yX2_hasNewestOfJob, Cond.selects RX2 yX2_hasNewestOfJob yX2_hasNewestOfJob, Cond.code yX2_hasNewestOfJob cX2_hasNewestOfJob 2 (some .boolean), Cond.fieldLink RX2 53 "GenerationNames$Group" "madeByJob" "I", Cond.methodLink RX2 63 yX0_make, Cond.instanceMethod yX0_make, Cond.selects RX0 yX0_make yX0_make, Cond.code yX0_make cX0_make 4 (some .int), Cond.methodLink RX0 64 yX0_leaveMost, Cond.instanceMethod yX0_leaveMost, Cond.selects RX0 yX0_leaveMost yX0_leaveMost, Cond.code yX0_leaveMost cX0_leaveMost 2 none, Cond.methodLink RX0 49 yX0_oldest, Cond.instanceMethod yX0_oldest, Cond.selects RX0 yX0_oldest yX0_oldest, Cond.code yX0_oldest cX0_oldest 1 (some .int), Cond.methodLink RX0 53 yX0_isHole, Cond.instanceMethod yX0_isHole, Cond.selects RX0 yX0_isHole yX0_isHole]
def wsX3_write_r4 : List Cond := [Cond.code yX0_isHole cX0_isHole 2 (some .boolean), Cond.methodLink RX2 67 yX0_numberOf, Cond.instanceMethod yX0_numberOf, Cond.selects RX0 yX0_numberOf yX0_numberOf, Cond.code yX0_numberOf cX0_numberOf 2 (some .int), Cond.methodLink RX2 71 yX0_serialOf, Cond.instanceMethod yX0_serialOf, Cond.selects RX0 yX0_serialOf yX0_serialOf, Cond.code yX0_serialOf cX0_serialOf 3 (some .int), Cond.methodLink RX2 75 yX0_isThere, Cond.instanceMethod yX0_isThere, Cond.selects RX0 yX0_isThere yX0_isThere, Cond.code yX0_isThere cX0_isThere 2 (some .boolean), Cond.methodLink RX3 45 yX3_recorded, Cond.instanceMethod yX3_recorded, Cond.selects RX3 yX3_recorded yX3_recorded, Cond.code yX3_recorded cX3_recorded 2 (some .int), Cond.methodLink RX3 120 yX3_isError, Cond.static yX3_isError, Cond.code yX3_isError cX3_isError 1 (some .boolean), Cond.methodLink RX3 123 yX3_dropOldestState, Cond.instanceMethod yX3_dropOldestState, Cond.selects RX3 yX3_dropOldestState yX3_dropOldestState, Cond.code yX3_dropOldestState cX3_dropOldestState 3 none]
def wsX3_write : List Cond := .code yX3_write cX3_write 4 (some .int) :: ((wsX3_write_r1 ++ (wsX3_write_r2 ++ (wsX3_write_r3 ++ wsX3_write_r4))) ++ wsX30 ++ wsX20 ++ wsX00)
def wsX3_read_r1 : List Cond := [Cond.fieldLink RX3 12 "GenerationNames" "now" "LGenerationNames$State;", Cond.methodLink RX3 38 yX3_noteStateBefore, Cond.instanceMethod yX3_noteStateBefore, Cond.selects RX3 yX3_noteStateBefore yX3_noteStateBefore, Cond.initialized RX3, Cond.code yX3_noteStateBefore cX3_noteStateBefore 1 none, Cond.fieldLink RX3 16 "GenerationNames" "history" "[LGenerationNames$State;", Cond.fieldLink RX3 20 "GenerationNames" "undoable" "I", Cond.methodLink RX3 109 yX2_copyFrom, Cond.instanceMethod yX2_copyFrom, Cond.selects RX2 yX2_copyFrom yX2_copyFrom, Cond.initialized RX2, Cond.code yX2_copyFrom cX2_copyFrom 3 none, Cond.fieldLink RX2 11 "GenerationNames$State" "groups" "[LGenerationNames$Group;", Cond.fieldLink RX2 17 "GenerationNames$State" "jobsBegun" "I", Cond.fieldLink RX2 21 "GenerationNames$State" "jobRuns" "Z", Cond.fieldLink RX2 25 "GenerationNames$State" "lastJobFailed" "Z", Cond.fieldLink RX2 28 "GenerationNames$State" "jobsFailed" "I", Cond.fieldLink RX2 31 "GenerationNames$State" "reads" "I", Cond.fieldLink RX2 34 "GenerationNames$State" "vainReads" "I", Cond.methodLink RX2 38 yX0_copyFrom, Cond.instanceMethod yX0_copyFrom, Cond.selects RX0 yX0_copyFrom yX0_copyFrom, Cond.initialized RX0]
def wsX3_read_r2 : List Cond := [Cond.code yX0_copyFrom cX0_copyFrom 2 none, Cond.fieldLink RX0 9 "GenerationNames$Group" "keep" "I", Cond.fieldLink RX0 15 "GenerationNames$Group" "newest" "I", Cond.fieldLink RX0 18 "GenerationNames$Group" "size" "I", Cond.fieldLink RX0 21 "GenerationNames$Group" "rolledOff" "I", Cond.fieldLink RX0 24 "GenerationNames$Group" "deleted" "I", Cond.fieldLink RX0 27 "GenerationNames$Group" "newestForJob" "I", Cond.fieldLink RX0 30 "GenerationNames$Group" "madeByJob" "I", Cond.fieldLink RX0 33 "GenerationNames$Group" "data" "[I", Cond.methodLink RX0 43 arraycopyName, Cond.native arraycopyName, Cond.static arraycopyName, Cond.initialized "java/lang/System", Cond.fieldLink RX0 37 "GenerationNames$Group" "reads" "[I", Cond.fieldLink RX0 40 "GenerationNames$Group" "jobs" "[I", Cond.methodLink RX3 53 yX2_readByName, Cond.instanceMethod yX2_readByName, Cond.selects RX2 yX2_readByName yX2_readByName, Cond.code yX2_readByName cX2_readByName 6 (some .int), Cond.fieldLink RX2 82 "GenerationNames$Group" "reads" "[I", Cond.fieldLink RX2 78 "GenerationNames$Group" "data" "[I", Cond.methodLink RX2 42 yX2_isGroup, Cond.instanceMethod yX2_isGroup, Cond.selects RX2 yX2_isGroup yX2_isGroup]
def wsX3_read_r3 : List Cond := [Cond.code yX2_isGroup cX2_isGroup 2 (some .boolean), Cond.methodLink RX2 56 yX2_isName, Cond.instanceMethod yX2_isName, Cond.selects RX2 yX2_isName yX2_isName, Cond.code yX2_isName cX2_isName 2 (some .boolean), Cond.methodLink RX2 71 yX0_serialOf, Cond.instanceMethod yX0_serialOf, Cond.selects RX0 yX0_serialOf yX0_serialOf, Cond.code yX0_serialOf cX0_serialOf 3 (some .int), Cond.methodLink RX2 75 yX0_isThere, Cond.instanceMethod yX0_isThere, Cond.selects RX0 yX0_isThere yX0_isThere, Cond.code yX0_isThere cX0_isThere 2 (some .boolean), Cond.methodLink RX0 49 yX0_oldest, Cond.instanceMethod yX0_oldest, Cond.selects RX0 yX0_oldest yX0_oldest, Cond.code yX0_oldest cX0_oldest 1 (some .int), Cond.methodLink RX0 53 yX0_isHole, Cond.instanceMethod yX0_isHole, Cond.selects RX0 yX0_isHole yX0_isHole, Cond.code yX0_isHole cX0_isHole 2 (some .boolean), Cond.methodLink RX3 45 yX3_recorded, Cond.instanceMethod yX3_recorded, Cond.selects RX3 yX3_recorded yX3_recorded]
def wsX3_read_r4 : List Cond := [Cond.code yX3_recorded cX3_recorded 2 (some .int), Cond.methodLink RX3 120 yX3_isError, Cond.static yX3_isError, Cond.code yX3_isError cX3_isError 1 (some .boolean), Cond.methodLink RX3 123 yX3_dropOldestState, Cond.instanceMethod yX3_dropOldestState, Cond.selects RX3 yX3_dropOldestState yX3_dropOldestState, Cond.code yX3_dropOldestState cX3_dropOldestState 3 none]
def wsX3_read : List Cond := .code yX3_read cX3_read 3 (some .int) :: ((wsX3_read_r1 ++ (wsX3_read_r2 ++ (wsX3_read_r3 ++ wsX3_read_r4))) ++ wsX30 ++ wsX20 ++ wsX00)
def wsX3_delete_r1 : List Cond := [Cond.fieldLink RX3 12 "GenerationNames" "now" "LGenerationNames$State;", Cond.methodLink RX3 38 yX3_noteStateBefore, Cond.instanceMethod yX3_noteStateBefore, Cond.selects RX3 yX3_noteStateBefore yX3_noteStateBefore, Cond.initialized RX3, Cond.code yX3_noteStateBefore cX3_noteStateBefore 1 none, Cond.fieldLink RX3 16 "GenerationNames" "history" "[LGenerationNames$State;", Cond.fieldLink RX3 20 "GenerationNames" "undoable" "I", Cond.methodLink RX3 109 yX2_copyFrom, Cond.instanceMethod yX2_copyFrom, Cond.selects RX2 yX2_copyFrom yX2_copyFrom, Cond.initialized RX2, Cond.code yX2_copyFrom cX2_copyFrom 3 none, Cond.fieldLink RX2 11 "GenerationNames$State" "groups" "[LGenerationNames$Group;", Cond.fieldLink RX2 17 "GenerationNames$State" "jobsBegun" "I", Cond.fieldLink RX2 21 "GenerationNames$State" "jobRuns" "Z", Cond.fieldLink RX2 25 "GenerationNames$State" "lastJobFailed" "Z", Cond.fieldLink RX2 28 "GenerationNames$State" "jobsFailed" "I", Cond.fieldLink RX2 31 "GenerationNames$State" "reads" "I", Cond.fieldLink RX2 34 "GenerationNames$State" "vainReads" "I", Cond.methodLink RX2 38 yX0_copyFrom, Cond.instanceMethod yX0_copyFrom, Cond.selects RX0 yX0_copyFrom yX0_copyFrom, Cond.initialized RX0]
def wsX3_delete_r2 : List Cond := [Cond.code yX0_copyFrom cX0_copyFrom 2 none, Cond.fieldLink RX0 9 "GenerationNames$Group" "keep" "I", Cond.fieldLink RX0 15 "GenerationNames$Group" "newest" "I", Cond.fieldLink RX0 18 "GenerationNames$Group" "size" "I", Cond.fieldLink RX0 21 "GenerationNames$Group" "rolledOff" "I", Cond.fieldLink RX0 24 "GenerationNames$Group" "deleted" "I", Cond.fieldLink RX0 27 "GenerationNames$Group" "newestForJob" "I", Cond.fieldLink RX0 30 "GenerationNames$Group" "madeByJob" "I", Cond.fieldLink RX0 33 "GenerationNames$Group" "data" "[I", Cond.methodLink RX0 43 arraycopyName, Cond.native arraycopyName, Cond.static arraycopyName, Cond.initialized "java/lang/System", Cond.fieldLink RX0 37 "GenerationNames$Group" "reads" "[I", Cond.fieldLink RX0 40 "GenerationNames$Group" "jobs" "[I", Cond.methodLink RX3 56 yX2_deleteByName, Cond.instanceMethod yX2_deleteByName, Cond.selects RX2 yX2_deleteByName yX2_deleteByName, Cond.code yX2_deleteByName cX2_deleteByName 5 (some .int), Cond.methodLink RX2 42 yX2_isGroup, Cond.instanceMethod yX2_isGroup, Cond.selects RX2 yX2_isGroup yX2_isGroup, Cond.code yX2_isGroup cX2_isGroup 2 (some .boolean), Cond.methodLink RX2 56 yX2_isName]
def wsX3_delete_r3 : List Cond := [Cond.instanceMethod yX2_isName, Cond.selects RX2 yX2_isName yX2_isName, Cond.code yX2_isName cX2_isName 2 (some .boolean), Cond.methodLink RX2 71 yX0_serialOf, Cond.instanceMethod yX0_serialOf, Cond.selects RX0 yX0_serialOf yX0_serialOf, Cond.code yX0_serialOf cX0_serialOf 3 (some .int), Cond.methodLink RX2 75 yX0_isThere, Cond.instanceMethod yX0_isThere, Cond.selects RX0 yX0_isThere yX0_isThere, Cond.code yX0_isThere cX0_isThere 2 (some .boolean), Cond.methodLink RX0 49 yX0_oldest, Cond.instanceMethod yX0_oldest, Cond.selects RX0 yX0_oldest yX0_oldest, Cond.code yX0_oldest cX0_oldest 1 (some .int), Cond.methodLink RX0 53 yX0_isHole, Cond.instanceMethod yX0_isHole, Cond.selects RX0 yX0_isHole yX0_isHole, Cond.code yX0_isHole cX0_isHole 2 (some .boolean), Cond.methodLink RX2 84 yX0_makeHole, Cond.instanceMethod yX0_makeHole, Cond.selects RX0 yX0_makeHole yX0_makeHole, Cond.code yX0_makeHole cX0_makeHole 2 none, Cond.methodLink RX0 64 yX0_leaveMost]
def wsX3_delete_r4 : List Cond := [Cond.instanceMethod yX0_leaveMost, Cond.selects RX0 yX0_leaveMost yX0_leaveMost, Cond.code yX0_leaveMost cX0_leaveMost 2 none, Cond.methodLink RX2 67 yX0_numberOf, Cond.instanceMethod yX0_numberOf, Cond.selects RX0 yX0_numberOf yX0_numberOf, Cond.code yX0_numberOf cX0_numberOf 2 (some .int), Cond.methodLink RX3 45 yX3_recorded, Cond.instanceMethod yX3_recorded, Cond.selects RX3 yX3_recorded yX3_recorded, Cond.code yX3_recorded cX3_recorded 2 (some .int), Cond.methodLink RX3 120 yX3_isError, Cond.static yX3_isError, Cond.code yX3_isError cX3_isError 1 (some .boolean), Cond.methodLink RX3 123 yX3_dropOldestState, Cond.instanceMethod yX3_dropOldestState, Cond.selects RX3 yX3_dropOldestState yX3_dropOldestState, Cond.code yX3_dropOldestState cX3_dropOldestState 3 none]
def wsX3_delete : List Cond := .code yX3_delete cX3_delete 3 (some .int) :: ((wsX3_delete_r1 ++ (wsX3_delete_r2 ++ (wsX3_delete_r3 ++ wsX3_delete_r4))) ++ wsX30 ++ wsX20 ++ wsX00)
def wsX3_begin_r1 : List Cond := [Cond.fieldLink RX3 12 "GenerationNames" "now" "LGenerationNames$State;", Cond.methodLink RX3 38 yX3_noteStateBefore, Cond.instanceMethod yX3_noteStateBefore, Cond.selects RX3 yX3_noteStateBefore yX3_noteStateBefore, Cond.initialized RX3, Cond.code yX3_noteStateBefore cX3_noteStateBefore 1 none, Cond.fieldLink RX3 16 "GenerationNames" "history" "[LGenerationNames$State;", Cond.fieldLink RX3 20 "GenerationNames" "undoable" "I", Cond.methodLink RX3 109 yX2_copyFrom, Cond.instanceMethod yX2_copyFrom, Cond.selects RX2 yX2_copyFrom yX2_copyFrom, Cond.initialized RX2, Cond.code yX2_copyFrom cX2_copyFrom 3 none, Cond.fieldLink RX2 11 "GenerationNames$State" "groups" "[LGenerationNames$Group;", Cond.fieldLink RX2 17 "GenerationNames$State" "jobsBegun" "I", Cond.fieldLink RX2 21 "GenerationNames$State" "jobRuns" "Z", Cond.fieldLink RX2 25 "GenerationNames$State" "lastJobFailed" "Z", Cond.fieldLink RX2 28 "GenerationNames$State" "jobsFailed" "I", Cond.fieldLink RX2 31 "GenerationNames$State" "reads" "I", Cond.fieldLink RX2 34 "GenerationNames$State" "vainReads" "I", Cond.methodLink RX2 38 yX0_copyFrom, Cond.instanceMethod yX0_copyFrom, Cond.selects RX0 yX0_copyFrom yX0_copyFrom, Cond.initialized RX0]
def wsX3_begin_r2 : List Cond := [Cond.code yX0_copyFrom cX0_copyFrom 2 none, Cond.fieldLink RX0 9 "GenerationNames$Group" "keep" "I", Cond.fieldLink RX0 15 "GenerationNames$Group" "newest" "I", Cond.fieldLink RX0 18 "GenerationNames$Group" "size" "I", Cond.fieldLink RX0 21 "GenerationNames$Group" "rolledOff" "I", Cond.fieldLink RX0 24 "GenerationNames$Group" "deleted" "I", Cond.fieldLink RX0 27 "GenerationNames$Group" "newestForJob" "I", Cond.fieldLink RX0 30 "GenerationNames$Group" "madeByJob" "I", Cond.fieldLink RX0 33 "GenerationNames$Group" "data" "[I", Cond.methodLink RX0 43 arraycopyName, Cond.native arraycopyName, Cond.static arraycopyName, Cond.initialized "java/lang/System", Cond.fieldLink RX0 37 "GenerationNames$Group" "reads" "[I", Cond.fieldLink RX0 40 "GenerationNames$Group" "jobs" "[I", Cond.methodLink RX3 59 yX2_beginJob, Cond.instanceMethod yX2_beginJob, Cond.selects RX2 yX2_beginJob yX2_beginJob, Cond.code yX2_beginJob cX2_beginJob 2 (some .int), Cond.fieldLink RX2 87 "GenerationNames$Group" "newest" "I", Cond.fieldLink RX2 90 "GenerationNames$Group" "newestForJob" "I", Cond.methodLink RX2 93 yX2_startJob, Cond.instanceMethod yX2_startJob, Cond.selects RX2 yX2_startJob yX2_startJob]
def wsX3_begin_r3 : List Cond := [Cond.code yX2_startJob cX2_startJob 2 (some .int), Cond.fieldLink RX2 53 "GenerationNames$Group" "madeByJob" "I", Cond.methodLink RX3 45 yX3_recorded, Cond.instanceMethod yX3_recorded, Cond.selects RX3 yX3_recorded yX3_recorded, Cond.code yX3_recorded cX3_recorded 2 (some .int), Cond.methodLink RX3 120 yX3_isError, Cond.static yX3_isError, Cond.code yX3_isError cX3_isError 1 (some .boolean), Cond.methodLink RX3 123 yX3_dropOldestState, Cond.instanceMethod yX3_dropOldestState, Cond.selects RX3 yX3_dropOldestState yX3_dropOldestState, Cond.code yX3_dropOldestState cX3_dropOldestState 3 none]
def wsX3_begin : List Cond := .code yX3_begin cX3_begin 1 (some .int) :: ((wsX3_begin_r1 ++ (wsX3_begin_r2 ++ wsX3_begin_r3)) ++ wsX30 ++ wsX20 ++ wsX00)
def wsX3_end_r1 : List Cond := [Cond.fieldLink RX3 12 "GenerationNames" "now" "LGenerationNames$State;", Cond.methodLink RX3 38 yX3_noteStateBefore, Cond.instanceMethod yX3_noteStateBefore, Cond.selects RX3 yX3_noteStateBefore yX3_noteStateBefore, Cond.initialized RX3, Cond.code yX3_noteStateBefore cX3_noteStateBefore 1 none, Cond.fieldLink RX3 16 "GenerationNames" "history" "[LGenerationNames$State;", Cond.fieldLink RX3 20 "GenerationNames" "undoable" "I", Cond.methodLink RX3 109 yX2_copyFrom, Cond.instanceMethod yX2_copyFrom, Cond.selects RX2 yX2_copyFrom yX2_copyFrom, Cond.initialized RX2, Cond.code yX2_copyFrom cX2_copyFrom 3 none, Cond.fieldLink RX2 11 "GenerationNames$State" "groups" "[LGenerationNames$Group;", Cond.fieldLink RX2 17 "GenerationNames$State" "jobsBegun" "I", Cond.fieldLink RX2 21 "GenerationNames$State" "jobRuns" "Z", Cond.fieldLink RX2 25 "GenerationNames$State" "lastJobFailed" "Z", Cond.fieldLink RX2 28 "GenerationNames$State" "jobsFailed" "I", Cond.fieldLink RX2 31 "GenerationNames$State" "reads" "I", Cond.fieldLink RX2 34 "GenerationNames$State" "vainReads" "I", Cond.methodLink RX2 38 yX0_copyFrom, Cond.instanceMethod yX0_copyFrom, Cond.selects RX0 yX0_copyFrom yX0_copyFrom, Cond.initialized RX0]
def wsX3_end_r2 : List Cond := [Cond.code yX0_copyFrom cX0_copyFrom 2 none, Cond.fieldLink RX0 9 "GenerationNames$Group" "keep" "I", Cond.fieldLink RX0 15 "GenerationNames$Group" "newest" "I", Cond.fieldLink RX0 18 "GenerationNames$Group" "size" "I", Cond.fieldLink RX0 21 "GenerationNames$Group" "rolledOff" "I", Cond.fieldLink RX0 24 "GenerationNames$Group" "deleted" "I", Cond.fieldLink RX0 27 "GenerationNames$Group" "newestForJob" "I", Cond.fieldLink RX0 30 "GenerationNames$Group" "madeByJob" "I", Cond.fieldLink RX0 33 "GenerationNames$Group" "data" "[I", Cond.methodLink RX0 43 arraycopyName, Cond.native arraycopyName, Cond.static arraycopyName, Cond.initialized "java/lang/System", Cond.fieldLink RX0 37 "GenerationNames$Group" "reads" "[I", Cond.fieldLink RX0 40 "GenerationNames$Group" "jobs" "[I", Cond.methodLink RX3 63 yX2_endJob, Cond.instanceMethod yX2_endJob, Cond.selects RX2 yX2_endJob yX2_endJob, Cond.code yX2_endJob cX2_endJob 3 (some .int), Cond.fieldLink RX2 53 "GenerationNames$Group" "madeByJob" "I", Cond.methodLink RX2 75 yX0_isThere, Cond.instanceMethod yX0_isThere, Cond.selects RX0 yX0_isThere yX0_isThere, Cond.code yX0_isThere cX0_isThere 2 (some .boolean)]
def wsX3_end_r3 : List Cond := [Cond.methodLink RX0 49 yX0_oldest, Cond.instanceMethod yX0_oldest, Cond.selects RX0 yX0_oldest yX0_oldest, Cond.code yX0_oldest cX0_oldest 1 (some .int), Cond.methodLink RX0 53 yX0_isHole, Cond.instanceMethod yX0_isHole, Cond.selects RX0 yX0_isHole yX0_isHole, Cond.code yX0_isHole cX0_isHole 2 (some .boolean), Cond.methodLink RX2 84 yX0_makeHole, Cond.instanceMethod yX0_makeHole, Cond.selects RX0 yX0_makeHole yX0_makeHole, Cond.code yX0_makeHole cX0_makeHole 2 none, Cond.methodLink RX0 64 yX0_leaveMost, Cond.instanceMethod yX0_leaveMost, Cond.selects RX0 yX0_leaveMost yX0_leaveMost, Cond.code yX0_leaveMost cX0_leaveMost 2 none, Cond.methodLink RX2 97 yX2_countMadeByJob, Cond.instanceMethod yX2_countMadeByJob, Cond.selects RX2 yX2_countMadeByJob yX2_countMadeByJob, Cond.code yX2_countMadeByJob cX2_countMadeByJob 3 (some .int), Cond.methodLink RX3 45 yX3_recorded, Cond.instanceMethod yX3_recorded, Cond.selects RX3 yX3_recorded yX3_recorded, Cond.code yX3_recorded cX3_recorded 2 (some .int)]
def wsX3_end_r4 : List Cond := [Cond.methodLink RX3 120 yX3_isError, Cond.static yX3_isError, Cond.code yX3_isError cX3_isError 1 (some .boolean), Cond.methodLink RX3 123 yX3_dropOldestState, Cond.instanceMethod yX3_dropOldestState, Cond.selects RX3 yX3_dropOldestState yX3_dropOldestState, Cond.code yX3_dropOldestState cX3_dropOldestState 3 none]
def wsX3_end : List Cond := .code yX3_end cX3_end 2 (some .int) :: ((wsX3_end_r1 ++ (wsX3_end_r2 ++ (wsX3_end_r3 ++ wsX3_end_r4))) ++ wsX30 ++ wsX20 ++ wsX00)
def wsX3_again_r1 : List Cond := [Cond.fieldLink RX3 12 "GenerationNames" "now" "LGenerationNames$State;", Cond.methodLink RX3 38 yX3_noteStateBefore, Cond.instanceMethod yX3_noteStateBefore, Cond.selects RX3 yX3_noteStateBefore yX3_noteStateBefore, Cond.initialized RX3, Cond.code yX3_noteStateBefore cX3_noteStateBefore 1 none, Cond.fieldLink RX3 16 "GenerationNames" "history" "[LGenerationNames$State;", Cond.fieldLink RX3 20 "GenerationNames" "undoable" "I", Cond.methodLink RX3 109 yX2_copyFrom, Cond.instanceMethod yX2_copyFrom, Cond.selects RX2 yX2_copyFrom yX2_copyFrom, Cond.initialized RX2, Cond.code yX2_copyFrom cX2_copyFrom 3 none, Cond.fieldLink RX2 11 "GenerationNames$State" "groups" "[LGenerationNames$Group;", Cond.fieldLink RX2 17 "GenerationNames$State" "jobsBegun" "I", Cond.fieldLink RX2 21 "GenerationNames$State" "jobRuns" "Z", Cond.fieldLink RX2 25 "GenerationNames$State" "lastJobFailed" "Z", Cond.fieldLink RX2 28 "GenerationNames$State" "jobsFailed" "I", Cond.fieldLink RX2 31 "GenerationNames$State" "reads" "I", Cond.fieldLink RX2 34 "GenerationNames$State" "vainReads" "I", Cond.methodLink RX2 38 yX0_copyFrom, Cond.instanceMethod yX0_copyFrom, Cond.selects RX0 yX0_copyFrom yX0_copyFrom, Cond.initialized RX0]
def wsX3_again_r2 : List Cond := [Cond.code yX0_copyFrom cX0_copyFrom 2 none, Cond.fieldLink RX0 9 "GenerationNames$Group" "keep" "I", Cond.fieldLink RX0 15 "GenerationNames$Group" "newest" "I", Cond.fieldLink RX0 18 "GenerationNames$Group" "size" "I", Cond.fieldLink RX0 21 "GenerationNames$Group" "rolledOff" "I", Cond.fieldLink RX0 24 "GenerationNames$Group" "deleted" "I", Cond.fieldLink RX0 27 "GenerationNames$Group" "newestForJob" "I", Cond.fieldLink RX0 30 "GenerationNames$Group" "madeByJob" "I", Cond.fieldLink RX0 33 "GenerationNames$Group" "data" "[I", Cond.methodLink RX0 43 arraycopyName, Cond.native arraycopyName, Cond.static arraycopyName, Cond.initialized "java/lang/System", Cond.fieldLink RX0 37 "GenerationNames$Group" "reads" "[I", Cond.fieldLink RX0 40 "GenerationNames$Group" "jobs" "[I", Cond.methodLink RX3 66 yX2_repeatJob, Cond.instanceMethod yX2_repeatJob, Cond.selects RX2 yX2_repeatJob yX2_repeatJob, Cond.code yX2_repeatJob cX2_repeatJob 1 (some .int), Cond.methodLink RX2 93 yX2_startJob, Cond.instanceMethod yX2_startJob, Cond.selects RX2 yX2_startJob yX2_startJob, Cond.code yX2_startJob cX2_startJob 2 (some .int), Cond.fieldLink RX2 53 "GenerationNames$Group" "madeByJob" "I"]
def wsX3_again_r3 : List Cond := [Cond.methodLink RX3 45 yX3_recorded, Cond.instanceMethod yX3_recorded, Cond.selects RX3 yX3_recorded yX3_recorded, Cond.code yX3_recorded cX3_recorded 2 (some .int), Cond.methodLink RX3 120 yX3_isError, Cond.static yX3_isError, Cond.code yX3_isError cX3_isError 1 (some .boolean), Cond.methodLink RX3 123 yX3_dropOldestState, Cond.instanceMethod yX3_dropOldestState, Cond.selects RX3 yX3_dropOldestState yX3_dropOldestState, Cond.code yX3_dropOldestState cX3_dropOldestState 3 none]
def wsX3_again : List Cond := .code yX3_again cX3_again 1 (some .int) :: ((wsX3_again_r1 ++ (wsX3_again_r2 ++ wsX3_again_r3)) ++ wsX30 ++ wsX20 ++ wsX00)
def wsX3_ofGroup_r1 : List Cond := [Cond.fieldLink RX3 12 "GenerationNames" "now" "LGenerationNames$State;", Cond.methodLink RX3 69 yX2_aboutGroup, Cond.instanceMethod yX2_aboutGroup, Cond.selects RX2 yX2_aboutGroup yX2_aboutGroup, Cond.initialized RX2, Cond.code yX2_aboutGroup cX2_aboutGroup 4 (some .int), Cond.fieldLink RX2 11 "GenerationNames$State" "groups" "[LGenerationNames$Group;", Cond.fieldLink RX2 46 "GenerationNames$Group" "keep" "I", Cond.fieldLink RX2 100 "GenerationNames$Group" "size" "I", Cond.fieldLink RX2 87 "GenerationNames$Group" "newest" "I", Cond.fieldLink RX2 106 "GenerationNames$Group" "rolledOff" "I", Cond.fieldLink RX2 109 "GenerationNames$Group" "deleted" "I", Cond.methodLink RX2 42 yX2_isGroup, Cond.instanceMethod yX2_isGroup, Cond.selects RX2 yX2_isGroup yX2_isGroup, Cond.code yX2_isGroup cX2_isGroup 2 (some .boolean), Cond.methodLink RX2 103 yX0_countHoles, Cond.instanceMethod yX0_countHoles, Cond.selects RX0 yX0_countHoles yX0_countHoles, Cond.initialized RX0, Cond.code yX0_countHoles cX0_countHoles 3 (some .int), Cond.fieldLink RX0 15 "GenerationNames$Group" "newest" "I", Cond.methodLink RX0 49 yX0_oldest, Cond.instanceMethod yX0_oldest]
def wsX3_ofGroup_r2 : List Cond := [Cond.selects RX0 yX0_oldest yX0_oldest, Cond.code yX0_oldest cX0_oldest 1 (some .int), Cond.fieldLink RX0 18 "GenerationNames$Group" "size" "I", Cond.methodLink RX0 53 yX0_isHole, Cond.instanceMethod yX0_isHole, Cond.selects RX0 yX0_isHole yX0_isHole, Cond.code yX0_isHole cX0_isHole 2 (some .boolean), Cond.fieldLink RX0 33 "GenerationNames$Group" "data" "[I", Cond.methodLink RX2 67 yX0_numberOf, Cond.instanceMethod yX0_numberOf, Cond.selects RX0 yX0_numberOf yX0_numberOf, Cond.code yX0_numberOf cX0_numberOf 2 (some .int), Cond.methodLink RX2 112 yX0_sumOfData, Cond.instanceMethod yX0_sumOfData, Cond.selects RX0 yX0_sumOfData yX0_sumOfData, Cond.code yX0_sumOfData cX0_sumOfData 3 (some .int)]
def wsX3_ofGroup : List Cond := .code yX3_ofGroup cX3_ofGroup 3 (some .int) :: ((wsX3_ofGroup_r1 ++ wsX3_ofGroup_r2) ++ wsX30 ++ wsX20 ++ wsX00)
def wsX3_generation_r1 : List Cond := [Cond.fieldLink RX3 12 "GenerationNames" "now" "LGenerationNames$State;", Cond.methodLink RX3 72 yX2_aboutGeneration, Cond.instanceMethod yX2_aboutGeneration, Cond.selects RX2 yX2_aboutGeneration yX2_aboutGeneration, Cond.initialized RX2, Cond.code yX2_aboutGeneration cX2_aboutGeneration 7 (some .int), Cond.fieldLink RX2 11 "GenerationNames$State" "groups" "[LGenerationNames$Group;", Cond.fieldLink RX2 100 "GenerationNames$Group" "size" "I", Cond.fieldLink RX2 87 "GenerationNames$Group" "newest" "I", Cond.fieldLink RX2 78 "GenerationNames$Group" "data" "[I", Cond.fieldLink RX2 82 "GenerationNames$Group" "reads" "[I", Cond.fieldLink RX2 118 "GenerationNames$Group" "jobs" "[I", Cond.fieldLink RX2 21 "GenerationNames$State" "jobRuns" "Z", Cond.methodLink RX2 42 yX2_isGroup, Cond.instanceMethod yX2_isGroup, Cond.selects RX2 yX2_isGroup yX2_isGroup, Cond.code yX2_isGroup cX2_isGroup 2 (some .boolean), Cond.methodLink RX2 67 yX0_numberOf, Cond.instanceMethod yX0_numberOf, Cond.selects RX0 yX0_numberOf yX0_numberOf, Cond.initialized RX0, Cond.code yX0_numberOf cX0_numberOf 2 (some .int), Cond.methodLink RX2 115 yX0_isHole, Cond.instanceMethod yX0_isHole]
def wsX3_generation_r2 : List Cond := [Cond.selects RX0 yX0_isHole yX0_isHole, Cond.code yX0_isHole cX0_isHole 2 (some .boolean), Cond.fieldLink RX0 33 "GenerationNames$Group" "data" "[I", Cond.methodLink RX2 121 yX0_nameForJob, Cond.instanceMethod yX0_nameForJob, Cond.selects RX0 yX0_nameForJob yX0_nameForJob, Cond.code yX0_nameForJob cX0_nameForJob 3 (some .int), Cond.fieldLink RX0 30 "GenerationNames$Group" "madeByJob" "I", Cond.fieldLink RX0 27 "GenerationNames$Group" "newestForJob" "I"]
def wsX3_generation : List Cond := .code yX3_generation cX3_generation 4 (some .int) :: ((wsX3_generation_r1 ++ wsX3_generation_r2) ++ wsX30 ++ wsX20 ++ wsX00)
def wsX3_named_r1 : List Cond := [Cond.fieldLink RX3 12 "GenerationNames" "now" "LGenerationNames$State;", Cond.methodLink RX3 75 yX2_numberByName, Cond.instanceMethod yX2_numberByName, Cond.selects RX2 yX2_numberByName yX2_numberByName, Cond.initialized RX2, Cond.code yX2_numberByName cX2_numberByName 4 (some .int), Cond.fieldLink RX2 11 "GenerationNames$State" "groups" "[LGenerationNames$Group;", Cond.fieldLink RX2 21 "GenerationNames$State" "jobRuns" "Z", Cond.methodLink RX2 42 yX2_isGroup, Cond.instanceMethod yX2_isGroup, Cond.selects RX2 yX2_isGroup yX2_isGroup, Cond.code yX2_isGroup cX2_isGroup 2 (some .boolean), Cond.methodLink RX2 56 yX2_isName, Cond.instanceMethod yX2_isName, Cond.selects RX2 yX2_isName yX2_isName, Cond.code yX2_isName cX2_isName 2 (some .boolean), Cond.methodLink RX2 71 yX0_serialOf, Cond.instanceMethod yX0_serialOf, Cond.selects RX0 yX0_serialOf yX0_serialOf, Cond.initialized RX0, Cond.code yX0_serialOf cX0_serialOf 3 (some .int), Cond.fieldLink RX0 30 "GenerationNames$Group" "madeByJob" "I", Cond.fieldLink RX0 27 "GenerationNames$Group" "newestForJob" "I", Cond.fieldLink RX0 15 "GenerationNames$Group" "newest" "I"]
def wsX3_named_r2 : List Cond := [Cond.methodLink RX2 124 yX0_numberIfThere, Cond.instanceMethod yX0_numberIfThere, Cond.selects RX0 yX0_numberIfThere yX0_numberIfThere, Cond.code yX0_numberIfThere cX0_numberIfThere 2 (some .int), Cond.methodLink RX0 57 yX0_isThere, Cond.instanceMethod yX0_isThere, Cond.selects RX0 yX0_isThere yX0_isThere, Cond.code yX0_isThere cX0_isThere 2 (some .boolean), Cond.methodLink RX0 49 yX0_oldest, Cond.instanceMethod yX0_oldest, Cond.selects RX0 yX0_oldest yX0_oldest, Cond.code yX0_oldest cX0_oldest 1 (some .int), Cond.fieldLink RX0 18 "GenerationNames$Group" "size" "I", Cond.methodLink RX0 53 yX0_isHole, Cond.instanceMethod yX0_isHole, Cond.selects RX0 yX0_isHole yX0_isHole, Cond.code yX0_isHole cX0_isHole 2 (some .boolean), Cond.fieldLink RX0 33 "GenerationNames$Group" "data" "[I", Cond.methodLink RX0 60 yX0_numberOf, Cond.instanceMethod yX0_numberOf, Cond.selects RX0 yX0_numberOf yX0_numberOf, Cond.code yX0_numberOf cX0_numberOf 2 (some .int)]
def wsX3_named : List Cond := .code yX3_named cX3_named 3 (some .int) :: ((wsX3_named_r1 ++ wsX3_named_r2) ++ wsX30 ++ wsX20 ++ wsX00)
def wsX3_count_r1 : List Cond := [Cond.fieldLink RX3 34 "GenerationNames" "pad" "LGenerationNames$Pad;", Cond.fieldLink RX3 20 "GenerationNames" "undoable" "I", Cond.fieldLink RX3 12 "GenerationNames" "now" "LGenerationNames$State;", Cond.methodLink RX3 78 yX1_size, Cond.instanceMethod yX1_size, Cond.selects RX1 yX1_size yX1_size, Cond.initialized RX1, Cond.code yX1_size cX1_size 1 (some .int), Cond.fieldLink RX1 15 "GenerationNames$Pad" "length" "I", Cond.methodLink RX3 81 yX2_counted, Cond.instanceMethod yX2_counted, Cond.selects RX2 yX2_counted yX2_counted, Cond.initialized RX2, Cond.code yX2_counted cX2_counted 2 (some .int), Cond.fieldLink RX2 17 "GenerationNames$State" "jobsBegun" "I", Cond.fieldLink RX2 21 "GenerationNames$State" "jobRuns" "Z", Cond.fieldLink RX2 28 "GenerationNames$State" "jobsFailed" "I", Cond.fieldLink RX2 31 "GenerationNames$State" "reads" "I", Cond.fieldLink RX2 34 "GenerationNames$State" "vainReads" "I", Cond.methodLink RX2 127 yX2_countThere, Cond.instanceMethod yX2_countThere, Cond.selects RX2 yX2_countThere yX2_countThere, Cond.code yX2_countThere cX2_countThere 3 (some .int), Cond.fieldLink RX2 11 "GenerationNames$State" "groups" "[LGenerationNames$Group;"]
def wsX3_count_r2 : List Cond := [Cond.fieldLink RX2 100 "GenerationNames$Group" "size" "I", Cond.methodLink RX2 103 yX0_countHoles, Cond.instanceMethod yX0_countHoles, Cond.selects RX0 yX0_countHoles yX0_countHoles, Cond.initialized RX0, Cond.code yX0_countHoles cX0_countHoles 3 (some .int), Cond.fieldLink RX0 15 "GenerationNames$Group" "newest" "I", Cond.methodLink RX0 49 yX0_oldest, Cond.instanceMethod yX0_oldest, Cond.selects RX0 yX0_oldest yX0_oldest, Cond.code yX0_oldest cX0_oldest 1 (some .int), Cond.fieldLink RX0 18 "GenerationNames$Group" "size" "I", Cond.methodLink RX0 53 yX0_isHole, Cond.instanceMethod yX0_isHole, Cond.selects RX0 yX0_isHole yX0_isHole, Cond.code yX0_isHole cX0_isHole 2 (some .boolean), Cond.fieldLink RX0 33 "GenerationNames$Group" "data" "[I", Cond.methodLink RX2 130 yX2_countHoles, Cond.instanceMethod yX2_countHoles, Cond.selects RX2 yX2_countHoles yX2_countHoles, Cond.code yX2_countHoles cX2_countHoles 3 (some .int), Cond.methodLink RX2 97 yX2_countMadeByJob, Cond.instanceMethod yX2_countMadeByJob, Cond.selects RX2 yX2_countMadeByJob yX2_countMadeByJob]
def wsX3_count_r3 : List Cond := [Cond.code yX2_countMadeByJob cX2_countMadeByJob 3 (some .int), Cond.fieldLink RX2 53 "GenerationNames$Group" "madeByJob" "I", Cond.methodLink RX2 75 yX0_isThere, Cond.instanceMethod yX0_isThere, Cond.selects RX0 yX0_isThere yX0_isThere, Cond.code yX0_isThere cX0_isThere 2 (some .boolean)]
def wsX3_count : List Cond := .code yX3_count cX3_count 2 (some .int) :: ((wsX3_count_r1 ++ (wsX3_count_r2 ++ wsX3_count_r3)) ++ wsX30 ++ wsX10 ++ wsX20 ++ wsX00)
def wsX3_groups_r1 : List Cond := [Cond.fieldLink RX3 12 "GenerationNames" "now" "LGenerationNames$State;", Cond.methodLink RX3 84 yX2_groupsThatAre, Cond.instanceMethod yX2_groupsThatAre, Cond.selects RX2 yX2_groupsThatAre yX2_groupsThatAre, Cond.initialized RX2, Cond.code yX2_groupsThatAre cX2_groupsThatAre 4 (some .int), Cond.fieldLink RX2 11 "GenerationNames$State" "groups" "[LGenerationNames$Group;", Cond.methodLink RX2 131 yX2_isSo, Cond.instanceMethod yX2_isSo, Cond.selects RX2 yX2_isSo yX2_isSo, Cond.code yX2_isSo cX2_isSo 3 (some .boolean), Cond.fieldLink RX2 100 "GenerationNames$Group" "size" "I", Cond.fieldLink RX2 21 "GenerationNames$State" "jobRuns" "Z", Cond.methodLink RX2 103 yX0_countHoles, Cond.instanceMethod yX0_countHoles, Cond.selects RX0 yX0_countHoles yX0_countHoles, Cond.initialized RX0, Cond.code yX0_countHoles cX0_countHoles 3 (some .int), Cond.fieldLink RX0 15 "GenerationNames$Group" "newest" "I", Cond.methodLink RX0 49 yX0_oldest, Cond.instanceMethod yX0_oldest, Cond.selects RX0 yX0_oldest yX0_oldest, Cond.code yX0_oldest cX0_oldest 1 (some .int), Cond.fieldLink RX0 18 "GenerationNames$Group" "size" "I"]
def wsX3_groups_r2 : List Cond := [Cond.methodLink RX0 53 yX0_isHole, Cond.instanceMethod yX0_isHole, Cond.selects RX0 yX0_isHole yX0_isHole, Cond.code yX0_isHole cX0_isHole 2 (some .boolean), Cond.fieldLink RX0 33 "GenerationNames$Group" "data" "[I", Cond.methodLink RX2 59 yX2_hasNewestOfJob, Cond.instanceMethod yX2_hasNewestOfJob, Cond.selects RX2 yX2_hasNewestOfJob yX2_hasNewestOfJob, Cond.code yX2_hasNewestOfJob cX2_hasNewestOfJob 2 (some .boolean), Cond.fieldLink RX2 53 "GenerationNames$Group" "madeByJob" "I", Cond.methodLink RX2 71 yX0_serialOf, Cond.instanceMethod yX0_serialOf, Cond.selects RX0 yX0_serialOf yX0_serialOf, Cond.code yX0_serialOf cX0_serialOf 3 (some .int), Cond.fieldLink RX0 30 "GenerationNames$Group" "madeByJob" "I", Cond.fieldLink RX0 27 "GenerationNames$Group" "newestForJob" "I", Cond.methodLink RX2 75 yX0_isThere, Cond.instanceMethod yX0_isThere, Cond.selects RX0 yX0_isThere yX0_isThere, Cond.code yX0_isThere cX0_isThere 2 (some .boolean)]
def wsX3_groups : List Cond := .code yX3_groups cX3_groups 2 (some .int) :: ((wsX3_groups_r1 ++ wsX3_groups_r2) ++ wsX30 ++ wsX20 ++ wsX00)
def wsX3_rolls_r1 : List Cond := [Cond.fieldLink RX3 12 "GenerationNames" "now" "LGenerationNames$State;", Cond.methodLink RX3 87 yX2_numberThatRolls, Cond.instanceMethod yX2_numberThatRolls, Cond.selects RX2 yX2_numberThatRolls yX2_numberThatRolls, Cond.initialized RX2, Cond.code yX2_numberThatRolls cX2_numberThatRolls 3 (some .int), Cond.fieldLink RX2 11 "GenerationNames$State" "groups" "[LGenerationNames$Group;", Cond.fieldLink RX2 100 "GenerationNames$Group" "size" "I", Cond.fieldLink RX2 46 "GenerationNames$Group" "keep" "I", Cond.methodLink RX2 42 yX2_isGroup, Cond.instanceMethod yX2_isGroup, Cond.selects RX2 yX2_isGroup yX2_isGroup, Cond.code yX2_isGroup cX2_isGroup 2 (some .boolean), Cond.methodLink RX2 135 yX0_oldest, Cond.instanceMethod yX0_oldest, Cond.selects RX0 yX0_oldest yX0_oldest, Cond.initialized RX0, Cond.code yX0_oldest cX0_oldest 1 (some .int), Cond.fieldLink RX0 15 "GenerationNames$Group" "newest" "I", Cond.fieldLink RX0 18 "GenerationNames$Group" "size" "I", Cond.methodLink RX2 124 yX0_numberIfThere, Cond.instanceMethod yX0_numberIfThere, Cond.selects RX0 yX0_numberIfThere yX0_numberIfThere, Cond.code yX0_numberIfThere cX0_numberIfThere 2 (some .int)]
def wsX3_rolls_r2 : List Cond := [Cond.methodLink RX0 57 yX0_isThere, Cond.instanceMethod yX0_isThere, Cond.selects RX0 yX0_isThere yX0_isThere, Cond.code yX0_isThere cX0_isThere 2 (some .boolean), Cond.methodLink RX0 49 yX0_oldest, Cond.methodLink RX0 53 yX0_isHole, Cond.instanceMethod yX0_isHole, Cond.selects RX0 yX0_isHole yX0_isHole, Cond.code yX0_isHole cX0_isHole 2 (some .boolean), Cond.fieldLink RX0 33 "GenerationNames$Group" "data" "[I", Cond.methodLink RX0 60 yX0_numberOf, Cond.instanceMethod yX0_numberOf, Cond.selects RX0 yX0_numberOf yX0_numberOf, Cond.code yX0_numberOf cX0_numberOf 2 (some .int)]
def wsX3_rolls : List Cond := .code yX3_rolls cX3_rolls 2 (some .int) :: ((wsX3_rolls_r1 ++ wsX3_rolls_r2) ++ wsX30 ++ wsX20 ++ wsX00)
def wsX3_ifFailed_r1 : List Cond := [Cond.fieldLink RX3 12 "GenerationNames" "now" "LGenerationNames$State;", Cond.methodLink RX3 90 yX2_newestIfFailed, Cond.instanceMethod yX2_newestIfFailed, Cond.selects RX2 yX2_newestIfFailed yX2_newestIfFailed, Cond.initialized RX2, Cond.code yX2_newestIfFailed cX2_newestIfFailed 3 (some .int), Cond.fieldLink RX2 11 "GenerationNames$State" "groups" "[LGenerationNames$Group;", Cond.fieldLink RX2 87 "GenerationNames$Group" "newest" "I", Cond.methodLink RX2 42 yX2_isGroup, Cond.instanceMethod yX2_isGroup, Cond.selects RX2 yX2_isGroup yX2_isGroup, Cond.code yX2_isGroup cX2_isGroup 2 (some .boolean), Cond.methodLink RX2 59 yX2_hasNewestOfJob, Cond.instanceMethod yX2_hasNewestOfJob, Cond.selects RX2 yX2_hasNewestOfJob yX2_hasNewestOfJob, Cond.code yX2_hasNewestOfJob cX2_hasNewestOfJob 2 (some .boolean), Cond.fieldLink RX2 21 "GenerationNames$State" "jobRuns" "Z", Cond.fieldLink RX2 53 "GenerationNames$Group" "madeByJob" "I", Cond.methodLink RX2 124 yX0_numberIfThere, Cond.instanceMethod yX0_numberIfThere, Cond.selects RX0 yX0_numberIfThere yX0_numberIfThere, Cond.initialized RX0, Cond.code yX0_numberIfThere cX0_numberIfThere 2 (some .int), Cond.methodLink RX0 57 yX0_isThere]
def wsX3_ifFailed_r2 : List Cond := [Cond.instanceMethod yX0_isThere, Cond.selects RX0 yX0_isThere yX0_isThere, Cond.code yX0_isThere cX0_isThere 2 (some .boolean), Cond.fieldLink RX0 15 "GenerationNames$Group" "newest" "I", Cond.methodLink RX0 49 yX0_oldest, Cond.instanceMethod yX0_oldest, Cond.selects RX0 yX0_oldest yX0_oldest, Cond.code yX0_oldest cX0_oldest 1 (some .int), Cond.fieldLink RX0 18 "GenerationNames$Group" "size" "I", Cond.methodLink RX0 53 yX0_isHole, Cond.instanceMethod yX0_isHole, Cond.selects RX0 yX0_isHole yX0_isHole, Cond.code yX0_isHole cX0_isHole 2 (some .boolean), Cond.fieldLink RX0 33 "GenerationNames$Group" "data" "[I", Cond.methodLink RX0 60 yX0_numberOf, Cond.instanceMethod yX0_numberOf, Cond.selects RX0 yX0_numberOf yX0_numberOf, Cond.code yX0_numberOf cX0_numberOf 2 (some .int)]
def wsX3_ifFailed : List Cond := .code yX3_ifFailed cX3_ifFailed 2 (some .int) :: ((wsX3_ifFailed_r1 ++ wsX3_ifFailed_r2) ++ wsX30 ++ wsX20 ++ wsX00)
def wsX3_leastKeep : List Cond := .code yX3_leastKeep cX3_leastKeep 2 (some .int) :: ([.fieldLink RX3 12 "GenerationNames" "now" "LGenerationNames$State;", .methodLink RX3 93 yX2_leastKeepOf, .instanceMethod yX2_leastKeepOf, .selects RX2 yX2_leastKeepOf yX2_leastKeepOf, .initialized RX2, .code yX2_leastKeepOf cX2_leastKeepOf 2 (some .int), .fieldLink RX2 11 "GenerationNames$State" "groups" "[LGenerationNames$Group;", .fieldLink RX2 100 "GenerationNames$Group" "size" "I", .methodLink RX2 138 Lib.Math.max.name, .static Lib.Math.max.name, .initialized "java/lang/Math", .code Lib.Math.max.name Lib.Math.max.code 2 (some .int), .methodLink RX2 42 yX2_isGroup, .instanceMethod yX2_isGroup, .selects RX2 yX2_isGroup yX2_isGroup, .code yX2_isGroup cX2_isGroup 2 (some .boolean)] ++ wsX30 ++ wsX20 ++ wsX00)
def wsX3_put : List Cond := .code yX3_put cX3_put 3 (some .int) :: ([.fieldLink RX3 34 "GenerationNames" "pad" "LGenerationNames$Pad;", .methodLink RX3 96 yX1_append, .instanceMethod yX1_append, .selects RX1 yX1_append yX1_append, .initialized RX1, .code yX1_append cX1_append 5 (some .int), .fieldLink RX1 15 "GenerationNames$Pad" "length" "I", .fieldLink RX1 9 "GenerationNames$Pad" "signs" "[C", .constantLong RX1 23 (255), .methodLink RX1 19 yX1_countCharacters, .instanceMethod yX1_countCharacters, .selects RX1 yX1_countCharacters yX1_countCharacters, .code yX1_countCharacters cX1_countCharacters 8 (some .int), .constantLong RX1 25 (33), .constantLong RX1 27 (126)] ++ wsX30 ++ wsX10)
def wsX3_wipe : List Cond := .code yX3_wipe cX3_wipe 1 (some .int) :: ([.fieldLink RX3 34 "GenerationNames" "pad" "LGenerationNames$Pad;", .methodLink RX3 100 yX1_empty, .instanceMethod yX1_empty, .selects RX1 yX1_empty yX1_empty, .initialized RX1, .code yX1_empty cX1_empty 2 (some .int), .fieldLink RX1 15 "GenerationNames$Pad" "length" "I"] ++ wsX30 ++ wsX10)
def wsX3_fault_r1 : List Cond := [Cond.fieldLink RX3 34 "GenerationNames" "pad" "LGenerationNames$Pad;", Cond.methodLink RX3 103 yX1_findFault, Cond.instanceMethod yX1_findFault, Cond.selects RX1 yX1_findFault yX1_findFault, Cond.initialized RX1, Cond.code yX1_findFault cX1_findFault 3 (some .int), Cond.fieldLink RX1 15 "GenerationNames$Pad" "length" "I", Cond.fieldLink RX1 9 "GenerationNames$Pad" "signs" "[C", Cond.methodLink RX1 29 yX1_placeBehind, Cond.instanceMethod yX1_placeBehind, Cond.selects RX1 yX1_placeBehind yX1_placeBehind, Cond.code yX1_placeBehind cX1_placeBehind 3 (some .int), Cond.methodLink RX1 33 yX1_placeBehindLetter, Cond.instanceMethod yX1_placeBehindLetter, Cond.selects RX1 yX1_placeBehindLetter yX1_placeBehindLetter, Cond.code yX1_placeBehindLetter cX1_placeBehindLetter 2 (some .int), Cond.methodLink RX1 37 yX1_placeBehindName, Cond.instanceMethod yX1_placeBehindName, Cond.selects RX1 yX1_placeBehindName yX1_placeBehindName, Cond.code yX1_placeBehindName cX1_placeBehindName 4 (some .int), Cond.methodLink RX1 41 yX1_isDigit, Cond.instanceMethod yX1_isDigit, Cond.selects RX1 yX1_isDigit yX1_isDigit, Cond.code yX1_isDigit cX1_isDigit 2 (some .boolean)]
def wsX3_fault_r2 : List Cond := [Cond.methodLink RX1 45 yX1_placeBehindOrder, Cond.instanceMethod yX1_placeBehindOrder, Cond.selects RX1 yX1_placeBehindOrder yX1_placeBehindOrder, Cond.code yX1_placeBehindOrder cX1_placeBehindOrder 2 (some .int)]
def wsX3_fault : List Cond := .code yX3_fault cX3_fault 1 (some .int) :: ((wsX3_fault_r1 ++ wsX3_fault_r2) ++ wsX30 ++ wsX10)
def wsX3_carryOutOrder_r1 : List Cond := [Cond.fieldLink RX3 34 "GenerationNames" "pad" "LGenerationNames$Pad;", Cond.fieldLink RX3 12 "GenerationNames" "now" "LGenerationNames$State;", Cond.methodLink RX3 132 yX1_sign, Cond.instanceMethod yX1_sign, Cond.selects RX1 yX1_sign yX1_sign, Cond.initialized RX1, Cond.code yX1_sign cX1_sign 2 (some .int), Cond.fieldLink RX1 15 "GenerationNames$Pad" "length" "I", Cond.fieldLink RX1 9 "GenerationNames$Pad" "signs" "[C", Cond.methodLink RX3 59 yX2_beginJob, Cond.instanceMethod yX2_beginJob, Cond.selects RX2 yX2_beginJob yX2_beginJob, Cond.initialized RX2, Cond.code yX2_beginJob cX2_beginJob 2 (some .int), Cond.fieldLink RX2 21 "GenerationNames$State" "jobRuns" "Z", Cond.fieldLink RX2 11 "GenerationNames$State" "groups" "[LGenerationNames$Group;", Cond.fieldLink RX2 87 "GenerationNames$Group" "newest" "I", Cond.fieldLink RX2 90 "GenerationNames$Group" "newestForJob" "I", Cond.methodLink RX2 93 yX2_startJob, Cond.instanceMethod yX2_startJob, Cond.selects RX2 yX2_startJob yX2_startJob, Cond.code yX2_startJob cX2_startJob 2 (some .int), Cond.fieldLink RX2 53 "GenerationNames$Group" "madeByJob" "I", Cond.fieldLink RX2 17 "GenerationNames$State" "jobsBegun" "I"]
def wsX3_carryOutOrder_r2 : List Cond := [Cond.methodLink RX3 63 yX2_endJob, Cond.instanceMethod yX2_endJob, Cond.selects RX2 yX2_endJob yX2_endJob, Cond.code yX2_endJob cX2_endJob 3 (some .int), Cond.fieldLink RX2 25 "GenerationNames$State" "lastJobFailed" "Z", Cond.fieldLink RX2 28 "GenerationNames$State" "jobsFailed" "I", Cond.methodLink RX2 75 yX0_isThere, Cond.instanceMethod yX0_isThere, Cond.selects RX0 yX0_isThere yX0_isThere, Cond.initialized RX0, Cond.code yX0_isThere cX0_isThere 2 (some .boolean), Cond.fieldLink RX0 15 "GenerationNames$Group" "newest" "I", Cond.methodLink RX0 49 yX0_oldest, Cond.instanceMethod yX0_oldest, Cond.selects RX0 yX0_oldest yX0_oldest, Cond.code yX0_oldest cX0_oldest 1 (some .int), Cond.fieldLink RX0 18 "GenerationNames$Group" "size" "I", Cond.methodLink RX0 53 yX0_isHole, Cond.instanceMethod yX0_isHole, Cond.selects RX0 yX0_isHole yX0_isHole, Cond.code yX0_isHole cX0_isHole 2 (some .boolean), Cond.fieldLink RX0 33 "GenerationNames$Group" "data" "[I", Cond.methodLink RX2 84 yX0_makeHole, Cond.instanceMethod yX0_makeHole]
def wsX3_carryOutOrder_r3 : List Cond := [Cond.selects RX0 yX0_makeHole yX0_makeHole, Cond.code yX0_makeHole cX0_makeHole 2 none, Cond.fieldLink RX0 24 "GenerationNames$Group" "deleted" "I", Cond.fieldLink RX0 9 "GenerationNames$Group" "keep" "I", Cond.methodLink RX0 64 yX0_leaveMost, Cond.instanceMethod yX0_leaveMost, Cond.selects RX0 yX0_leaveMost yX0_leaveMost, Cond.code yX0_leaveMost cX0_leaveMost 2 none, Cond.fieldLink RX0 21 "GenerationNames$Group" "rolledOff" "I", Cond.methodLink RX2 97 yX2_countMadeByJob, Cond.instanceMethod yX2_countMadeByJob, Cond.selects RX2 yX2_countMadeByJob yX2_countMadeByJob, Cond.code yX2_countMadeByJob cX2_countMadeByJob 3 (some .int), Cond.methodLink RX3 66 yX2_repeatJob, Cond.instanceMethod yX2_repeatJob, Cond.selects RX2 yX2_repeatJob yX2_repeatJob, Cond.code yX2_repeatJob cX2_repeatJob 1 (some .int), Cond.methodLink RX3 135 yX1_groupOfOrder, Cond.instanceMethod yX1_groupOfOrder, Cond.selects RX1 yX1_groupOfOrder yX1_groupOfOrder, Cond.code yX1_groupOfOrder cX1_groupOfOrder 2 (some .int), Cond.methodLink RX1 48 yX1_sign, Cond.methodLink RX3 138 yX1_nameOfOrder, Cond.instanceMethod yX1_nameOfOrder]
def wsX3_carryOutOrder_r4 : List Cond := [Cond.selects RX1 yX1_nameOfOrder yX1_nameOfOrder, Cond.code yX1_nameOfOrder cX1_nameOfOrder 2 (some .int), Cond.methodLink RX3 141 yX1_dataOfOrder, Cond.instanceMethod yX1_dataOfOrder, Cond.selects RX1 yX1_dataOfOrder yX1_dataOfOrder, Cond.code yX1_dataOfOrder cX1_dataOfOrder 5 (some .int), Cond.methodLink RX1 41 yX1_isDigit, Cond.instanceMethod yX1_isDigit, Cond.selects RX1 yX1_isDigit yX1_isDigit, Cond.code yX1_isDigit cX1_isDigit 2 (some .boolean), Cond.methodLink RX3 49 yX2_writeByName, Cond.instanceMethod yX2_writeByName, Cond.selects RX2 yX2_writeByName yX2_writeByName, Cond.code yX2_writeByName cX2_writeByName 6 (some .int), Cond.fieldLink RX2 78 "GenerationNames$Group" "data" "[I", Cond.methodLink RX2 42 yX2_isGroup, Cond.instanceMethod yX2_isGroup, Cond.selects RX2 yX2_isGroup yX2_isGroup, Cond.code yX2_isGroup cX2_isGroup 2 (some .boolean), Cond.methodLink RX2 56 yX2_isName, Cond.instanceMethod yX2_isName, Cond.selects RX2 yX2_isName yX2_isName, Cond.code yX2_isName cX2_isName 2 (some .boolean), Cond.methodLink RX2 59 yX2_hasNewestOfJob]
def wsX3_carryOutOrder_r5 : List Cond := [Cond.instanceMethod yX2_hasNewestOfJob, Cond.selects RX2 yX2_hasNewestOfJob yX2_hasNewestOfJob, Cond.code yX2_hasNewestOfJob cX2_hasNewestOfJob 2 (some .boolean), Cond.methodLink RX2 63 yX0_make, Cond.instanceMethod yX0_make, Cond.selects RX0 yX0_make yX0_make, Cond.code yX0_make cX0_make 4 (some .int), Cond.fieldLink RX0 37 "GenerationNames$Group" "reads" "[I", Cond.fieldLink RX0 40 "GenerationNames$Group" "jobs" "[I", Cond.fieldLink RX0 30 "GenerationNames$Group" "madeByJob" "I", Cond.methodLink RX2 67 yX0_numberOf, Cond.instanceMethod yX0_numberOf, Cond.selects RX0 yX0_numberOf yX0_numberOf, Cond.code yX0_numberOf cX0_numberOf 2 (some .int), Cond.methodLink RX2 71 yX0_serialOf, Cond.instanceMethod yX0_serialOf, Cond.selects RX0 yX0_serialOf yX0_serialOf, Cond.code yX0_serialOf cX0_serialOf 3 (some .int), Cond.fieldLink RX0 27 "GenerationNames$Group" "newestForJob" "I", Cond.methodLink RX3 53 yX2_readByName, Cond.instanceMethod yX2_readByName, Cond.selects RX2 yX2_readByName yX2_readByName, Cond.code yX2_readByName cX2_readByName 6 (some .int), Cond.fieldLink RX2 31 "GenerationNames$State" "reads" "I"]
def wsX3_carryOutOrder_r6 : List Cond := [Cond.fieldLink RX2 34 "GenerationNames$State" "vainReads" "I", Cond.fieldLink RX2 82 "GenerationNames$Group" "reads" "[I", Cond.methodLink RX3 56 yX2_deleteByName, Cond.instanceMethod yX2_deleteByName, Cond.selects RX2 yX2_deleteByName yX2_deleteByName, Cond.code yX2_deleteByName cX2_deleteByName 5 (some .int)]
def wsX3_carryOutOrder : List Cond := .code yX3_carryOutOrder cX3_carryOutOrder 2 (some .int) :: ((wsX3_carryOutOrder_r1 ++ (wsX3_carryOutOrder_r2 ++ (wsX3_carryOutOrder_r3 ++ (wsX3_carryOutOrder_r4 ++ (wsX3_carryOutOrder_r5 ++ wsX3_carryOutOrder_r6))))) ++ wsX30 ++ wsX10 ++ wsX20 ++ wsX00)
def wsX3_carryOutOrders_r1 : List Cond := [Cond.fieldLink RX3 34 "GenerationNames" "pad" "LGenerationNames$Pad;", Cond.methodLink RX3 78 yX1_size, Cond.instanceMethod yX1_size, Cond.selects RX1 yX1_size yX1_size, Cond.initialized RX1, Cond.code yX1_size cX1_size 1 (some .int), Cond.fieldLink RX1 15 "GenerationNames$Pad" "length" "I", Cond.methodLink RX3 126 yX1_startsOrder, Cond.instanceMethod yX1_startsOrder, Cond.selects RX1 yX1_startsOrder yX1_startsOrder, Cond.code yX1_startsOrder cX1_startsOrder 2 (some .boolean), Cond.methodLink RX1 48 yX1_sign, Cond.instanceMethod yX1_sign, Cond.selects RX1 yX1_sign yX1_sign, Cond.code yX1_sign cX1_sign 2 (some .int), Cond.fieldLink RX1 9 "GenerationNames$Pad" "signs" "[C", Cond.methodLink RX3 129 yX3_carryOutOrder, Cond.instanceMethod yX3_carryOutOrder, Cond.selects RX3 yX3_carryOutOrder yX3_carryOutOrder, Cond.initialized RX3, Cond.code yX3_carryOutOrder cX3_carryOutOrder 2 (some .int), Cond.fieldLink RX3 12 "GenerationNames" "now" "LGenerationNames$State;", Cond.methodLink RX3 132 yX1_sign, Cond.methodLink RX3 59 yX2_beginJob]
def wsX3_carryOutOrders_r2 : List Cond := [Cond.instanceMethod yX2_beginJob, Cond.selects RX2 yX2_beginJob yX2_beginJob, Cond.initialized RX2, Cond.code yX2_beginJob cX2_beginJob 2 (some .int), Cond.fieldLink RX2 21 "GenerationNames$State" "jobRuns" "Z", Cond.fieldLink RX2 11 "GenerationNames$State" "groups" "[LGenerationNames$Group;", Cond.fieldLink RX2 87 "GenerationNames$Group" "newest" "I", Cond.fieldLink RX2 90 "GenerationNames$Group" "newestForJob" "I", Cond.methodLink RX2 93 yX2_startJob, Cond.instanceMethod yX2_startJob, Cond.selects RX2 yX2_startJob yX2_startJob, Cond.code yX2_startJob cX2_startJob 2 (some .int), Cond.fieldLink RX2 53 "GenerationNames$Group" "madeByJob" "I", Cond.fieldLink RX2 17 "GenerationNames$State" "jobsBegun" "I", Cond.methodLink RX3 63 yX2_endJob, Cond.instanceMethod yX2_endJob, Cond.selects RX2 yX2_endJob yX2_endJob, Cond.code yX2_endJob cX2_endJob 3 (some .int), Cond.fieldLink RX2 25 "GenerationNames$State" "lastJobFailed" "Z", Cond.fieldLink RX2 28 "GenerationNames$State" "jobsFailed" "I", Cond.methodLink RX2 75 yX0_isThere, Cond.instanceMethod yX0_isThere, Cond.selects RX0 yX0_isThere yX0_isThere, Cond.initialized RX0]
def wsX3_carryOutOrders_r3 : List Cond := [Cond.code yX0_isThere cX0_isThere 2 (some .boolean), Cond.fieldLink RX0 15 "GenerationNames$Group" "newest" "I", Cond.methodLink RX0 49 yX0_oldest, Cond.instanceMethod yX0_oldest, Cond.selects RX0 yX0_oldest yX0_oldest, Cond.code yX0_oldest cX0_oldest 1 (some .int), Cond.fieldLink RX0 18 "GenerationNames$Group" "size" "I", Cond.methodLink RX0 53 yX0_isHole, Cond.instanceMethod yX0_isHole, Cond.selects RX0 yX0_isHole yX0_isHole, Cond.code yX0_isHole cX0_isHole 2 (some .boolean), Cond.fieldLink RX0 33 "GenerationNames$Group" "data" "[I", Cond.methodLink RX2 84 yX0_makeHole, Cond.instanceMethod yX0_makeHole, Cond.selects RX0 yX0_makeHole yX0_makeHole, Cond.code yX0_makeHole cX0_makeHole 2 none, Cond.fieldLink RX0 24 "GenerationNames$Group" "deleted" "I", Cond.fieldLink RX0 9 "GenerationNames$Group" "keep" "I", Cond.methodLink RX0 64 yX0_leaveMost, Cond.instanceMethod yX0_leaveMost, Cond.selects RX0 yX0_leaveMost yX0_leaveMost, Cond.code yX0_leaveMost cX0_leaveMost 2 none, Cond.fieldLink RX0 21 "GenerationNames$Group" "rolledOff" "I", Cond.methodLink RX2 97 yX2_countMadeByJob]
def wsX3_carryOutOrders_r4 : List Cond := [Cond.instanceMethod yX2_countMadeByJob, Cond.selects RX2 yX2_countMadeByJob yX2_countMadeByJob, Cond.code yX2_countMadeByJob cX2_countMadeByJob 3 (some .int), Cond.methodLink RX3 66 yX2_repeatJob, Cond.instanceMethod yX2_repeatJob, Cond.selects RX2 yX2_repeatJob yX2_repeatJob, Cond.code yX2_repeatJob cX2_repeatJob 1 (some .int), Cond.methodLink RX3 135 yX1_groupOfOrder, Cond.instanceMethod yX1_groupOfOrder, Cond.selects RX1 yX1_groupOfOrder yX1_groupOfOrder, Cond.code yX1_groupOfOrder cX1_groupOfOrder 2 (some .int), Cond.methodLink RX3 138 yX1_nameOfOrder, Cond.instanceMethod yX1_nameOfOrder, Cond.selects RX1 yX1_nameOfOrder yX1_nameOfOrder, Cond.code yX1_nameOfOrder cX1_nameOfOrder 2 (some .int), Cond.methodLink RX3 141 yX1_dataOfOrder, Cond.instanceMethod yX1_dataOfOrder, Cond.selects RX1 yX1_dataOfOrder yX1_dataOfOrder, Cond.code yX1_dataOfOrder cX1_dataOfOrder 5 (some .int), Cond.methodLink RX1 41 yX1_isDigit, Cond.instanceMethod yX1_isDigit, Cond.selects RX1 yX1_isDigit yX1_isDigit, Cond.code yX1_isDigit cX1_isDigit 2 (some .boolean), Cond.methodLink RX3 49 yX2_writeByName]
def wsX3_carryOutOrders_r5 : List Cond := [Cond.instanceMethod yX2_writeByName, Cond.selects RX2 yX2_writeByName yX2_writeByName, Cond.code yX2_writeByName cX2_writeByName 6 (some .int), Cond.fieldLink RX2 78 "GenerationNames$Group" "data" "[I", Cond.methodLink RX2 42 yX2_isGroup, Cond.instanceMethod yX2_isGroup, Cond.selects RX2 yX2_isGroup yX2_isGroup, Cond.code yX2_isGroup cX2_isGroup 2 (some .boolean), Cond.methodLink RX2 56 yX2_isName, Cond.instanceMethod yX2_isName, Cond.selects RX2 yX2_isName yX2_isName, Cond.code yX2_isName cX2_isName 2 (some .boolean), Cond.methodLink RX2 59 yX2_hasNewestOfJob, Cond.instanceMethod yX2_hasNewestOfJob, Cond.selects RX2 yX2_hasNewestOfJob yX2_hasNewestOfJob, Cond.code yX2_hasNewestOfJob cX2_hasNewestOfJob 2 (some .boolean), Cond.methodLink RX2 63 yX0_make, Cond.instanceMethod yX0_make, Cond.selects RX0 yX0_make yX0_make, Cond.code yX0_make cX0_make 4 (some .int), Cond.fieldLink RX0 37 "GenerationNames$Group" "reads" "[I", Cond.fieldLink RX0 40 "GenerationNames$Group" "jobs" "[I", Cond.fieldLink RX0 30 "GenerationNames$Group" "madeByJob" "I", Cond.methodLink RX2 67 yX0_numberOf]
def wsX3_carryOutOrders_r6 : List Cond := [Cond.instanceMethod yX0_numberOf, Cond.selects RX0 yX0_numberOf yX0_numberOf, Cond.code yX0_numberOf cX0_numberOf 2 (some .int), Cond.methodLink RX2 71 yX0_serialOf, Cond.instanceMethod yX0_serialOf, Cond.selects RX0 yX0_serialOf yX0_serialOf, Cond.code yX0_serialOf cX0_serialOf 3 (some .int), Cond.fieldLink RX0 27 "GenerationNames$Group" "newestForJob" "I", Cond.methodLink RX3 53 yX2_readByName, Cond.instanceMethod yX2_readByName, Cond.selects RX2 yX2_readByName yX2_readByName, Cond.code yX2_readByName cX2_readByName 6 (some .int), Cond.fieldLink RX2 31 "GenerationNames$State" "reads" "I", Cond.fieldLink RX2 34 "GenerationNames$State" "vainReads" "I", Cond.fieldLink RX2 82 "GenerationNames$Group" "reads" "[I", Cond.methodLink RX3 56 yX2_deleteByName, Cond.instanceMethod yX2_deleteByName, Cond.selects RX2 yX2_deleteByName yX2_deleteByName, Cond.code yX2_deleteByName cX2_deleteByName 5 (some .int), Cond.methodLink RX3 120 yX3_isError, Cond.static yX3_isError, Cond.code yX3_isError cX3_isError 1 (some .boolean)]
def wsX3_carryOutOrders : List Cond := .code yX3_carryOutOrders cX3_carryOutOrders 3 (some .int) :: ((wsX3_carryOutOrders_r1 ++ (wsX3_carryOutOrders_r2 ++ (wsX3_carryOutOrders_r3 ++ (wsX3_carryOutOrders_r4 ++ (wsX3_carryOutOrders_r5 ++ wsX3_carryOutOrders_r6))))) ++ wsX30 ++ wsX10 ++ wsX20 ++ wsX00)
def wsX3_carryOut_r1 : List Cond := [Cond.fieldLink RX3 34 "GenerationNames" "pad" "LGenerationNames$Pad;", Cond.methodLink RX3 103 yX1_findFault, Cond.instanceMethod yX1_findFault, Cond.selects RX1 yX1_findFault yX1_findFault, Cond.initialized RX1, Cond.code yX1_findFault cX1_findFault 3 (some .int), Cond.fieldLink RX1 15 "GenerationNames$Pad" "length" "I", Cond.fieldLink RX1 9 "GenerationNames$Pad" "signs" "[C", Cond.methodLink RX1 29 yX1_placeBehind, Cond.instanceMethod yX1_placeBehind, Cond.selects RX1 yX1_placeBehind yX1_placeBehind, Cond.code yX1_placeBehind cX1_placeBehind 3 (some .int), Cond.methodLink RX1 33 yX1_placeBehindLetter, Cond.instanceMethod yX1_placeBehindLetter, Cond.selects RX1 yX1_placeBehindLetter yX1_placeBehindLetter, Cond.code yX1_placeBehindLetter cX1_placeBehindLetter 2 (some .int), Cond.methodLink RX1 37 yX1_placeBehindName, Cond.instanceMethod yX1_placeBehindName, Cond.selects RX1 yX1_placeBehindName yX1_placeBehindName, Cond.code yX1_placeBehindName cX1_placeBehindName 4 (some .int), Cond.methodLink RX1 41 yX1_isDigit, Cond.instanceMethod yX1_isDigit, Cond.selects RX1 yX1_isDigit yX1_isDigit, Cond.code yX1_isDigit cX1_isDigit 2 (some .boolean)]
def wsX3_carryOut_r2 : List Cond := [Cond.methodLink RX1 45 yX1_placeBehindOrder, Cond.instanceMethod yX1_placeBehindOrder, Cond.selects RX1 yX1_placeBehindOrder yX1_placeBehindOrder, Cond.code yX1_placeBehindOrder cX1_placeBehindOrder 2 (some .int), Cond.methodLink RX3 38 yX3_noteStateBefore, Cond.instanceMethod yX3_noteStateBefore, Cond.selects RX3 yX3_noteStateBefore yX3_noteStateBefore, Cond.initialized RX3, Cond.code yX3_noteStateBefore cX3_noteStateBefore 1 none, Cond.fieldLink RX3 16 "GenerationNames" "history" "[LGenerationNames$State;", Cond.fieldLink RX3 20 "GenerationNames" "undoable" "I", Cond.fieldLink RX3 12 "GenerationNames" "now" "LGenerationNames$State;", Cond.methodLink RX3 109 yX2_copyFrom, Cond.instanceMethod yX2_copyFrom, Cond.selects RX2 yX2_copyFrom yX2_copyFrom, Cond.initialized RX2, Cond.code yX2_copyFrom cX2_copyFrom 3 none, Cond.fieldLink RX2 11 "GenerationNames$State" "groups" "[LGenerationNames$Group;", Cond.fieldLink RX2 17 "GenerationNames$State" "jobsBegun" "I", Cond.fieldLink RX2 21 "GenerationNames$State" "jobRuns" "Z", Cond.fieldLink RX2 25 "GenerationNames$State" "lastJobFailed" "Z", Cond.fieldLink RX2 28 "GenerationNames$State" "jobsFailed" "I", Cond.fieldLink RX2 31 "GenerationNames$State" "reads" "I", Cond.fieldLink RX2 34 "GenerationNames$State" "vainReads" "I"]
def wsX3_carryOut_r3 : List Cond := [Cond.methodLink RX2 38 yX0_copyFrom, Cond.instanceMethod yX0_copyFrom, Cond.selects RX0 yX0_copyFrom yX0_copyFrom, Cond.initialized RX0, Cond.code yX0_copyFrom cX0_copyFrom 2 none, Cond.fieldLink RX0 9 "GenerationNames$Group" "keep" "I", Cond.fieldLink RX0 15 "GenerationNames$Group" "newest" "I", Cond.fieldLink RX0 18 "GenerationNames$Group" "size" "I", Cond.fieldLink RX0 21 "GenerationNames$Group" "rolledOff" "I", Cond.fieldLink RX0 24 "GenerationNames$Group" "deleted" "I", Cond.fieldLink RX0 27 "GenerationNames$Group" "newestForJob" "I", Cond.fieldLink RX0 30 "GenerationNames$Group" "madeByJob" "I", Cond.fieldLink RX0 33 "GenerationNames$Group" "data" "[I", Cond.methodLink RX0 43 arraycopyName, Cond.native arraycopyName, Cond.static arraycopyName, Cond.initialized "java/lang/System", Cond.fieldLink RX0 37 "GenerationNames$Group" "reads" "[I", Cond.fieldLink RX0 40 "GenerationNames$Group" "jobs" "[I", Cond.methodLink RX3 106 yX3_carryOutOrders, Cond.instanceMethod yX3_carryOutOrders, Cond.selects RX3 yX3_carryOutOrders yX3_carryOutOrders, Cond.code yX3_carryOutOrders cX3_carryOutOrders 3 (some .int), Cond.methodLink RX3 78 yX1_size]
def wsX3_carryOut_r4 : List Cond := [Cond.instanceMethod yX1_size, Cond.selects RX1 yX1_size yX1_size, Cond.code yX1_size cX1_size 1 (some .int), Cond.methodLink RX3 126 yX1_startsOrder, Cond.instanceMethod yX1_startsOrder, Cond.selects RX1 yX1_startsOrder yX1_startsOrder, Cond.code yX1_startsOrder cX1_startsOrder 2 (some .boolean), Cond.methodLink RX1 48 yX1_sign, Cond.instanceMethod yX1_sign, Cond.selects RX1 yX1_sign yX1_sign, Cond.code yX1_sign cX1_sign 2 (some .int), Cond.methodLink RX3 129 yX3_carryOutOrder, Cond.instanceMethod yX3_carryOutOrder, Cond.selects RX3 yX3_carryOutOrder yX3_carryOutOrder, Cond.code yX3_carryOutOrder cX3_carryOutOrder 2 (some .int), Cond.methodLink RX3 132 yX1_sign, Cond.methodLink RX3 59 yX2_beginJob, Cond.instanceMethod yX2_beginJob, Cond.selects RX2 yX2_beginJob yX2_beginJob, Cond.code yX2_beginJob cX2_beginJob 2 (some .int), Cond.fieldLink RX2 87 "GenerationNames$Group" "newest" "I", Cond.fieldLink RX2 90 "GenerationNames$Group" "newestForJob" "I", Cond.methodLink RX2 93 yX2_startJob, Cond.instanceMethod yX2_startJob]
def wsX3_carryOut_r5 : List Cond := [Cond.selects RX2 yX2_startJob yX2_startJob, Cond.code yX2_startJob cX2_startJob 2 (some .int), Cond.fieldLink RX2 53 "GenerationNames$Group" "madeByJob" "I", Cond.methodLink RX3 63 yX2_endJob, Cond.instanceMethod yX2_endJob, Cond.selects RX2 yX2_endJob yX2_endJob, Cond.code yX2_endJob cX2_endJob 3 (some .int), Cond.methodLink RX2 75 yX0_isThere, Cond.instanceMethod yX0_isThere, Cond.selects RX0 yX0_isThere yX0_isThere, Cond.code yX0_isThere cX0_isThere 2 (some .boolean), Cond.methodLink RX0 49 yX0_oldest, Cond.instanceMethod yX0_oldest, Cond.selects RX0 yX0_oldest yX0_oldest, Cond.code yX0_oldest cX0_oldest 1 (some .int), Cond.methodLink RX0 53 yX0_isHole, Cond.instanceMethod yX0_isHole, Cond.selects RX0 yX0_isHole yX0_isHole, Cond.code yX0_isHole cX0_isHole 2 (some .boolean), Cond.methodLink RX2 84 yX0_makeHole, Cond.instanceMethod yX0_makeHole, Cond.selects RX0 yX0_makeHole yX0_makeHole, Cond.code yX0_makeHole cX0_makeHole 2 none, Cond.methodLink RX0 64 yX0_leaveMost]
def wsX3_carryOut_r6 : List Cond := [Cond.instanceMethod yX0_leaveMost, Cond.selects RX0 yX0_leaveMost yX0_leaveMost, Cond.code yX0_leaveMost cX0_leaveMost 2 none, Cond.methodLink RX2 97 yX2_countMadeByJob, Cond.instanceMethod yX2_countMadeByJob, Cond.selects RX2 yX2_countMadeByJob yX2_countMadeByJob, Cond.code yX2_countMadeByJob cX2_countMadeByJob 3 (some .int), Cond.methodLink RX3 66 yX2_repeatJob, Cond.instanceMethod yX2_repeatJob, Cond.selects RX2 yX2_repeatJob yX2_repeatJob, Cond.code yX2_repeatJob cX2_repeatJob 1 (some .int), Cond.methodLink RX3 135 yX1_groupOfOrder, Cond.instanceMethod yX1_groupOfOrder, Cond.selects RX1 yX1_groupOfOrder yX1_groupOfOrder, Cond.code yX1_groupOfOrder cX1_groupOfOrder 2 (some .int), Cond.methodLink RX3 138 yX1_nameOfOrder, Cond.instanceMethod yX1_nameOfOrder, Cond.selects RX1 yX1_nameOfOrder yX1_nameOfOrder, Cond.code yX1_nameOfOrder cX1_nameOfOrder 2 (some .int), Cond.methodLink RX3 141 yX1_dataOfOrder, Cond.instanceMethod yX1_dataOfOrder, Cond.selects RX1 yX1_dataOfOrder yX1_dataOfOrder, Cond.code yX1_dataOfOrder cX1_dataOfOrder 5 (some .int), Cond.methodLink RX3 49 yX2_writeByName]
def wsX3_carryOut_r7 : List Cond := [Cond.instanceMethod yX2_writeByName, Cond.selects RX2 yX2_writeByName yX2_writeByName, Cond.code yX2_writeByName cX2_writeByName 6 (some .int), Cond.fieldLink RX2 78 "GenerationNames$Group" "data" "[I", Cond.methodLink RX2 42 yX2_isGroup, Cond.instanceMethod yX2_isGroup, Cond.selects RX2 yX2_isGroup yX2_isGroup, Cond.code yX2_isGroup cX2_isGroup 2 (some .boolean), Cond.methodLink RX2 56 yX2_isName, Cond.instanceMethod yX2_isName, Cond.selects RX2 yX2_isName yX2_isName, Cond.code yX2_isName cX2_isName 2 (some .boolean), Cond.methodLink RX2 59 yX2_hasNewestOfJob, Cond.instanceMethod yX2_hasNewestOfJob, Cond.selects RX2 yX2_hasNewestOfJob yX2_hasNewestOfJob, Cond.code yX2_hasNewestOfJob cX2_hasNewestOfJob 2 (some .boolean), Cond.methodLink RX2 63 yX0_make, Cond.instanceMethod yX0_make, Cond.selects RX0 yX0_make yX0_make, Cond.code yX0_make cX0_make 4 (some .int), Cond.methodLink RX2 67 yX0_numberOf, Cond.instanceMethod yX0_numberOf, Cond.selects RX0 yX0_numberOf yX0_numberOf, Cond.code yX0_numberOf cX0_numberOf 2 (some .int)]
def wsX3_carryOut_r8 : List Cond := [Cond.methodLink RX2 71 yX0_serialOf, Cond.instanceMethod yX0_serialOf, Cond.selects RX0 yX0_serialOf yX0_serialOf, Cond.code yX0_serialOf cX0_serialOf 3 (some .int), Cond.methodLink RX3 53 yX2_readByName, Cond.instanceMethod yX2_readByName, Cond.selects RX2 yX2_readByName yX2_readByName, Cond.code yX2_readByName cX2_readByName 6 (some .int), Cond.fieldLink RX2 82 "GenerationNames$Group" "reads" "[I", Cond.methodLink RX3 56 yX2_deleteByName, Cond.instanceMethod yX2_deleteByName, Cond.selects RX2 yX2_deleteByName yX2_deleteByName, Cond.code yX2_deleteByName cX2_deleteByName 5 (some .int), Cond.methodLink RX3 120 yX3_isError, Cond.static yX3_isError, Cond.code yX3_isError cX3_isError 1 (some .boolean), Cond.methodLink RX3 100 yX1_empty, Cond.instanceMethod yX1_empty, Cond.selects RX1 yX1_empty yX1_empty, Cond.code yX1_empty cX1_empty 2 (some .int), Cond.methodLink RX3 45 yX3_recorded, Cond.instanceMethod yX3_recorded, Cond.selects RX3 yX3_recorded yX3_recorded, Cond.code yX3_recorded cX3_recorded 2 (some .int)]
def wsX3_carryOut_r9 : List Cond := [Cond.methodLink RX3 123 yX3_dropOldestState, Cond.instanceMethod yX3_dropOldestState, Cond.selects RX3 yX3_dropOldestState yX3_dropOldestState, Cond.code yX3_dropOldestState cX3_dropOldestState 3 none]
def wsX3_carryOut : List Cond := .code yX3_carryOut cX3_carryOut 2 (some .int) :: ((wsX3_carryOut_r1 ++ (wsX3_carryOut_r2 ++ (wsX3_carryOut_r3 ++ (wsX3_carryOut_r4 ++ (wsX3_carryOut_r5 ++ (wsX3_carryOut_r6 ++ (wsX3_carryOut_r7 ++ (wsX3_carryOut_r8 ++ wsX3_carryOut_r9)))))))) ++ wsX30 ++ wsX10 ++ wsX20 ++ wsX00)
def wsX3_undo_r1 : List Cond := [Cond.fieldLink RX3 20 "GenerationNames" "undoable" "I", Cond.fieldLink RX3 12 "GenerationNames" "now" "LGenerationNames$State;", Cond.fieldLink RX3 16 "GenerationNames" "history" "[LGenerationNames$State;", Cond.methodLink RX3 109 yX2_copyFrom, Cond.instanceMethod yX2_copyFrom, Cond.selects RX2 yX2_copyFrom yX2_copyFrom, Cond.initialized RX2, Cond.code yX2_copyFrom cX2_copyFrom 3 none, Cond.fieldLink RX2 11 "GenerationNames$State" "groups" "[LGenerationNames$Group;", Cond.fieldLink RX2 17 "GenerationNames$State" "jobsBegun" "I", Cond.fieldLink RX2 21 "GenerationNames$State" "jobRuns" "Z", Cond.fieldLink RX2 25 "GenerationNames$State" "lastJobFailed" "Z", Cond.fieldLink RX2 28 "GenerationNames$State" "jobsFailed" "I", Cond.fieldLink RX2 31 "GenerationNames$State" "reads" "I", Cond.fieldLink RX2 34 "GenerationNames$State" "vainReads" "I", Cond.methodLink RX2 38 yX0_copyFrom, Cond.instanceMethod yX0_copyFrom, Cond.selects RX0 yX0_copyFrom yX0_copyFrom, Cond.initialized RX0, Cond.code yX0_copyFrom cX0_copyFrom 2 none, Cond.fieldLink RX0 9 "GenerationNames$Group" "keep" "I", Cond.fieldLink RX0 15 "GenerationNames$Group" "newest" "I", Cond.fieldLink RX0 18 "GenerationNames$Group" "size" "I", Cond.fieldLink RX0 21 "GenerationNames$Group" "rolledOff" "I"]
def wsX3_undo_r2 : List Cond := [Cond.fieldLink RX0 24 "GenerationNames$Group" "deleted" "I", Cond.fieldLink RX0 27 "GenerationNames$Group" "newestForJob" "I", Cond.fieldLink RX0 30 "GenerationNames$Group" "madeByJob" "I", Cond.fieldLink RX0 33 "GenerationNames$Group" "data" "[I", Cond.methodLink RX0 43 arraycopyName, Cond.native arraycopyName, Cond.static arraycopyName, Cond.initialized "java/lang/System", Cond.fieldLink RX0 37 "GenerationNames$Group" "reads" "[I", Cond.fieldLink RX0 40 "GenerationNames$Group" "jobs" "[I"]
def wsX3_undo : List Cond := .code yX3_undo cX3_undo 1 (some .int) :: ((wsX3_undo_r1 ++ wsX3_undo_r2) ++ wsX30 ++ wsX20 ++ wsX00)
def wsX3_isSlot : List Cond := .code yX3_isSlot cX3_isSlot 1 (some .boolean) :: ([])
def wsX3_save_r1 : List Cond := [Cond.fieldLink RX3 24 "GenerationNames" "slots" "[LGenerationNames$State;", Cond.fieldLink RX3 12 "GenerationNames" "now" "LGenerationNames$State;", Cond.fieldLink RX3 27 "GenerationNames" "saved" "[Z", Cond.methodLink RX3 113 yX3_isSlot, Cond.static yX3_isSlot, Cond.initialized RX3, Cond.code yX3_isSlot cX3_isSlot 1 (some .boolean), Cond.methodLink RX3 109 yX2_copyFrom, Cond.instanceMethod yX2_copyFrom, Cond.selects RX2 yX2_copyFrom yX2_copyFrom, Cond.initialized RX2, Cond.code yX2_copyFrom cX2_copyFrom 3 none, Cond.fieldLink RX2 11 "GenerationNames$State" "groups" "[LGenerationNames$Group;", Cond.fieldLink RX2 17 "GenerationNames$State" "jobsBegun" "I", Cond.fieldLink RX2 21 "GenerationNames$State" "jobRuns" "Z", Cond.fieldLink RX2 25 "GenerationNames$State" "lastJobFailed" "Z", Cond.fieldLink RX2 28 "GenerationNames$State" "jobsFailed" "I", Cond.fieldLink RX2 31 "GenerationNames$State" "reads" "I", Cond.fieldLink RX2 34 "GenerationNames$State" "vainReads" "I", Cond.methodLink RX2 38 yX0_copyFrom, Cond.instanceMethod yX0_copyFrom, Cond.selects RX0 yX0_copyFrom yX0_copyFrom, Cond.initialized RX0, Cond.code yX0_copyFrom cX0_copyFrom 2 none]
def wsX3_save_r2 : List Cond := [Cond.fieldLink RX0 9 "GenerationNames$Group" "keep" "I", Cond.fieldLink RX0 15 "GenerationNames$Group" "newest" "I", Cond.fieldLink RX0 18 "GenerationNames$Group" "size" "I", Cond.fieldLink RX0 21 "GenerationNames$Group" "rolledOff" "I", Cond.fieldLink RX0 24 "GenerationNames$Group" "deleted" "I", Cond.fieldLink RX0 27 "GenerationNames$Group" "newestForJob" "I", Cond.fieldLink RX0 30 "GenerationNames$Group" "madeByJob" "I", Cond.fieldLink RX0 33 "GenerationNames$Group" "data" "[I", Cond.methodLink RX0 43 arraycopyName, Cond.native arraycopyName, Cond.static arraycopyName, Cond.initialized "java/lang/System", Cond.fieldLink RX0 37 "GenerationNames$Group" "reads" "[I", Cond.fieldLink RX0 40 "GenerationNames$Group" "jobs" "[I", Cond.methodLink RX3 117 yX2_countThere, Cond.instanceMethod yX2_countThere, Cond.selects RX2 yX2_countThere yX2_countThere, Cond.code yX2_countThere cX2_countThere 3 (some .int), Cond.fieldLink RX2 100 "GenerationNames$Group" "size" "I", Cond.methodLink RX2 103 yX0_countHoles, Cond.instanceMethod yX0_countHoles, Cond.selects RX0 yX0_countHoles yX0_countHoles, Cond.code yX0_countHoles cX0_countHoles 3 (some .int), Cond.methodLink RX0 49 yX0_oldest]
def wsX3_save_r3 : List Cond := [Cond.instanceMethod yX0_oldest, Cond.selects RX0 yX0_oldest yX0_oldest, Cond.code yX0_oldest cX0_oldest 1 (some .int), Cond.methodLink RX0 53 yX0_isHole, Cond.instanceMethod yX0_isHole, Cond.selects RX0 yX0_isHole yX0_isHole, Cond.code yX0_isHole cX0_isHole 2 (some .boolean)]
def wsX3_save : List Cond := .code yX3_save cX3_save 2 (some .int) :: ((wsX3_save_r1 ++ (wsX3_save_r2 ++ wsX3_save_r3)) ++ wsX30 ++ wsX20 ++ wsX00)
def wsX3_restore_r1 : List Cond := [Cond.fieldLink RX3 27 "GenerationNames" "saved" "[Z", Cond.fieldLink RX3 12 "GenerationNames" "now" "LGenerationNames$State;", Cond.fieldLink RX3 24 "GenerationNames" "slots" "[LGenerationNames$State;", Cond.methodLink RX3 113 yX3_isSlot, Cond.static yX3_isSlot, Cond.initialized RX3, Cond.code yX3_isSlot cX3_isSlot 1 (some .boolean), Cond.methodLink RX3 38 yX3_noteStateBefore, Cond.instanceMethod yX3_noteStateBefore, Cond.selects RX3 yX3_noteStateBefore yX3_noteStateBefore, Cond.code yX3_noteStateBefore cX3_noteStateBefore 1 none, Cond.fieldLink RX3 16 "GenerationNames" "history" "[LGenerationNames$State;", Cond.fieldLink RX3 20 "GenerationNames" "undoable" "I", Cond.methodLink RX3 109 yX2_copyFrom, Cond.instanceMethod yX2_copyFrom, Cond.selects RX2 yX2_copyFrom yX2_copyFrom, Cond.initialized RX2, Cond.code yX2_copyFrom cX2_copyFrom 3 none, Cond.fieldLink RX2 11 "GenerationNames$State" "groups" "[LGenerationNames$Group;", Cond.fieldLink RX2 17 "GenerationNames$State" "jobsBegun" "I", Cond.fieldLink RX2 21 "GenerationNames$State" "jobRuns" "Z", Cond.fieldLink RX2 25 "GenerationNames$State" "lastJobFailed" "Z", Cond.fieldLink RX2 28 "GenerationNames$State" "jobsFailed" "I", Cond.fieldLink RX2 31 "GenerationNames$State" "reads" "I"]
def wsX3_restore_r2 : List Cond := [Cond.fieldLink RX2 34 "GenerationNames$State" "vainReads" "I", Cond.methodLink RX2 38 yX0_copyFrom, Cond.instanceMethod yX0_copyFrom, Cond.selects RX0 yX0_copyFrom yX0_copyFrom, Cond.initialized RX0, Cond.code yX0_copyFrom cX0_copyFrom 2 none, Cond.fieldLink RX0 9 "GenerationNames$Group" "keep" "I", Cond.fieldLink RX0 15 "GenerationNames$Group" "newest" "I", Cond.fieldLink RX0 18 "GenerationNames$Group" "size" "I", Cond.fieldLink RX0 21 "GenerationNames$Group" "rolledOff" "I", Cond.fieldLink RX0 24 "GenerationNames$Group" "deleted" "I", Cond.fieldLink RX0 27 "GenerationNames$Group" "newestForJob" "I", Cond.fieldLink RX0 30 "GenerationNames$Group" "madeByJob" "I", Cond.fieldLink RX0 33 "GenerationNames$Group" "data" "[I", Cond.methodLink RX0 43 arraycopyName, Cond.native arraycopyName, Cond.static arraycopyName, Cond.initialized "java/lang/System", Cond.fieldLink RX0 37 "GenerationNames$Group" "reads" "[I", Cond.fieldLink RX0 40 "GenerationNames$Group" "jobs" "[I", Cond.methodLink RX3 117 yX2_countThere, Cond.instanceMethod yX2_countThere, Cond.selects RX2 yX2_countThere yX2_countThere, Cond.code yX2_countThere cX2_countThere 3 (some .int)]
def wsX3_restore_r3 : List Cond := [Cond.fieldLink RX2 100 "GenerationNames$Group" "size" "I", Cond.methodLink RX2 103 yX0_countHoles, Cond.instanceMethod yX0_countHoles, Cond.selects RX0 yX0_countHoles yX0_countHoles, Cond.code yX0_countHoles cX0_countHoles 3 (some .int), Cond.methodLink RX0 49 yX0_oldest, Cond.instanceMethod yX0_oldest, Cond.selects RX0 yX0_oldest yX0_oldest, Cond.code yX0_oldest cX0_oldest 1 (some .int), Cond.methodLink RX0 53 yX0_isHole, Cond.instanceMethod yX0_isHole, Cond.selects RX0 yX0_isHole yX0_isHole, Cond.code yX0_isHole cX0_isHole 2 (some .boolean), Cond.methodLink RX3 45 yX3_recorded, Cond.instanceMethod yX3_recorded, Cond.selects RX3 yX3_recorded yX3_recorded, Cond.code yX3_recorded cX3_recorded 2 (some .int), Cond.methodLink RX3 120 yX3_isError, Cond.static yX3_isError, Cond.code yX3_isError cX3_isError 1 (some .boolean), Cond.methodLink RX3 123 yX3_dropOldestState, Cond.instanceMethod yX3_dropOldestState, Cond.selects RX3 yX3_dropOldestState yX3_dropOldestState, Cond.code yX3_dropOldestState cX3_dropOldestState 3 none]
def wsX3_restore : List Cond := .code yX3_restore cX3_restore 2 (some .int) :: ((wsX3_restore_r1 ++ (wsX3_restore_r2 ++ wsX3_restore_r3)) ++ wsX30 ++ wsX20 ++ wsX00)
def wsX4_init : List Cond := .code yX4_init cX4_init 2 none :: ([.methodLink RX4 1 objectInit, .instanceMethod objectInit, .code objectInit ⟨#[0xb1]⟩ 1 none, .arrayClass .int, .fieldLink RX4 7 "GenerationNamesModel" "z" "[I", .fieldLink RX4 13 "GenerationNamesModel" "past" "[I", .fieldLink RX4 16 "GenerationNamesModel" "slots" "[I", .arrayClass .boolean, .fieldLink RX4 19 "GenerationNamesModel" "isSaved" "[Z", .fieldLink RX4 23 "GenerationNamesModel" "spare" "[I", .arrayClass .char, .fieldLink RX4 26 "GenerationNamesModel" "pad" "[C", .fieldLink RX4 30 "GenerationNamesModel" "orders" "[I"] ++ wsX40)
def wsX4_in : List Cond := .code yX4_in cX4_in 3 (some .boolean) :: ([])
def wsX4_isGroup : List Cond := .code yX4_isGroup cX4_isGroup 1 (some .boolean) :: ([.methodLink RX4 33 yX4_in, .static yX4_in, .initialized RX4, .code yX4_in cX4_in 3 (some .boolean)])
def wsX4_of : List Cond := .code yX4_of cX4_of 3 (some .int) :: ([.fieldLink RX4 7 "GenerationNamesModel" "z" "[I"] ++ wsX40)
def wsX4_lay : List Cond := .code yX4_lay cX4_lay 4 none :: ([.fieldLink RX4 7 "GenerationNamesModel" "z" "[I"] ++ wsX40)
def wsX4_many : List Cond := .code yX4_many cX4_many 2 (some .int) :: ([.methodLink RX4 37 yX4_of, .instanceMethod yX4_of, .selects RX4 yX4_of yX4_of, .initialized RX4, .code yX4_of cX4_of 3 (some .int), .fieldLink RX4 7 "GenerationNamesModel" "z" "[I"] ++ wsX40)
def wsX4_gen : List Cond := .code yX4_gen cX4_gen 4 (some .int) :: ([.methodLink RX4 37 yX4_of, .instanceMethod yX4_of, .selects RX4 yX4_of yX4_of, .initialized RX4, .code yX4_of cX4_of 3 (some .int), .fieldLink RX4 7 "GenerationNamesModel" "z" "[I"] ++ wsX40)
def wsX4_layGen : List Cond := .code yX4_layGen cX4_layGen 5 none :: ([.methodLink RX4 41 yX4_lay, .instanceMethod yX4_lay, .selects RX4 yX4_lay yX4_lay, .initialized RX4, .code yX4_lay cX4_lay 4 none, .fieldLink RX4 7 "GenerationNamesModel" "z" "[I"] ++ wsX40)
def wsX4_isHole : List Cond := .code yX4_isHole cX4_isHole 3 (some .boolean) :: ([.methodLink RX4 45 yX4_gen, .instanceMethod yX4_gen, .selects RX4 yX4_gen yX4_gen, .initialized RX4, .code yX4_gen cX4_gen 4 (some .int), .methodLink RX4 37 yX4_of, .instanceMethod yX4_of, .selects RX4 yX4_of yX4_of, .code yX4_of cX4_of 3 (some .int), .fieldLink RX4 7 "GenerationNamesModel" "z" "[I"] ++ wsX40)
def wsX4_runs : List Cond := .code yX4_runs cX4_runs 1 (some .boolean) :: ([.fieldLink RX4 7 "GenerationNamesModel" "z" "[I"] ++ wsX40)
def wsX4_record : List Cond := .code yX4_record cX4_record 2 none :: ([.fieldLink RX4 49 "GenerationNamesModel" "pastMany" "I", .fieldLink RX4 13 "GenerationNamesModel" "past" "[I", .fieldLink RX4 7 "GenerationNamesModel" "z" "[I"] ++ wsX40)
def wsX4_undo : List Cond := .code yX4_undo cX4_undo 2 (some .int) :: ([.fieldLink RX4 49 "GenerationNamesModel" "pastMany" "I", .fieldLink RX4 7 "GenerationNamesModel" "z" "[I", .fieldLink RX4 13 "GenerationNamesModel" "past" "[I"] ++ wsX40)
def wsX4_holes : List Cond := .code yX4_holes cX4_holes 4 (some .int) :: ([.methodLink RX4 60 yX4_many, .instanceMethod yX4_many, .selects RX4 yX4_many yX4_many, .initialized RX4, .code yX4_many cX4_many 2 (some .int), .methodLink RX4 37 yX4_of, .instanceMethod yX4_of, .selects RX4 yX4_of yX4_of, .code yX4_of cX4_of 3 (some .int), .fieldLink RX4 7 "GenerationNamesModel" "z" "[I", .methodLink RX4 64 yX4_isHole, .instanceMethod yX4_isHole, .selects RX4 yX4_isHole yX4_isHole, .code yX4_isHole cX4_isHole 3 (some .boolean), .methodLink RX4 45 yX4_gen, .instanceMethod yX4_gen, .selects RX4 yX4_gen yX4_gen, .code yX4_gen cX4_gen 4 (some .int)] ++ wsX40)
def wsX4_allHoles : List Cond := .code yX4_allHoles cX4_allHoles 3 (some .int) :: ([.methodLink RX4 139 yX4_holes, .instanceMethod yX4_holes, .selects RX4 yX4_holes yX4_holes, .initialized RX4, .code yX4_holes cX4_holes 4 (some .int), .methodLink RX4 60 yX4_many, .instanceMethod yX4_many, .selects RX4 yX4_many yX4_many, .code yX4_many cX4_many 2 (some .int), .methodLink RX4 37 yX4_of, .instanceMethod yX4_of, .selects RX4 yX4_of yX4_of, .code yX4_of cX4_of 3 (some .int), .fieldLink RX4 7 "GenerationNamesModel" "z" "[I", .methodLink RX4 64 yX4_isHole, .instanceMethod yX4_isHole, .selects RX4 yX4_isHole yX4_isHole, .code yX4_isHole cX4_isHole 3 (some .boolean), .methodLink RX4 45 yX4_gen, .instanceMethod yX4_gen, .selects RX4 yX4_gen yX4_gen, .code yX4_gen cX4_gen 4 (some .int)] ++ wsX40)
def wsX4_wholes_r1 : List Cond := [Cond.methodLink RX4 60 yX4_many, Cond.instanceMethod yX4_many, Cond.selects RX4 yX4_many yX4_many, Cond.initialized RX4, Cond.code yX4_many cX4_many 2 (some .int), Cond.methodLink RX4 37 yX4_of, Cond.instanceMethod yX4_of, Cond.selects RX4 yX4_of yX4_of, Cond.code yX4_of cX4_of 3 (some .int), Cond.fieldLink RX4 7 "GenerationNamesModel" "z" "[I", Cond.methodLink RX4 148 yX4_allHoles, Cond.instanceMethod yX4_allHoles, Cond.selects RX4 yX4_allHoles yX4_allHoles, Cond.code yX4_allHoles cX4_allHoles 3 (some .int), Cond.methodLink RX4 139 yX4_holes, Cond.instanceMethod yX4_holes, Cond.selects RX4 yX4_holes yX4_holes, Cond.code yX4_holes cX4_holes 4 (some .int), Cond.methodLink RX4 64 yX4_isHole, Cond.instanceMethod yX4_isHole, Cond.selects RX4 yX4_isHole yX4_isHole, Cond.code yX4_isHole cX4_isHole 3 (some .boolean), Cond.methodLink RX4 45 yX4_gen, Cond.instanceMethod yX4_gen]
def wsX4_wholes_r2 : List Cond := [Cond.selects RX4 yX4_gen yX4_gen, Cond.code yX4_gen cX4_gen 4 (some .int)]
def wsX4_wholes : List Cond := .code yX4_wholes cX4_wholes 3 (some .int) :: ((wsX4_wholes_r1 ++ wsX4_wholes_r2) ++ wsX40)
def wsX4_save_r1 : List Cond := [Cond.fieldLink RX4 19 "GenerationNamesModel" "isSaved" "[Z", Cond.fieldLink RX4 16 "GenerationNamesModel" "slots" "[I", Cond.fieldLink RX4 7 "GenerationNamesModel" "z" "[I", Cond.methodLink RX4 33 yX4_in, Cond.static yX4_in, Cond.initialized RX4, Cond.code yX4_in cX4_in 3 (some .boolean), Cond.methodLink RX4 53 yX4_wholes, Cond.instanceMethod yX4_wholes, Cond.selects RX4 yX4_wholes yX4_wholes, Cond.code yX4_wholes cX4_wholes 3 (some .int), Cond.methodLink RX4 60 yX4_many, Cond.instanceMethod yX4_many, Cond.selects RX4 yX4_many yX4_many, Cond.code yX4_many cX4_many 2 (some .int), Cond.methodLink RX4 37 yX4_of, Cond.instanceMethod yX4_of, Cond.selects RX4 yX4_of yX4_of, Cond.code yX4_of cX4_of 3 (some .int), Cond.methodLink RX4 148 yX4_allHoles, Cond.instanceMethod yX4_allHoles, Cond.selects RX4 yX4_allHoles yX4_allHoles, Cond.code yX4_allHoles cX4_allHoles 3 (some .int), Cond.methodLink RX4 139 yX4_holes]
def wsX4_save_r2 : List Cond := [Cond.instanceMethod yX4_holes, Cond.selects RX4 yX4_holes yX4_holes, Cond.code yX4_holes cX4_holes 4 (some .int), Cond.methodLink RX4 64 yX4_isHole, Cond.instanceMethod yX4_isHole, Cond.selects RX4 yX4_isHole yX4_isHole, Cond.code yX4_isHole cX4_isHole 3 (some .boolean), Cond.methodLink RX4 45 yX4_gen, Cond.instanceMethod yX4_gen, Cond.selects RX4 yX4_gen yX4_gen, Cond.code yX4_gen cX4_gen 4 (some .int)]
def wsX4_save : List Cond := .code yX4_save cX4_save 3 (some .int) :: ((wsX4_save_r1 ++ wsX4_save_r2) ++ wsX40)
def wsX4_restore_r1 : List Cond := [Cond.fieldLink RX4 19 "GenerationNamesModel" "isSaved" "[Z", Cond.fieldLink RX4 7 "GenerationNamesModel" "z" "[I", Cond.fieldLink RX4 16 "GenerationNamesModel" "slots" "[I", Cond.methodLink RX4 33 yX4_in, Cond.static yX4_in, Cond.initialized RX4, Cond.code yX4_in cX4_in 3 (some .boolean), Cond.methodLink RX4 57 yX4_record, Cond.instanceMethod yX4_record, Cond.selects RX4 yX4_record yX4_record, Cond.code yX4_record cX4_record 2 none, Cond.fieldLink RX4 49 "GenerationNamesModel" "pastMany" "I", Cond.fieldLink RX4 13 "GenerationNamesModel" "past" "[I", Cond.methodLink RX4 53 yX4_wholes, Cond.instanceMethod yX4_wholes, Cond.selects RX4 yX4_wholes yX4_wholes, Cond.code yX4_wholes cX4_wholes 3 (some .int), Cond.methodLink RX4 60 yX4_many, Cond.instanceMethod yX4_many, Cond.selects RX4 yX4_many yX4_many, Cond.code yX4_many cX4_many 2 (some .int), Cond.methodLink RX4 37 yX4_of, Cond.instanceMethod yX4_of, Cond.selects RX4 yX4_of yX4_of]
def wsX4_restore_r2 : List Cond := [Cond.code yX4_of cX4_of 3 (some .int), Cond.methodLink RX4 148 yX4_allHoles, Cond.instanceMethod yX4_allHoles, Cond.selects RX4 yX4_allHoles yX4_allHoles, Cond.code yX4_allHoles cX4_allHoles 3 (some .int), Cond.methodLink RX4 139 yX4_holes, Cond.instanceMethod yX4_holes, Cond.selects RX4 yX4_holes yX4_holes, Cond.code yX4_holes cX4_holes 4 (some .int), Cond.methodLink RX4 64 yX4_isHole, Cond.instanceMethod yX4_isHole, Cond.selects RX4 yX4_isHole yX4_isHole, Cond.code yX4_isHole cX4_isHole 3 (some .boolean), Cond.methodLink RX4 45 yX4_gen, Cond.instanceMethod yX4_gen, Cond.selects RX4 yX4_gen yX4_gen, Cond.code yX4_gen cX4_gen 4 (some .int)]
def wsX4_restore : List Cond := .code yX4_restore cX4_restore 3 (some .int) :: ((wsX4_restore_r1 ++ wsX4_restore_r2) ++ wsX40)
def wsX4_trim : List Cond := .code yX4_trim cX4_trim 2 none :: ([.methodLink RX4 60 yX4_many, .instanceMethod yX4_many, .selects RX4 yX4_many yX4_many, .initialized RX4, .code yX4_many cX4_many 2 (some .int), .methodLink RX4 37 yX4_of, .instanceMethod yX4_of, .selects RX4 yX4_of yX4_of, .code yX4_of cX4_of 3 (some .int), .fieldLink RX4 7 "GenerationNamesModel" "z" "[I", .methodLink RX4 64 yX4_isHole, .instanceMethod yX4_isHole, .selects RX4 yX4_isHole yX4_isHole, .code yX4_isHole cX4_isHole 3 (some .boolean), .methodLink RX4 45 yX4_gen, .instanceMethod yX4_gen, .selects RX4 yX4_gen yX4_gen, .code yX4_gen cX4_gen 4 (some .int), .methodLink RX4 41 yX4_lay, .instanceMethod yX4_lay, .selects RX4 yX4_lay yX4_lay, .code yX4_lay cX4_lay 4 none] ++ wsX40)
def wsX4_roll_r1 : List Cond := [Cond.methodLink RX4 60 yX4_many, Cond.instanceMethod yX4_many, Cond.selects RX4 yX4_many yX4_many, Cond.initialized RX4, Cond.code yX4_many cX4_many 2 (some .int), Cond.methodLink RX4 37 yX4_of, Cond.instanceMethod yX4_of, Cond.selects RX4 yX4_of yX4_of, Cond.code yX4_of cX4_of 3 (some .int), Cond.fieldLink RX4 7 "GenerationNamesModel" "z" "[I", Cond.methodLink RX4 64 yX4_isHole, Cond.instanceMethod yX4_isHole, Cond.selects RX4 yX4_isHole yX4_isHole, Cond.code yX4_isHole cX4_isHole 3 (some .boolean), Cond.methodLink RX4 45 yX4_gen, Cond.instanceMethod yX4_gen, Cond.selects RX4 yX4_gen yX4_gen, Cond.code yX4_gen cX4_gen 4 (some .int), Cond.methodLink RX4 41 yX4_lay, Cond.instanceMethod yX4_lay, Cond.selects RX4 yX4_lay yX4_lay, Cond.code yX4_lay cX4_lay 4 none, Cond.methodLink RX4 68 yX4_trim, Cond.instanceMethod yX4_trim]
def wsX4_roll_r2 : List Cond := [Cond.selects RX4 yX4_trim yX4_trim, Cond.code yX4_trim cX4_trim 2 none]
def wsX4_roll : List Cond := .code yX4_roll cX4_roll 2 none :: ((wsX4_roll_r1 ++ wsX4_roll_r2) ++ wsX40)
def wsX4_numberBehind : List Cond := .code yX4_numberBehind cX4_numberBehind 1 (some .int) :: ([])
def wsX4_make_r1 : List Cond := [Cond.fieldLink RX4 7 "GenerationNamesModel" "z" "[I", Cond.methodLink RX4 60 yX4_many, Cond.instanceMethod yX4_many, Cond.selects RX4 yX4_many yX4_many, Cond.initialized RX4, Cond.code yX4_many cX4_many 2 (some .int), Cond.methodLink RX4 37 yX4_of, Cond.instanceMethod yX4_of, Cond.selects RX4 yX4_of yX4_of, Cond.code yX4_of cX4_of 3 (some .int), Cond.methodLink RX4 45 yX4_gen, Cond.instanceMethod yX4_gen, Cond.selects RX4 yX4_gen yX4_gen, Cond.code yX4_gen cX4_gen 4 (some .int), Cond.methodLink RX4 72 yX4_layGen, Cond.instanceMethod yX4_layGen, Cond.selects RX4 yX4_layGen yX4_layGen, Cond.code yX4_layGen cX4_layGen 5 none, Cond.methodLink RX4 41 yX4_lay, Cond.instanceMethod yX4_lay, Cond.selects RX4 yX4_lay yX4_lay, Cond.code yX4_lay cX4_lay 4 none, Cond.methodLink RX4 76 yX4_numberBehind, Cond.static yX4_numberBehind]
def wsX4_make_r2 : List Cond := [Cond.code yX4_numberBehind cX4_numberBehind 1 (some .int), Cond.methodLink RX4 79 yX4_runs, Cond.instanceMethod yX4_runs, Cond.selects RX4 yX4_runs yX4_runs, Cond.code yX4_runs cX4_runs 1 (some .boolean), Cond.methodLink RX4 83 yX4_roll, Cond.instanceMethod yX4_roll, Cond.selects RX4 yX4_roll yX4_roll, Cond.code yX4_roll cX4_roll 2 none, Cond.methodLink RX4 64 yX4_isHole, Cond.instanceMethod yX4_isHole, Cond.selects RX4 yX4_isHole yX4_isHole, Cond.code yX4_isHole cX4_isHole 3 (some .boolean), Cond.methodLink RX4 68 yX4_trim, Cond.instanceMethod yX4_trim, Cond.selects RX4 yX4_trim yX4_trim, Cond.code yX4_trim cX4_trim 2 none]
def wsX4_make : List Cond := .code yX4_make cX4_make 5 (some .int) :: ((wsX4_make_r1 ++ wsX4_make_r2) ++ wsX40)
def wsX4_deleteAt_r1 : List Cond := [Cond.methodLink RX4 72 yX4_layGen, Cond.instanceMethod yX4_layGen, Cond.selects RX4 yX4_layGen yX4_layGen, Cond.initialized RX4, Cond.code yX4_layGen cX4_layGen 5 none, Cond.methodLink RX4 41 yX4_lay, Cond.instanceMethod yX4_lay, Cond.selects RX4 yX4_lay yX4_lay, Cond.code yX4_lay cX4_lay 4 none, Cond.fieldLink RX4 7 "GenerationNamesModel" "z" "[I", Cond.methodLink RX4 37 yX4_of, Cond.instanceMethod yX4_of, Cond.selects RX4 yX4_of yX4_of, Cond.code yX4_of cX4_of 3 (some .int), Cond.methodLink RX4 68 yX4_trim, Cond.instanceMethod yX4_trim, Cond.selects RX4 yX4_trim yX4_trim, Cond.code yX4_trim cX4_trim 2 none, Cond.methodLink RX4 60 yX4_many, Cond.instanceMethod yX4_many, Cond.selects RX4 yX4_many yX4_many, Cond.code yX4_many cX4_many 2 (some .int), Cond.methodLink RX4 64 yX4_isHole, Cond.instanceMethod yX4_isHole]
def wsX4_deleteAt_r2 : List Cond := [Cond.selects RX4 yX4_isHole yX4_isHole, Cond.code yX4_isHole cX4_isHole 3 (some .boolean), Cond.methodLink RX4 45 yX4_gen, Cond.instanceMethod yX4_gen, Cond.selects RX4 yX4_gen yX4_gen, Cond.code yX4_gen cX4_gen 4 (some .int)]
def wsX4_deleteAt : List Cond := .code yX4_deleteAt cX4_deleteAt 3 none :: ((wsX4_deleteAt_r1 ++ wsX4_deleteAt_r2) ++ wsX40)
def wsX4_placeOf : List Cond := .code yX4_placeOf cX4_placeOf 5 (some .int) :: ([.methodLink RX4 60 yX4_many, .instanceMethod yX4_many, .selects RX4 yX4_many yX4_many, .initialized RX4, .code yX4_many cX4_many 2 (some .int), .methodLink RX4 37 yX4_of, .instanceMethod yX4_of, .selects RX4 yX4_of yX4_of, .code yX4_of cX4_of 3 (some .int), .fieldLink RX4 7 "GenerationNamesModel" "z" "[I", .methodLink RX4 45 yX4_gen, .instanceMethod yX4_gen, .selects RX4 yX4_gen yX4_gen, .code yX4_gen cX4_gen 4 (some .int)] ++ wsX40)
def wsX4_isName : List Cond := .code yX4_isName cX4_isName 1 (some .boolean) :: ([.methodLink RX4 33 yX4_in, .static yX4_in, .initialized RX4, .code yX4_in cX4_in 3 (some .boolean)])
def wsX4_markOf : List Cond := .code yX4_markOf cX4_markOf 3 (some .int) :: ([.methodLink RX4 37 yX4_of, .instanceMethod yX4_of, .selects RX4 yX4_of yX4_of, .initialized RX4, .code yX4_of cX4_of 3 (some .int), .fieldLink RX4 7 "GenerationNamesModel" "z" "[I"] ++ wsX40)
def wsX4_told_r1 : List Cond := [Cond.methodLink RX4 79 yX4_runs, Cond.instanceMethod yX4_runs, Cond.selects RX4 yX4_runs yX4_runs, Cond.initialized RX4, Cond.code yX4_runs cX4_runs 1 (some .boolean), Cond.fieldLink RX4 7 "GenerationNamesModel" "z" "[I", Cond.methodLink RX4 86 yX4_markOf, Cond.instanceMethod yX4_markOf, Cond.selects RX4 yX4_markOf yX4_markOf, Cond.code yX4_markOf cX4_markOf 3 (some .int), Cond.methodLink RX4 37 yX4_of, Cond.instanceMethod yX4_of, Cond.selects RX4 yX4_of yX4_of, Cond.code yX4_of cX4_of 3 (some .int), Cond.methodLink RX4 89 yX4_placeOf, Cond.instanceMethod yX4_placeOf, Cond.selects RX4 yX4_placeOf yX4_placeOf, Cond.code yX4_placeOf cX4_placeOf 5 (some .int), Cond.methodLink RX4 60 yX4_many, Cond.instanceMethod yX4_many, Cond.selects RX4 yX4_many yX4_many, Cond.code yX4_many cX4_many 2 (some .int), Cond.methodLink RX4 45 yX4_gen, Cond.instanceMethod yX4_gen]
def wsX4_told_r2 : List Cond := [Cond.selects RX4 yX4_gen yX4_gen, Cond.code yX4_gen cX4_gen 4 (some .int), Cond.methodLink RX4 64 yX4_isHole, Cond.instanceMethod yX4_isHole, Cond.selects RX4 yX4_isHole yX4_isHole, Cond.code yX4_isHole cX4_isHole 3 (some .boolean)]
def wsX4_told : List Cond := .code yX4_told cX4_told 4 (some .int) :: ((wsX4_told_r1 ++ wsX4_told_r2) ++ wsX40)
def wsX4_keep_r1 : List Cond := [Cond.methodLink RX4 92 yX4_isGroup, Cond.static yX4_isGroup, Cond.initialized RX4, Cond.code yX4_isGroup cX4_isGroup 1 (some .boolean), Cond.methodLink RX4 33 yX4_in, Cond.static yX4_in, Cond.code yX4_in cX4_in 3 (some .boolean), Cond.methodLink RX4 57 yX4_record, Cond.instanceMethod yX4_record, Cond.selects RX4 yX4_record yX4_record, Cond.code yX4_record cX4_record 2 none, Cond.fieldLink RX4 49 "GenerationNamesModel" "pastMany" "I", Cond.fieldLink RX4 13 "GenerationNamesModel" "past" "[I", Cond.fieldLink RX4 7 "GenerationNamesModel" "z" "[I", Cond.methodLink RX4 37 yX4_of, Cond.instanceMethod yX4_of, Cond.selects RX4 yX4_of yX4_of, Cond.code yX4_of cX4_of 3 (some .int), Cond.methodLink RX4 41 yX4_lay, Cond.instanceMethod yX4_lay, Cond.selects RX4 yX4_lay yX4_lay, Cond.code yX4_lay cX4_lay 4 none, Cond.methodLink RX4 83 yX4_roll, Cond.instanceMethod yX4_roll]
def wsX4_keep_r2 : List Cond := [Cond.selects RX4 yX4_roll yX4_roll, Cond.code yX4_roll cX4_roll 2 none, Cond.methodLink RX4 60 yX4_many, Cond.instanceMethod yX4_many, Cond.selects RX4 yX4_many yX4_many, Cond.code yX4_many cX4_many 2 (some .int), Cond.methodLink RX4 64 yX4_isHole, Cond.instanceMethod yX4_isHole, Cond.selects RX4 yX4_isHole yX4_isHole, Cond.code yX4_isHole cX4_isHole 3 (some .boolean), Cond.methodLink RX4 45 yX4_gen, Cond.instanceMethod yX4_gen, Cond.selects RX4 yX4_gen yX4_gen, Cond.code yX4_gen cX4_gen 4 (some .int), Cond.methodLink RX4 68 yX4_trim, Cond.instanceMethod yX4_trim, Cond.selects RX4 yX4_trim yX4_trim, Cond.code yX4_trim cX4_trim 2 none]
def wsX4_keep : List Cond := .code yX4_keep cX4_keep 4 (some .int) :: ((wsX4_keep_r1 ++ wsX4_keep_r2) ++ wsX40)
def wsX4_canWrite_r1 : List Cond := [Cond.methodLink RX4 79 yX4_runs, Cond.instanceMethod yX4_runs, Cond.selects RX4 yX4_runs yX4_runs, Cond.initialized RX4, Cond.code yX4_runs cX4_runs 1 (some .boolean), Cond.fieldLink RX4 7 "GenerationNamesModel" "z" "[I", Cond.methodLink RX4 37 yX4_of, Cond.instanceMethod yX4_of, Cond.selects RX4 yX4_of yX4_of, Cond.code yX4_of cX4_of 3 (some .int), Cond.methodLink RX4 96 yX4_told, Cond.instanceMethod yX4_told, Cond.selects RX4 yX4_told yX4_told, Cond.code yX4_told cX4_told 4 (some .int), Cond.methodLink RX4 86 yX4_markOf, Cond.instanceMethod yX4_markOf, Cond.selects RX4 yX4_markOf yX4_markOf, Cond.code yX4_markOf cX4_markOf 3 (some .int), Cond.methodLink RX4 89 yX4_placeOf, Cond.instanceMethod yX4_placeOf, Cond.selects RX4 yX4_placeOf yX4_placeOf, Cond.code yX4_placeOf cX4_placeOf 5 (some .int), Cond.methodLink RX4 60 yX4_many, Cond.instanceMethod yX4_many]
def wsX4_canWrite_r2 : List Cond := [Cond.selects RX4 yX4_many yX4_many, Cond.code yX4_many cX4_many 2 (some .int), Cond.methodLink RX4 45 yX4_gen, Cond.instanceMethod yX4_gen, Cond.selects RX4 yX4_gen yX4_gen, Cond.code yX4_gen cX4_gen 4 (some .int), Cond.methodLink RX4 64 yX4_isHole, Cond.instanceMethod yX4_isHole, Cond.selects RX4 yX4_isHole yX4_isHole, Cond.code yX4_isHole cX4_isHole 3 (some .boolean)]
def wsX4_canWrite : List Cond := .code yX4_canWrite cX4_canWrite 4 (some .boolean) :: ((wsX4_canWrite_r1 ++ wsX4_canWrite_r2) ++ wsX40)
def wsX4_writeIt_r1 : List Cond := [Cond.methodLink RX4 79 yX4_runs, Cond.instanceMethod yX4_runs, Cond.selects RX4 yX4_runs yX4_runs, Cond.initialized RX4, Cond.code yX4_runs cX4_runs 1 (some .boolean), Cond.fieldLink RX4 7 "GenerationNamesModel" "z" "[I", Cond.methodLink RX4 37 yX4_of, Cond.instanceMethod yX4_of, Cond.selects RX4 yX4_of yX4_of, Cond.code yX4_of cX4_of 3 (some .int), Cond.methodLink RX4 99 yX4_make, Cond.instanceMethod yX4_make, Cond.selects RX4 yX4_make yX4_make, Cond.code yX4_make cX4_make 5 (some .int), Cond.methodLink RX4 60 yX4_many, Cond.instanceMethod yX4_many, Cond.selects RX4 yX4_many yX4_many, Cond.code yX4_many cX4_many 2 (some .int), Cond.methodLink RX4 45 yX4_gen, Cond.instanceMethod yX4_gen, Cond.selects RX4 yX4_gen yX4_gen, Cond.code yX4_gen cX4_gen 4 (some .int), Cond.methodLink RX4 72 yX4_layGen, Cond.instanceMethod yX4_layGen]
def wsX4_writeIt_r2 : List Cond := [Cond.selects RX4 yX4_layGen yX4_layGen, Cond.code yX4_layGen cX4_layGen 5 none, Cond.methodLink RX4 41 yX4_lay, Cond.instanceMethod yX4_lay, Cond.selects RX4 yX4_lay yX4_lay, Cond.code yX4_lay cX4_lay 4 none, Cond.methodLink RX4 76 yX4_numberBehind, Cond.static yX4_numberBehind, Cond.code yX4_numberBehind cX4_numberBehind 1 (some .int), Cond.methodLink RX4 83 yX4_roll, Cond.instanceMethod yX4_roll, Cond.selects RX4 yX4_roll yX4_roll, Cond.code yX4_roll cX4_roll 2 none, Cond.methodLink RX4 64 yX4_isHole, Cond.instanceMethod yX4_isHole, Cond.selects RX4 yX4_isHole yX4_isHole, Cond.code yX4_isHole cX4_isHole 3 (some .boolean), Cond.methodLink RX4 68 yX4_trim, Cond.instanceMethod yX4_trim, Cond.selects RX4 yX4_trim yX4_trim, Cond.code yX4_trim cX4_trim 2 none, Cond.methodLink RX4 96 yX4_told, Cond.instanceMethod yX4_told, Cond.selects RX4 yX4_told yX4_told]
def wsX4_writeIt_r3 : List Cond := [Cond.code yX4_told cX4_told 4 (some .int), Cond.methodLink RX4 86 yX4_markOf, Cond.instanceMethod yX4_markOf, Cond.selects RX4 yX4_markOf yX4_markOf, Cond.code yX4_markOf cX4_markOf 3 (some .int), Cond.methodLink RX4 89 yX4_placeOf, Cond.instanceMethod yX4_placeOf, Cond.selects RX4 yX4_placeOf yX4_placeOf, Cond.code yX4_placeOf cX4_placeOf 5 (some .int)]
def wsX4_writeIt : List Cond := .code yX4_writeIt cX4_writeIt 5 (some .int) :: ((wsX4_writeIt_r1 ++ (wsX4_writeIt_r2 ++ wsX4_writeIt_r3)) ++ wsX40)
def wsX4_write_r1 : List Cond := [Cond.methodLink RX4 92 yX4_isGroup, Cond.static yX4_isGroup, Cond.initialized RX4, Cond.code yX4_isGroup cX4_isGroup 1 (some .boolean), Cond.methodLink RX4 33 yX4_in, Cond.static yX4_in, Cond.code yX4_in cX4_in 3 (some .boolean), Cond.methodLink RX4 102 yX4_isName, Cond.static yX4_isName, Cond.code yX4_isName cX4_isName 1 (some .boolean), Cond.methodLink RX4 105 yX4_canWrite, Cond.instanceMethod yX4_canWrite, Cond.selects RX4 yX4_canWrite yX4_canWrite, Cond.code yX4_canWrite cX4_canWrite 4 (some .boolean), Cond.methodLink RX4 79 yX4_runs, Cond.instanceMethod yX4_runs, Cond.selects RX4 yX4_runs yX4_runs, Cond.code yX4_runs cX4_runs 1 (some .boolean), Cond.fieldLink RX4 7 "GenerationNamesModel" "z" "[I", Cond.methodLink RX4 37 yX4_of, Cond.instanceMethod yX4_of, Cond.selects RX4 yX4_of yX4_of, Cond.code yX4_of cX4_of 3 (some .int), Cond.methodLink RX4 96 yX4_told]
def wsX4_write_r2 : List Cond := [Cond.instanceMethod yX4_told, Cond.selects RX4 yX4_told yX4_told, Cond.code yX4_told cX4_told 4 (some .int), Cond.methodLink RX4 86 yX4_markOf, Cond.instanceMethod yX4_markOf, Cond.selects RX4 yX4_markOf yX4_markOf, Cond.code yX4_markOf cX4_markOf 3 (some .int), Cond.methodLink RX4 89 yX4_placeOf, Cond.instanceMethod yX4_placeOf, Cond.selects RX4 yX4_placeOf yX4_placeOf, Cond.code yX4_placeOf cX4_placeOf 5 (some .int), Cond.methodLink RX4 60 yX4_many, Cond.instanceMethod yX4_many, Cond.selects RX4 yX4_many yX4_many, Cond.code yX4_many cX4_many 2 (some .int), Cond.methodLink RX4 45 yX4_gen, Cond.instanceMethod yX4_gen, Cond.selects RX4 yX4_gen yX4_gen, Cond.code yX4_gen cX4_gen 4 (some .int), Cond.methodLink RX4 64 yX4_isHole, Cond.instanceMethod yX4_isHole, Cond.selects RX4 yX4_isHole yX4_isHole, Cond.code yX4_isHole cX4_isHole 3 (some .boolean), Cond.methodLink RX4 57 yX4_record]
def wsX4_write_r3 : List Cond := [Cond.instanceMethod yX4_record, Cond.selects RX4 yX4_record yX4_record, Cond.code yX4_record cX4_record 2 none, Cond.fieldLink RX4 49 "GenerationNamesModel" "pastMany" "I", Cond.fieldLink RX4 13 "GenerationNamesModel" "past" "[I", Cond.methodLink RX4 108 yX4_writeIt, Cond.instanceMethod yX4_writeIt, Cond.selects RX4 yX4_writeIt yX4_writeIt, Cond.code yX4_writeIt cX4_writeIt 5 (some .int), Cond.methodLink RX4 99 yX4_make, Cond.instanceMethod yX4_make, Cond.selects RX4 yX4_make yX4_make, Cond.code yX4_make cX4_make 5 (some .int), Cond.methodLink RX4 72 yX4_layGen, Cond.instanceMethod yX4_layGen, Cond.selects RX4 yX4_layGen yX4_layGen, Cond.code yX4_layGen cX4_layGen 5 none, Cond.methodLink RX4 41 yX4_lay, Cond.instanceMethod yX4_lay, Cond.selects RX4 yX4_lay yX4_lay, Cond.code yX4_lay cX4_lay 4 none, Cond.methodLink RX4 76 yX4_numberBehind, Cond.static yX4_numberBehind, Cond.code yX4_numberBehind cX4_numberBehind 1 (some .int)]
def wsX4_write_r4 : List Cond := [Cond.methodLink RX4 83 yX4_roll, Cond.instanceMethod yX4_roll, Cond.selects RX4 yX4_roll yX4_roll, Cond.code yX4_roll cX4_roll 2 none, Cond.methodLink RX4 68 yX4_trim, Cond.instanceMethod yX4_trim, Cond.selects RX4 yX4_trim yX4_trim, Cond.code yX4_trim cX4_trim 2 none]
def wsX4_write : List Cond := .code yX4_write cX4_write 4 (some .int) :: ((wsX4_write_r1 ++ (wsX4_write_r2 ++ (wsX4_write_r3 ++ wsX4_write_r4))) ++ wsX40)
def wsX4_readIt_r1 : List Cond := [Cond.fieldLink RX4 7 "GenerationNamesModel" "z" "[I", Cond.methodLink RX4 96 yX4_told, Cond.instanceMethod yX4_told, Cond.selects RX4 yX4_told yX4_told, Cond.initialized RX4, Cond.code yX4_told cX4_told 4 (some .int), Cond.methodLink RX4 79 yX4_runs, Cond.instanceMethod yX4_runs, Cond.selects RX4 yX4_runs yX4_runs, Cond.code yX4_runs cX4_runs 1 (some .boolean), Cond.methodLink RX4 86 yX4_markOf, Cond.instanceMethod yX4_markOf, Cond.selects RX4 yX4_markOf yX4_markOf, Cond.code yX4_markOf cX4_markOf 3 (some .int), Cond.methodLink RX4 37 yX4_of, Cond.instanceMethod yX4_of, Cond.selects RX4 yX4_of yX4_of, Cond.code yX4_of cX4_of 3 (some .int), Cond.methodLink RX4 89 yX4_placeOf, Cond.instanceMethod yX4_placeOf, Cond.selects RX4 yX4_placeOf yX4_placeOf, Cond.code yX4_placeOf cX4_placeOf 5 (some .int), Cond.methodLink RX4 60 yX4_many, Cond.instanceMethod yX4_many]
def wsX4_readIt_r2 : List Cond := [Cond.selects RX4 yX4_many yX4_many, Cond.code yX4_many cX4_many 2 (some .int), Cond.methodLink RX4 45 yX4_gen, Cond.instanceMethod yX4_gen, Cond.selects RX4 yX4_gen yX4_gen, Cond.code yX4_gen cX4_gen 4 (some .int), Cond.methodLink RX4 64 yX4_isHole, Cond.instanceMethod yX4_isHole, Cond.selects RX4 yX4_isHole yX4_isHole, Cond.code yX4_isHole cX4_isHole 3 (some .boolean), Cond.methodLink RX4 72 yX4_layGen, Cond.instanceMethod yX4_layGen, Cond.selects RX4 yX4_layGen yX4_layGen, Cond.code yX4_layGen cX4_layGen 5 none, Cond.methodLink RX4 41 yX4_lay, Cond.instanceMethod yX4_lay, Cond.selects RX4 yX4_lay yX4_lay, Cond.code yX4_lay cX4_lay 4 none]
def wsX4_readIt : List Cond := .code yX4_readIt cX4_readIt 4 (some .int) :: ((wsX4_readIt_r1 ++ wsX4_readIt_r2) ++ wsX40)
def wsX4_read_r1 : List Cond := [Cond.methodLink RX4 92 yX4_isGroup, Cond.static yX4_isGroup, Cond.initialized RX4, Cond.code yX4_isGroup cX4_isGroup 1 (some .boolean), Cond.methodLink RX4 33 yX4_in, Cond.static yX4_in, Cond.code yX4_in cX4_in 3 (some .boolean), Cond.methodLink RX4 102 yX4_isName, Cond.static yX4_isName, Cond.code yX4_isName cX4_isName 1 (some .boolean), Cond.methodLink RX4 57 yX4_record, Cond.instanceMethod yX4_record, Cond.selects RX4 yX4_record yX4_record, Cond.code yX4_record cX4_record 2 none, Cond.fieldLink RX4 49 "GenerationNamesModel" "pastMany" "I", Cond.fieldLink RX4 13 "GenerationNamesModel" "past" "[I", Cond.fieldLink RX4 7 "GenerationNamesModel" "z" "[I", Cond.methodLink RX4 111 yX4_readIt, Cond.instanceMethod yX4_readIt, Cond.selects RX4 yX4_readIt yX4_readIt, Cond.code yX4_readIt cX4_readIt 4 (some .int), Cond.methodLink RX4 96 yX4_told, Cond.instanceMethod yX4_told, Cond.selects RX4 yX4_told yX4_told]
def wsX4_read_r2 : List Cond := [Cond.code yX4_told cX4_told 4 (some .int), Cond.methodLink RX4 79 yX4_runs, Cond.instanceMethod yX4_runs, Cond.selects RX4 yX4_runs yX4_runs, Cond.code yX4_runs cX4_runs 1 (some .boolean), Cond.methodLink RX4 86 yX4_markOf, Cond.instanceMethod yX4_markOf, Cond.selects RX4 yX4_markOf yX4_markOf, Cond.code yX4_markOf cX4_markOf 3 (some .int), Cond.methodLink RX4 37 yX4_of, Cond.instanceMethod yX4_of, Cond.selects RX4 yX4_of yX4_of, Cond.code yX4_of cX4_of 3 (some .int), Cond.methodLink RX4 89 yX4_placeOf, Cond.instanceMethod yX4_placeOf, Cond.selects RX4 yX4_placeOf yX4_placeOf, Cond.code yX4_placeOf cX4_placeOf 5 (some .int), Cond.methodLink RX4 60 yX4_many, Cond.instanceMethod yX4_many, Cond.selects RX4 yX4_many yX4_many, Cond.code yX4_many cX4_many 2 (some .int), Cond.methodLink RX4 45 yX4_gen, Cond.instanceMethod yX4_gen, Cond.selects RX4 yX4_gen yX4_gen]
def wsX4_read_r3 : List Cond := [Cond.code yX4_gen cX4_gen 4 (some .int), Cond.methodLink RX4 64 yX4_isHole, Cond.instanceMethod yX4_isHole, Cond.selects RX4 yX4_isHole yX4_isHole, Cond.code yX4_isHole cX4_isHole 3 (some .boolean), Cond.methodLink RX4 72 yX4_layGen, Cond.instanceMethod yX4_layGen, Cond.selects RX4 yX4_layGen yX4_layGen, Cond.code yX4_layGen cX4_layGen 5 none, Cond.methodLink RX4 41 yX4_lay, Cond.instanceMethod yX4_lay, Cond.selects RX4 yX4_lay yX4_lay, Cond.code yX4_lay cX4_lay 4 none]
def wsX4_read : List Cond := .code yX4_read cX4_read 3 (some .int) :: ((wsX4_read_r1 ++ (wsX4_read_r2 ++ wsX4_read_r3)) ++ wsX40)
def wsX4_deleteIt_r1 : List Cond := [Cond.methodLink RX4 96 yX4_told, Cond.instanceMethod yX4_told, Cond.selects RX4 yX4_told yX4_told, Cond.initialized RX4, Cond.code yX4_told cX4_told 4 (some .int), Cond.methodLink RX4 79 yX4_runs, Cond.instanceMethod yX4_runs, Cond.selects RX4 yX4_runs yX4_runs, Cond.code yX4_runs cX4_runs 1 (some .boolean), Cond.fieldLink RX4 7 "GenerationNamesModel" "z" "[I", Cond.methodLink RX4 86 yX4_markOf, Cond.instanceMethod yX4_markOf, Cond.selects RX4 yX4_markOf yX4_markOf, Cond.code yX4_markOf cX4_markOf 3 (some .int), Cond.methodLink RX4 37 yX4_of, Cond.instanceMethod yX4_of, Cond.selects RX4 yX4_of yX4_of, Cond.code yX4_of cX4_of 3 (some .int), Cond.methodLink RX4 89 yX4_placeOf, Cond.instanceMethod yX4_placeOf, Cond.selects RX4 yX4_placeOf yX4_placeOf, Cond.code yX4_placeOf cX4_placeOf 5 (some .int), Cond.methodLink RX4 60 yX4_many, Cond.instanceMethod yX4_many]
def wsX4_deleteIt_r2 : List Cond := [Cond.selects RX4 yX4_many yX4_many, Cond.code yX4_many cX4_many 2 (some .int), Cond.methodLink RX4 45 yX4_gen, Cond.instanceMethod yX4_gen, Cond.selects RX4 yX4_gen yX4_gen, Cond.code yX4_gen cX4_gen 4 (some .int), Cond.methodLink RX4 64 yX4_isHole, Cond.instanceMethod yX4_isHole, Cond.selects RX4 yX4_isHole yX4_isHole, Cond.code yX4_isHole cX4_isHole 3 (some .boolean), Cond.methodLink RX4 114 yX4_deleteAt, Cond.instanceMethod yX4_deleteAt, Cond.selects RX4 yX4_deleteAt yX4_deleteAt, Cond.code yX4_deleteAt cX4_deleteAt 3 none, Cond.methodLink RX4 72 yX4_layGen, Cond.instanceMethod yX4_layGen, Cond.selects RX4 yX4_layGen yX4_layGen, Cond.code yX4_layGen cX4_layGen 5 none, Cond.methodLink RX4 41 yX4_lay, Cond.instanceMethod yX4_lay, Cond.selects RX4 yX4_lay yX4_lay, Cond.code yX4_lay cX4_lay 4 none, Cond.methodLink RX4 68 yX4_trim, Cond.instanceMethod yX4_trim]
def wsX4_deleteIt_r3 : List Cond := [Cond.selects RX4 yX4_trim yX4_trim, Cond.code yX4_trim cX4_trim 2 none]
def wsX4_deleteIt : List Cond := .code yX4_deleteIt cX4_deleteIt 5 (some .int) :: ((wsX4_deleteIt_r1 ++ (wsX4_deleteIt_r2 ++ wsX4_deleteIt_r3)) ++ wsX40)
def wsX4_delete_r1 : List Cond := [Cond.methodLink RX4 92 yX4_isGroup, Cond.static yX4_isGroup, Cond.initialized RX4, Cond.code yX4_isGroup cX4_isGroup 1 (some .boolean), Cond.methodLink RX4 33 yX4_in, Cond.static yX4_in, Cond.code yX4_in cX4_in 3 (some .boolean), Cond.methodLink RX4 102 yX4_isName, Cond.static yX4_isName, Cond.code yX4_isName cX4_isName 1 (some .boolean), Cond.methodLink RX4 96 yX4_told, Cond.instanceMethod yX4_told, Cond.selects RX4 yX4_told yX4_told, Cond.code yX4_told cX4_told 4 (some .int), Cond.methodLink RX4 79 yX4_runs, Cond.instanceMethod yX4_runs, Cond.selects RX4 yX4_runs yX4_runs, Cond.code yX4_runs cX4_runs 1 (some .boolean), Cond.fieldLink RX4 7 "GenerationNamesModel" "z" "[I", Cond.methodLink RX4 86 yX4_markOf, Cond.instanceMethod yX4_markOf, Cond.selects RX4 yX4_markOf yX4_markOf, Cond.code yX4_markOf cX4_markOf 3 (some .int), Cond.methodLink RX4 37 yX4_of]
def wsX4_delete_r2 : List Cond := [Cond.instanceMethod yX4_of, Cond.selects RX4 yX4_of yX4_of, Cond.code yX4_of cX4_of 3 (some .int), Cond.methodLink RX4 89 yX4_placeOf, Cond.instanceMethod yX4_placeOf, Cond.selects RX4 yX4_placeOf yX4_placeOf, Cond.code yX4_placeOf cX4_placeOf 5 (some .int), Cond.methodLink RX4 60 yX4_many, Cond.instanceMethod yX4_many, Cond.selects RX4 yX4_many yX4_many, Cond.code yX4_many cX4_many 2 (some .int), Cond.methodLink RX4 45 yX4_gen, Cond.instanceMethod yX4_gen, Cond.selects RX4 yX4_gen yX4_gen, Cond.code yX4_gen cX4_gen 4 (some .int), Cond.methodLink RX4 64 yX4_isHole, Cond.instanceMethod yX4_isHole, Cond.selects RX4 yX4_isHole yX4_isHole, Cond.code yX4_isHole cX4_isHole 3 (some .boolean), Cond.methodLink RX4 57 yX4_record, Cond.instanceMethod yX4_record, Cond.selects RX4 yX4_record yX4_record, Cond.code yX4_record cX4_record 2 none, Cond.fieldLink RX4 49 "GenerationNamesModel" "pastMany" "I"]
def wsX4_delete_r3 : List Cond := [Cond.fieldLink RX4 13 "GenerationNamesModel" "past" "[I", Cond.methodLink RX4 118 yX4_deleteIt, Cond.instanceMethod yX4_deleteIt, Cond.selects RX4 yX4_deleteIt yX4_deleteIt, Cond.code yX4_deleteIt cX4_deleteIt 5 (some .int), Cond.methodLink RX4 114 yX4_deleteAt, Cond.instanceMethod yX4_deleteAt, Cond.selects RX4 yX4_deleteAt yX4_deleteAt, Cond.code yX4_deleteAt cX4_deleteAt 3 none, Cond.methodLink RX4 72 yX4_layGen, Cond.instanceMethod yX4_layGen, Cond.selects RX4 yX4_layGen yX4_layGen, Cond.code yX4_layGen cX4_layGen 5 none, Cond.methodLink RX4 41 yX4_lay, Cond.instanceMethod yX4_lay, Cond.selects RX4 yX4_lay yX4_lay, Cond.code yX4_lay cX4_lay 4 none, Cond.methodLink RX4 68 yX4_trim, Cond.instanceMethod yX4_trim, Cond.selects RX4 yX4_trim yX4_trim, Cond.code yX4_trim cX4_trim 2 none]
def wsX4_delete : List Cond := .code yX4_delete cX4_delete 3 (some .int) :: ((wsX4_delete_r1 ++ (wsX4_delete_r2 ++ wsX4_delete_r3)) ++ wsX40)
def wsX4_start : List Cond := .code yX4_start cX4_start 2 (some .int) :: ([.fieldLink RX4 7 "GenerationNamesModel" "z" "[I", .methodLink RX4 41 yX4_lay, .instanceMethod yX4_lay, .selects RX4 yX4_lay yX4_lay, .initialized RX4, .code yX4_lay cX4_lay 4 none] ++ wsX40)
def wsX4_beginIt : List Cond := .code yX4_beginIt cX4_beginIt 3 (some .int) :: ([.methodLink RX4 60 yX4_many, .instanceMethod yX4_many, .selects RX4 yX4_many yX4_many, .initialized RX4, .code yX4_many cX4_many 2 (some .int), .methodLink RX4 37 yX4_of, .instanceMethod yX4_of, .selects RX4 yX4_of yX4_of, .code yX4_of cX4_of 3 (some .int), .fieldLink RX4 7 "GenerationNamesModel" "z" "[I", .methodLink RX4 45 yX4_gen, .instanceMethod yX4_gen, .selects RX4 yX4_gen yX4_gen, .code yX4_gen cX4_gen 4 (some .int), .methodLink RX4 41 yX4_lay, .instanceMethod yX4_lay, .selects RX4 yX4_lay yX4_lay, .code yX4_lay cX4_lay 4 none, .methodLink RX4 121 yX4_start, .instanceMethod yX4_start, .selects RX4 yX4_start yX4_start, .code yX4_start cX4_start 2 (some .int)] ++ wsX40)
def wsX4_begin_r1 : List Cond := [Cond.methodLink RX4 79 yX4_runs, Cond.instanceMethod yX4_runs, Cond.selects RX4 yX4_runs yX4_runs, Cond.initialized RX4, Cond.code yX4_runs cX4_runs 1 (some .boolean), Cond.fieldLink RX4 7 "GenerationNamesModel" "z" "[I", Cond.methodLink RX4 57 yX4_record, Cond.instanceMethod yX4_record, Cond.selects RX4 yX4_record yX4_record, Cond.code yX4_record cX4_record 2 none, Cond.fieldLink RX4 49 "GenerationNamesModel" "pastMany" "I", Cond.fieldLink RX4 13 "GenerationNamesModel" "past" "[I", Cond.methodLink RX4 124 yX4_beginIt, Cond.instanceMethod yX4_beginIt, Cond.selects RX4 yX4_beginIt yX4_beginIt, Cond.code yX4_beginIt cX4_beginIt 3 (some .int), Cond.methodLink RX4 60 yX4_many, Cond.instanceMethod yX4_many, Cond.selects RX4 yX4_many yX4_many, Cond.code yX4_many cX4_many 2 (some .int), Cond.methodLink RX4 37 yX4_of, Cond.instanceMethod yX4_of, Cond.selects RX4 yX4_of yX4_of, Cond.code yX4_of cX4_of 3 (some .int)]
def wsX4_begin_r2 : List Cond := [Cond.methodLink RX4 45 yX4_gen, Cond.instanceMethod yX4_gen, Cond.selects RX4 yX4_gen yX4_gen, Cond.code yX4_gen cX4_gen 4 (some .int), Cond.methodLink RX4 41 yX4_lay, Cond.instanceMethod yX4_lay, Cond.selects RX4 yX4_lay yX4_lay, Cond.code yX4_lay cX4_lay 4 none, Cond.methodLink RX4 121 yX4_start, Cond.instanceMethod yX4_start, Cond.selects RX4 yX4_start yX4_start, Cond.code yX4_start cX4_start 2 (some .int)]
def wsX4_begin : List Cond := .code yX4_begin cX4_begin 1 (some .int) :: ((wsX4_begin_r1 ++ wsX4_begin_r2) ++ wsX40)
def wsX4_madePlace_r1 : List Cond := [Cond.methodLink RX4 37 yX4_of, Cond.instanceMethod yX4_of, Cond.selects RX4 yX4_of yX4_of, Cond.initialized RX4, Cond.code yX4_of cX4_of 3 (some .int), Cond.fieldLink RX4 7 "GenerationNamesModel" "z" "[I", Cond.methodLink RX4 79 yX4_runs, Cond.instanceMethod yX4_runs, Cond.selects RX4 yX4_runs yX4_runs, Cond.code yX4_runs cX4_runs 1 (some .boolean), Cond.methodLink RX4 89 yX4_placeOf, Cond.instanceMethod yX4_placeOf, Cond.selects RX4 yX4_placeOf yX4_placeOf, Cond.code yX4_placeOf cX4_placeOf 5 (some .int), Cond.methodLink RX4 60 yX4_many, Cond.instanceMethod yX4_many, Cond.selects RX4 yX4_many yX4_many, Cond.code yX4_many cX4_many 2 (some .int), Cond.methodLink RX4 45 yX4_gen, Cond.instanceMethod yX4_gen, Cond.selects RX4 yX4_gen yX4_gen, Cond.code yX4_gen cX4_gen 4 (some .int), Cond.methodLink RX4 64 yX4_isHole, Cond.instanceMethod yX4_isHole]
def wsX4_madePlace_r2 : List Cond := [Cond.selects RX4 yX4_isHole yX4_isHole, Cond.code yX4_isHole cX4_isHole 3 (some .boolean)]
def wsX4_madePlace : List Cond := .code yX4_madePlace cX4_madePlace 3 (some .int) :: ((wsX4_madePlace_r1 ++ wsX4_madePlace_r2) ++ wsX40)
def wsX4_madeMany_r1 : List Cond := [Cond.methodLink RX4 127 yX4_madePlace, Cond.instanceMethod yX4_madePlace, Cond.selects RX4 yX4_madePlace yX4_madePlace, Cond.initialized RX4, Cond.code yX4_madePlace cX4_madePlace 3 (some .int), Cond.methodLink RX4 37 yX4_of, Cond.instanceMethod yX4_of, Cond.selects RX4 yX4_of yX4_of, Cond.code yX4_of cX4_of 3 (some .int), Cond.fieldLink RX4 7 "GenerationNamesModel" "z" "[I", Cond.methodLink RX4 79 yX4_runs, Cond.instanceMethod yX4_runs, Cond.selects RX4 yX4_runs yX4_runs, Cond.code yX4_runs cX4_runs 1 (some .boolean), Cond.methodLink RX4 89 yX4_placeOf, Cond.instanceMethod yX4_placeOf, Cond.selects RX4 yX4_placeOf yX4_placeOf, Cond.code yX4_placeOf cX4_placeOf 5 (some .int), Cond.methodLink RX4 60 yX4_many, Cond.instanceMethod yX4_many, Cond.selects RX4 yX4_many yX4_many, Cond.code yX4_many cX4_many 2 (some .int), Cond.methodLink RX4 45 yX4_gen, Cond.instanceMethod yX4_gen]
def wsX4_madeMany_r2 : List Cond := [Cond.selects RX4 yX4_gen yX4_gen, Cond.code yX4_gen cX4_gen 4 (some .int), Cond.methodLink RX4 64 yX4_isHole, Cond.instanceMethod yX4_isHole, Cond.selects RX4 yX4_isHole yX4_isHole, Cond.code yX4_isHole cX4_isHole 3 (some .boolean)]
def wsX4_madeMany : List Cond := .code yX4_madeMany cX4_madeMany 3 (some .int) :: ((wsX4_madeMany_r1 ++ wsX4_madeMany_r2) ++ wsX40)
def wsX4_endIt_r1 : List Cond := [Cond.fieldLink RX4 7 "GenerationNamesModel" "z" "[I", Cond.methodLink RX4 127 yX4_madePlace, Cond.instanceMethod yX4_madePlace, Cond.selects RX4 yX4_madePlace yX4_madePlace, Cond.initialized RX4, Cond.code yX4_madePlace cX4_madePlace 3 (some .int), Cond.methodLink RX4 37 yX4_of, Cond.instanceMethod yX4_of, Cond.selects RX4 yX4_of yX4_of, Cond.code yX4_of cX4_of 3 (some .int), Cond.methodLink RX4 79 yX4_runs, Cond.instanceMethod yX4_runs, Cond.selects RX4 yX4_runs yX4_runs, Cond.code yX4_runs cX4_runs 1 (some .boolean), Cond.methodLink RX4 89 yX4_placeOf, Cond.instanceMethod yX4_placeOf, Cond.selects RX4 yX4_placeOf yX4_placeOf, Cond.code yX4_placeOf cX4_placeOf 5 (some .int), Cond.methodLink RX4 60 yX4_many, Cond.instanceMethod yX4_many, Cond.selects RX4 yX4_many yX4_many, Cond.code yX4_many cX4_many 2 (some .int), Cond.methodLink RX4 45 yX4_gen, Cond.instanceMethod yX4_gen]
def wsX4_endIt_r2 : List Cond := [Cond.selects RX4 yX4_gen yX4_gen, Cond.code yX4_gen cX4_gen 4 (some .int), Cond.methodLink RX4 64 yX4_isHole, Cond.instanceMethod yX4_isHole, Cond.selects RX4 yX4_isHole yX4_isHole, Cond.code yX4_isHole cX4_isHole 3 (some .boolean), Cond.methodLink RX4 114 yX4_deleteAt, Cond.instanceMethod yX4_deleteAt, Cond.selects RX4 yX4_deleteAt yX4_deleteAt, Cond.code yX4_deleteAt cX4_deleteAt 3 none, Cond.methodLink RX4 72 yX4_layGen, Cond.instanceMethod yX4_layGen, Cond.selects RX4 yX4_layGen yX4_layGen, Cond.code yX4_layGen cX4_layGen 5 none, Cond.methodLink RX4 41 yX4_lay, Cond.instanceMethod yX4_lay, Cond.selects RX4 yX4_lay yX4_lay, Cond.code yX4_lay cX4_lay 4 none, Cond.methodLink RX4 68 yX4_trim, Cond.instanceMethod yX4_trim, Cond.selects RX4 yX4_trim yX4_trim, Cond.code yX4_trim cX4_trim 2 none, Cond.methodLink RX4 130 yX4_madeMany, Cond.instanceMethod yX4_madeMany]
def wsX4_endIt_r3 : List Cond := [Cond.selects RX4 yX4_madeMany yX4_madeMany, Cond.code yX4_madeMany cX4_madeMany 3 (some .int)]
def wsX4_endIt : List Cond := .code yX4_endIt cX4_endIt 3 (some .int) :: ((wsX4_endIt_r1 ++ (wsX4_endIt_r2 ++ wsX4_endIt_r3)) ++ wsX40)
def wsX4_end_r1 : List Cond := [Cond.methodLink RX4 33 yX4_in, Cond.static yX4_in, Cond.initialized RX4, Cond.code yX4_in cX4_in 3 (some .boolean), Cond.methodLink RX4 79 yX4_runs, Cond.instanceMethod yX4_runs, Cond.selects RX4 yX4_runs yX4_runs, Cond.code yX4_runs cX4_runs 1 (some .boolean), Cond.fieldLink RX4 7 "GenerationNamesModel" "z" "[I", Cond.methodLink RX4 57 yX4_record, Cond.instanceMethod yX4_record, Cond.selects RX4 yX4_record yX4_record, Cond.code yX4_record cX4_record 2 none, Cond.fieldLink RX4 49 "GenerationNamesModel" "pastMany" "I", Cond.fieldLink RX4 13 "GenerationNamesModel" "past" "[I", Cond.methodLink RX4 133 yX4_endIt, Cond.instanceMethod yX4_endIt, Cond.selects RX4 yX4_endIt yX4_endIt, Cond.code yX4_endIt cX4_endIt 3 (some .int), Cond.methodLink RX4 127 yX4_madePlace, Cond.instanceMethod yX4_madePlace, Cond.selects RX4 yX4_madePlace yX4_madePlace, Cond.code yX4_madePlace cX4_madePlace 3 (some .int), Cond.methodLink RX4 37 yX4_of]
def wsX4_end_r2 : List Cond := [Cond.instanceMethod yX4_of, Cond.selects RX4 yX4_of yX4_of, Cond.code yX4_of cX4_of 3 (some .int), Cond.methodLink RX4 89 yX4_placeOf, Cond.instanceMethod yX4_placeOf, Cond.selects RX4 yX4_placeOf yX4_placeOf, Cond.code yX4_placeOf cX4_placeOf 5 (some .int), Cond.methodLink RX4 60 yX4_many, Cond.instanceMethod yX4_many, Cond.selects RX4 yX4_many yX4_many, Cond.code yX4_many cX4_many 2 (some .int), Cond.methodLink RX4 45 yX4_gen, Cond.instanceMethod yX4_gen, Cond.selects RX4 yX4_gen yX4_gen, Cond.code yX4_gen cX4_gen 4 (some .int), Cond.methodLink RX4 64 yX4_isHole, Cond.instanceMethod yX4_isHole, Cond.selects RX4 yX4_isHole yX4_isHole, Cond.code yX4_isHole cX4_isHole 3 (some .boolean), Cond.methodLink RX4 114 yX4_deleteAt, Cond.instanceMethod yX4_deleteAt, Cond.selects RX4 yX4_deleteAt yX4_deleteAt, Cond.code yX4_deleteAt cX4_deleteAt 3 none, Cond.methodLink RX4 72 yX4_layGen]
def wsX4_end_r3 : List Cond := [Cond.instanceMethod yX4_layGen, Cond.selects RX4 yX4_layGen yX4_layGen, Cond.code yX4_layGen cX4_layGen 5 none, Cond.methodLink RX4 41 yX4_lay, Cond.instanceMethod yX4_lay, Cond.selects RX4 yX4_lay yX4_lay, Cond.code yX4_lay cX4_lay 4 none, Cond.methodLink RX4 68 yX4_trim, Cond.instanceMethod yX4_trim, Cond.selects RX4 yX4_trim yX4_trim, Cond.code yX4_trim cX4_trim 2 none, Cond.methodLink RX4 130 yX4_madeMany, Cond.instanceMethod yX4_madeMany, Cond.selects RX4 yX4_madeMany yX4_madeMany, Cond.code yX4_madeMany cX4_madeMany 3 (some .int)]
def wsX4_end : List Cond := .code yX4_end cX4_end 2 (some .int) :: ((wsX4_end_r1 ++ (wsX4_end_r2 ++ wsX4_end_r3)) ++ wsX40)
def wsX4_canAgain : List Cond := .code yX4_canAgain cX4_canAgain 1 (some .boolean) :: ([.fieldLink RX4 7 "GenerationNamesModel" "z" "[I", .methodLink RX4 79 yX4_runs, .instanceMethod yX4_runs, .selects RX4 yX4_runs yX4_runs, .initialized RX4, .code yX4_runs cX4_runs 1 (some .boolean)] ++ wsX40)
def wsX4_again : List Cond := .code yX4_again cX4_again 1 (some .int) :: ([.methodLink RX4 136 yX4_canAgain, .instanceMethod yX4_canAgain, .selects RX4 yX4_canAgain yX4_canAgain, .initialized RX4, .code yX4_canAgain cX4_canAgain 1 (some .boolean), .fieldLink RX4 7 "GenerationNamesModel" "z" "[I", .methodLink RX4 79 yX4_runs, .instanceMethod yX4_runs, .selects RX4 yX4_runs yX4_runs, .code yX4_runs cX4_runs 1 (some .boolean), .methodLink RX4 57 yX4_record, .instanceMethod yX4_record, .selects RX4 yX4_record yX4_record, .code yX4_record cX4_record 2 none, .fieldLink RX4 49 "GenerationNamesModel" "pastMany" "I", .fieldLink RX4 13 "GenerationNamesModel" "past" "[I", .methodLink RX4 121 yX4_start, .instanceMethod yX4_start, .selects RX4 yX4_start yX4_start, .code yX4_start cX4_start 2 (some .int), .methodLink RX4 41 yX4_lay, .instanceMethod yX4_lay, .selects RX4 yX4_lay yX4_lay, .code yX4_lay cX4_lay 4 none] ++ wsX40)
def wsX4_allData : List Cond := .code yX4_allData cX4_allData 4 (some .int) :: ([.methodLink RX4 60 yX4_many, .instanceMethod yX4_many, .selects RX4 yX4_many yX4_many, .initialized RX4, .code yX4_many cX4_many 2 (some .int), .methodLink RX4 37 yX4_of, .instanceMethod yX4_of, .selects RX4 yX4_of yX4_of, .code yX4_of cX4_of 3 (some .int), .fieldLink RX4 7 "GenerationNamesModel" "z" "[I", .methodLink RX4 64 yX4_isHole, .instanceMethod yX4_isHole, .selects RX4 yX4_isHole yX4_isHole, .code yX4_isHole cX4_isHole 3 (some .boolean), .methodLink RX4 45 yX4_gen, .instanceMethod yX4_gen, .selects RX4 yX4_gen yX4_gen, .code yX4_gen cX4_gen 4 (some .int)] ++ wsX40)
def wsX4_ofGroup_r1 : List Cond := [Cond.methodLink RX4 92 yX4_isGroup, Cond.static yX4_isGroup, Cond.initialized RX4, Cond.code yX4_isGroup cX4_isGroup 1 (some .boolean), Cond.methodLink RX4 33 yX4_in, Cond.static yX4_in, Cond.code yX4_in cX4_in 3 (some .boolean), Cond.methodLink RX4 37 yX4_of, Cond.instanceMethod yX4_of, Cond.selects RX4 yX4_of yX4_of, Cond.code yX4_of cX4_of 3 (some .int), Cond.fieldLink RX4 7 "GenerationNamesModel" "z" "[I", Cond.methodLink RX4 139 yX4_holes, Cond.instanceMethod yX4_holes, Cond.selects RX4 yX4_holes yX4_holes, Cond.code yX4_holes cX4_holes 4 (some .int), Cond.methodLink RX4 60 yX4_many, Cond.instanceMethod yX4_many, Cond.selects RX4 yX4_many yX4_many, Cond.code yX4_many cX4_many 2 (some .int), Cond.methodLink RX4 64 yX4_isHole, Cond.instanceMethod yX4_isHole, Cond.selects RX4 yX4_isHole yX4_isHole, Cond.code yX4_isHole cX4_isHole 3 (some .boolean)]
def wsX4_ofGroup_r2 : List Cond := [Cond.methodLink RX4 45 yX4_gen, Cond.instanceMethod yX4_gen, Cond.selects RX4 yX4_gen yX4_gen, Cond.code yX4_gen cX4_gen 4 (some .int), Cond.methodLink RX4 142 yX4_allData, Cond.instanceMethod yX4_allData, Cond.selects RX4 yX4_allData yX4_allData, Cond.code yX4_allData cX4_allData 4 (some .int)]
def wsX4_ofGroup : List Cond := .code yX4_ofGroup cX4_ofGroup 3 (some .int) :: ((wsX4_ofGroup_r1 ++ wsX4_ofGroup_r2) ++ wsX40)
def wsX4_nameOf_r1 : List Cond := [Cond.methodLink RX4 79 yX4_runs, Cond.instanceMethod yX4_runs, Cond.selects RX4 yX4_runs yX4_runs, Cond.initialized RX4, Cond.code yX4_runs cX4_runs 1 (some .boolean), Cond.fieldLink RX4 7 "GenerationNamesModel" "z" "[I", Cond.methodLink RX4 96 yX4_told, Cond.instanceMethod yX4_told, Cond.selects RX4 yX4_told yX4_told, Cond.code yX4_told cX4_told 4 (some .int), Cond.methodLink RX4 86 yX4_markOf, Cond.instanceMethod yX4_markOf, Cond.selects RX4 yX4_markOf yX4_markOf, Cond.code yX4_markOf cX4_markOf 3 (some .int), Cond.methodLink RX4 37 yX4_of, Cond.instanceMethod yX4_of, Cond.selects RX4 yX4_of yX4_of, Cond.code yX4_of cX4_of 3 (some .int), Cond.methodLink RX4 89 yX4_placeOf, Cond.instanceMethod yX4_placeOf, Cond.selects RX4 yX4_placeOf yX4_placeOf, Cond.code yX4_placeOf cX4_placeOf 5 (some .int), Cond.methodLink RX4 60 yX4_many, Cond.instanceMethod yX4_many]
def wsX4_nameOf_r2 : List Cond := [Cond.selects RX4 yX4_many yX4_many, Cond.code yX4_many cX4_many 2 (some .int), Cond.methodLink RX4 45 yX4_gen, Cond.instanceMethod yX4_gen, Cond.selects RX4 yX4_gen yX4_gen, Cond.code yX4_gen cX4_gen 4 (some .int), Cond.methodLink RX4 64 yX4_isHole, Cond.instanceMethod yX4_isHole, Cond.selects RX4 yX4_isHole yX4_isHole, Cond.code yX4_isHole cX4_isHole 3 (some .boolean)]
def wsX4_nameOf : List Cond := .code yX4_nameOf cX4_nameOf 5 (some .int) :: ((wsX4_nameOf_r1 ++ wsX4_nameOf_r2) ++ wsX40)
def wsX4_generation_r1 : List Cond := [Cond.methodLink RX4 92 yX4_isGroup, Cond.static yX4_isGroup, Cond.initialized RX4, Cond.code yX4_isGroup cX4_isGroup 1 (some .boolean), Cond.methodLink RX4 33 yX4_in, Cond.static yX4_in, Cond.code yX4_in cX4_in 3 (some .boolean), Cond.methodLink RX4 60 yX4_many, Cond.instanceMethod yX4_many, Cond.selects RX4 yX4_many yX4_many, Cond.code yX4_many cX4_many 2 (some .int), Cond.methodLink RX4 37 yX4_of, Cond.instanceMethod yX4_of, Cond.selects RX4 yX4_of yX4_of, Cond.code yX4_of cX4_of 3 (some .int), Cond.fieldLink RX4 7 "GenerationNamesModel" "z" "[I", Cond.methodLink RX4 45 yX4_gen, Cond.instanceMethod yX4_gen, Cond.selects RX4 yX4_gen yX4_gen, Cond.code yX4_gen cX4_gen 4 (some .int), Cond.methodLink RX4 64 yX4_isHole, Cond.instanceMethod yX4_isHole, Cond.selects RX4 yX4_isHole yX4_isHole, Cond.code yX4_isHole cX4_isHole 3 (some .boolean)]
def wsX4_generation_r2 : List Cond := [Cond.methodLink RX4 145 yX4_nameOf, Cond.instanceMethod yX4_nameOf, Cond.selects RX4 yX4_nameOf yX4_nameOf, Cond.code yX4_nameOf cX4_nameOf 5 (some .int), Cond.methodLink RX4 79 yX4_runs, Cond.instanceMethod yX4_runs, Cond.selects RX4 yX4_runs yX4_runs, Cond.code yX4_runs cX4_runs 1 (some .boolean), Cond.methodLink RX4 96 yX4_told, Cond.instanceMethod yX4_told, Cond.selects RX4 yX4_told yX4_told, Cond.code yX4_told cX4_told 4 (some .int), Cond.methodLink RX4 86 yX4_markOf, Cond.instanceMethod yX4_markOf, Cond.selects RX4 yX4_markOf yX4_markOf, Cond.code yX4_markOf cX4_markOf 3 (some .int), Cond.methodLink RX4 89 yX4_placeOf, Cond.instanceMethod yX4_placeOf, Cond.selects RX4 yX4_placeOf yX4_placeOf, Cond.code yX4_placeOf cX4_placeOf 5 (some .int)]
def wsX4_generation : List Cond := .code yX4_generation cX4_generation 4 (some .int) :: ((wsX4_generation_r1 ++ wsX4_generation_r2) ++ wsX40)
def wsX4_named_r1 : List Cond := [Cond.methodLink RX4 92 yX4_isGroup, Cond.static yX4_isGroup, Cond.initialized RX4, Cond.code yX4_isGroup cX4_isGroup 1 (some .boolean), Cond.methodLink RX4 33 yX4_in, Cond.static yX4_in, Cond.code yX4_in cX4_in 3 (some .boolean), Cond.methodLink RX4 102 yX4_isName, Cond.static yX4_isName, Cond.code yX4_isName cX4_isName 1 (some .boolean), Cond.methodLink RX4 96 yX4_told, Cond.instanceMethod yX4_told, Cond.selects RX4 yX4_told yX4_told, Cond.code yX4_told cX4_told 4 (some .int), Cond.methodLink RX4 79 yX4_runs, Cond.instanceMethod yX4_runs, Cond.selects RX4 yX4_runs yX4_runs, Cond.code yX4_runs cX4_runs 1 (some .boolean), Cond.fieldLink RX4 7 "GenerationNamesModel" "z" "[I", Cond.methodLink RX4 86 yX4_markOf, Cond.instanceMethod yX4_markOf, Cond.selects RX4 yX4_markOf yX4_markOf, Cond.code yX4_markOf cX4_markOf 3 (some .int), Cond.methodLink RX4 37 yX4_of]
def wsX4_named_r2 : List Cond := [Cond.instanceMethod yX4_of, Cond.selects RX4 yX4_of yX4_of, Cond.code yX4_of cX4_of 3 (some .int), Cond.methodLink RX4 89 yX4_placeOf, Cond.instanceMethod yX4_placeOf, Cond.selects RX4 yX4_placeOf yX4_placeOf, Cond.code yX4_placeOf cX4_placeOf 5 (some .int), Cond.methodLink RX4 60 yX4_many, Cond.instanceMethod yX4_many, Cond.selects RX4 yX4_many yX4_many, Cond.code yX4_many cX4_many 2 (some .int), Cond.methodLink RX4 45 yX4_gen, Cond.instanceMethod yX4_gen, Cond.selects RX4 yX4_gen yX4_gen, Cond.code yX4_gen cX4_gen 4 (some .int), Cond.methodLink RX4 64 yX4_isHole, Cond.instanceMethod yX4_isHole, Cond.selects RX4 yX4_isHole yX4_isHole, Cond.code yX4_isHole cX4_isHole 3 (some .boolean)]
def wsX4_named : List Cond := .code yX4_named cX4_named 4 (some .int) :: ((wsX4_named_r1 ++ wsX4_named_r2) ++ wsX40)
def wsX4_count_r1 : List Cond := [Cond.fieldLink RX4 7 "GenerationNamesModel" "z" "[I", Cond.fieldLink RX4 151 "GenerationNamesModel" "typed" "I", Cond.fieldLink RX4 49 "GenerationNamesModel" "pastMany" "I", Cond.methodLink RX4 53 yX4_wholes, Cond.instanceMethod yX4_wholes, Cond.selects RX4 yX4_wholes yX4_wholes, Cond.initialized RX4, Cond.code yX4_wholes cX4_wholes 3 (some .int), Cond.methodLink RX4 60 yX4_many, Cond.instanceMethod yX4_many, Cond.selects RX4 yX4_many yX4_many, Cond.code yX4_many cX4_many 2 (some .int), Cond.methodLink RX4 37 yX4_of, Cond.instanceMethod yX4_of, Cond.selects RX4 yX4_of yX4_of, Cond.code yX4_of cX4_of 3 (some .int), Cond.methodLink RX4 148 yX4_allHoles, Cond.instanceMethod yX4_allHoles, Cond.selects RX4 yX4_allHoles yX4_allHoles, Cond.code yX4_allHoles cX4_allHoles 3 (some .int), Cond.methodLink RX4 139 yX4_holes, Cond.instanceMethod yX4_holes, Cond.selects RX4 yX4_holes yX4_holes, Cond.code yX4_holes cX4_holes 4 (some .int)]
def wsX4_count_r2 : List Cond := [Cond.methodLink RX4 64 yX4_isHole, Cond.instanceMethod yX4_isHole, Cond.selects RX4 yX4_isHole yX4_isHole, Cond.code yX4_isHole cX4_isHole 3 (some .boolean), Cond.methodLink RX4 45 yX4_gen, Cond.instanceMethod yX4_gen, Cond.selects RX4 yX4_gen yX4_gen, Cond.code yX4_gen cX4_gen 4 (some .int), Cond.methodLink RX4 130 yX4_madeMany, Cond.instanceMethod yX4_madeMany, Cond.selects RX4 yX4_madeMany yX4_madeMany, Cond.code yX4_madeMany cX4_madeMany 3 (some .int), Cond.methodLink RX4 127 yX4_madePlace, Cond.instanceMethod yX4_madePlace, Cond.selects RX4 yX4_madePlace yX4_madePlace, Cond.code yX4_madePlace cX4_madePlace 3 (some .int), Cond.methodLink RX4 79 yX4_runs, Cond.instanceMethod yX4_runs, Cond.selects RX4 yX4_runs yX4_runs, Cond.code yX4_runs cX4_runs 1 (some .boolean), Cond.methodLink RX4 89 yX4_placeOf, Cond.instanceMethod yX4_placeOf, Cond.selects RX4 yX4_placeOf yX4_placeOf, Cond.code yX4_placeOf cX4_placeOf 5 (some .int)]
def wsX4_count : List Cond := .code yX4_count cX4_count 2 (some .int) :: ((wsX4_count_r1 ++ wsX4_count_r2) ++ wsX40)
def wsX4_isNewestMade : List Cond := .code yX4_isNewestMade cX4_isNewestMade 2 (some .boolean) :: ([.methodLink RX4 79 yX4_runs, .instanceMethod yX4_runs, .selects RX4 yX4_runs yX4_runs, .initialized RX4, .code yX4_runs cX4_runs 1 (some .boolean), .fieldLink RX4 7 "GenerationNamesModel" "z" "[I", .methodLink RX4 37 yX4_of, .instanceMethod yX4_of, .selects RX4 yX4_of yX4_of, .code yX4_of cX4_of 3 (some .int), .methodLink RX4 89 yX4_placeOf, .instanceMethod yX4_placeOf, .selects RX4 yX4_placeOf yX4_placeOf, .code yX4_placeOf cX4_placeOf 5 (some .int), .methodLink RX4 60 yX4_many, .instanceMethod yX4_many, .selects RX4 yX4_many yX4_many, .code yX4_many cX4_many 2 (some .int), .methodLink RX4 45 yX4_gen, .instanceMethod yX4_gen, .selects RX4 yX4_gen yX4_gen, .code yX4_gen cX4_gen 4 (some .int)] ++ wsX40)
def wsX4_groups_r1 : List Cond := [Cond.methodLink RX4 33 yX4_in, Cond.static yX4_in, Cond.initialized RX4, Cond.code yX4_in cX4_in 3 (some .boolean), Cond.methodLink RX4 139 yX4_holes, Cond.instanceMethod yX4_holes, Cond.selects RX4 yX4_holes yX4_holes, Cond.code yX4_holes cX4_holes 4 (some .int), Cond.methodLink RX4 60 yX4_many, Cond.instanceMethod yX4_many, Cond.selects RX4 yX4_many yX4_many, Cond.code yX4_many cX4_many 2 (some .int), Cond.methodLink RX4 37 yX4_of, Cond.instanceMethod yX4_of, Cond.selects RX4 yX4_of yX4_of, Cond.code yX4_of cX4_of 3 (some .int), Cond.fieldLink RX4 7 "GenerationNamesModel" "z" "[I", Cond.methodLink RX4 64 yX4_isHole, Cond.instanceMethod yX4_isHole, Cond.selects RX4 yX4_isHole yX4_isHole, Cond.code yX4_isHole cX4_isHole 3 (some .boolean), Cond.methodLink RX4 45 yX4_gen, Cond.instanceMethod yX4_gen, Cond.selects RX4 yX4_gen yX4_gen]
def wsX4_groups_r2 : List Cond := [Cond.code yX4_gen cX4_gen 4 (some .int), Cond.methodLink RX4 154 yX4_isNewestMade, Cond.instanceMethod yX4_isNewestMade, Cond.selects RX4 yX4_isNewestMade yX4_isNewestMade, Cond.code yX4_isNewestMade cX4_isNewestMade 2 (some .boolean), Cond.methodLink RX4 79 yX4_runs, Cond.instanceMethod yX4_runs, Cond.selects RX4 yX4_runs yX4_runs, Cond.code yX4_runs cX4_runs 1 (some .boolean), Cond.methodLink RX4 89 yX4_placeOf, Cond.instanceMethod yX4_placeOf, Cond.selects RX4 yX4_placeOf yX4_placeOf, Cond.code yX4_placeOf cX4_placeOf 5 (some .int), Cond.methodLink RX4 96 yX4_told, Cond.instanceMethod yX4_told, Cond.selects RX4 yX4_told yX4_told, Cond.code yX4_told cX4_told 4 (some .int), Cond.methodLink RX4 86 yX4_markOf, Cond.instanceMethod yX4_markOf, Cond.selects RX4 yX4_markOf yX4_markOf, Cond.code yX4_markOf cX4_markOf 3 (some .int)]
def wsX4_groups : List Cond := .code yX4_groups cX4_groups 5 (some .int) :: ((wsX4_groups_r1 ++ wsX4_groups_r2) ++ wsX40)
def wsX4_rolls : List Cond := .code yX4_rolls cX4_rolls 2 (some .int) :: ([.methodLink RX4 92 yX4_isGroup, .static yX4_isGroup, .initialized RX4, .code yX4_isGroup cX4_isGroup 1 (some .boolean), .methodLink RX4 33 yX4_in, .static yX4_in, .code yX4_in cX4_in 3 (some .boolean), .methodLink RX4 60 yX4_many, .instanceMethod yX4_many, .selects RX4 yX4_many yX4_many, .code yX4_many cX4_many 2 (some .int), .methodLink RX4 37 yX4_of, .instanceMethod yX4_of, .selects RX4 yX4_of yX4_of, .code yX4_of cX4_of 3 (some .int), .fieldLink RX4 7 "GenerationNamesModel" "z" "[I", .methodLink RX4 45 yX4_gen, .instanceMethod yX4_gen, .selects RX4 yX4_gen yX4_gen, .code yX4_gen cX4_gen 4 (some .int)] ++ wsX40)
def wsX4_putAside : List Cond := .code yX4_putAside cX4_putAside 2 none :: ([.fieldLink RX4 23 "GenerationNamesModel" "spare" "[I", .fieldLink RX4 7 "GenerationNamesModel" "z" "[I"] ++ wsX40)
def wsX4_bringBack : List Cond := .code yX4_bringBack cX4_bringBack 2 none :: ([.fieldLink RX4 7 "GenerationNamesModel" "z" "[I", .fieldLink RX4 23 "GenerationNamesModel" "spare" "[I"] ++ wsX40)
def wsX4_ifFailed_r1 : List Cond := [Cond.methodLink RX4 92 yX4_isGroup, Cond.static yX4_isGroup, Cond.initialized RX4, Cond.code yX4_isGroup cX4_isGroup 1 (some .boolean), Cond.methodLink RX4 33 yX4_in, Cond.static yX4_in, Cond.code yX4_in cX4_in 3 (some .boolean), Cond.methodLink RX4 157 yX4_putAside, Cond.instanceMethod yX4_putAside, Cond.selects RX4 yX4_putAside yX4_putAside, Cond.code yX4_putAside cX4_putAside 2 none, Cond.fieldLink RX4 23 "GenerationNamesModel" "spare" "[I", Cond.fieldLink RX4 7 "GenerationNamesModel" "z" "[I", Cond.methodLink RX4 79 yX4_runs, Cond.instanceMethod yX4_runs, Cond.selects RX4 yX4_runs yX4_runs, Cond.code yX4_runs cX4_runs 1 (some .boolean), Cond.methodLink RX4 133 yX4_endIt, Cond.instanceMethod yX4_endIt, Cond.selects RX4 yX4_endIt yX4_endIt, Cond.code yX4_endIt cX4_endIt 3 (some .int), Cond.methodLink RX4 127 yX4_madePlace, Cond.instanceMethod yX4_madePlace, Cond.selects RX4 yX4_madePlace yX4_madePlace]
def wsX4_ifFailed_r2 : List Cond := [Cond.code yX4_madePlace cX4_madePlace 3 (some .int), Cond.methodLink RX4 37 yX4_of, Cond.instanceMethod yX4_of, Cond.selects RX4 yX4_of yX4_of, Cond.code yX4_of cX4_of 3 (some .int), Cond.methodLink RX4 89 yX4_placeOf, Cond.instanceMethod yX4_placeOf, Cond.selects RX4 yX4_placeOf yX4_placeOf, Cond.code yX4_placeOf cX4_placeOf 5 (some .int), Cond.methodLink RX4 60 yX4_many, Cond.instanceMethod yX4_many, Cond.selects RX4 yX4_many yX4_many, Cond.code yX4_many cX4_many 2 (some .int), Cond.methodLink RX4 45 yX4_gen, Cond.instanceMethod yX4_gen, Cond.selects RX4 yX4_gen yX4_gen, Cond.code yX4_gen cX4_gen 4 (some .int), Cond.methodLink RX4 64 yX4_isHole, Cond.instanceMethod yX4_isHole, Cond.selects RX4 yX4_isHole yX4_isHole, Cond.code yX4_isHole cX4_isHole 3 (some .boolean), Cond.methodLink RX4 114 yX4_deleteAt, Cond.instanceMethod yX4_deleteAt, Cond.selects RX4 yX4_deleteAt yX4_deleteAt]
def wsX4_ifFailed_r3 : List Cond := [Cond.code yX4_deleteAt cX4_deleteAt 3 none, Cond.methodLink RX4 72 yX4_layGen, Cond.instanceMethod yX4_layGen, Cond.selects RX4 yX4_layGen yX4_layGen, Cond.code yX4_layGen cX4_layGen 5 none, Cond.methodLink RX4 41 yX4_lay, Cond.instanceMethod yX4_lay, Cond.selects RX4 yX4_lay yX4_lay, Cond.code yX4_lay cX4_lay 4 none, Cond.methodLink RX4 68 yX4_trim, Cond.instanceMethod yX4_trim, Cond.selects RX4 yX4_trim yX4_trim, Cond.code yX4_trim cX4_trim 2 none, Cond.methodLink RX4 130 yX4_madeMany, Cond.instanceMethod yX4_madeMany, Cond.selects RX4 yX4_madeMany yX4_madeMany, Cond.code yX4_madeMany cX4_madeMany 3 (some .int), Cond.methodLink RX4 96 yX4_told, Cond.instanceMethod yX4_told, Cond.selects RX4 yX4_told yX4_told, Cond.code yX4_told cX4_told 4 (some .int), Cond.methodLink RX4 86 yX4_markOf, Cond.instanceMethod yX4_markOf, Cond.selects RX4 yX4_markOf yX4_markOf]
def wsX4_ifFailed_r4 : List Cond := [Cond.code yX4_markOf cX4_markOf 3 (some .int), Cond.methodLink RX4 160 yX4_bringBack, Cond.instanceMethod yX4_bringBack, Cond.selects RX4 yX4_bringBack yX4_bringBack, Cond.code yX4_bringBack cX4_bringBack 2 none]
def wsX4_ifFailed : List Cond := .code yX4_ifFailed cX4_ifFailed 4 (some .int) :: ((wsX4_ifFailed_r1 ++ (wsX4_ifFailed_r2 ++ (wsX4_ifFailed_r3 ++ wsX4_ifFailed_r4))) ++ wsX40)
def wsX4_leastKeep : List Cond := .code yX4_leastKeep cX4_leastKeep 2 (some .int) :: ([.methodLink RX4 92 yX4_isGroup, .static yX4_isGroup, .initialized RX4, .code yX4_isGroup cX4_isGroup 1 (some .boolean), .methodLink RX4 33 yX4_in, .static yX4_in, .code yX4_in cX4_in 3 (some .boolean), .methodLink RX4 60 yX4_many, .instanceMethod yX4_many, .selects RX4 yX4_many yX4_many, .code yX4_many cX4_many 2 (some .int), .methodLink RX4 37 yX4_of, .instanceMethod yX4_of, .selects RX4 yX4_of yX4_of, .code yX4_of cX4_of 3 (some .int), .fieldLink RX4 7 "GenerationNamesModel" "z" "[I"] ++ wsX40)
def wsX4_put : List Cond := .code yX4_put cX4_put 8 (some .int) :: ([.constantLong RX4 163 (255), .fieldLink RX4 151 "GenerationNamesModel" "typed" "I", .fieldLink RX4 26 "GenerationNamesModel" "pad" "[C", .methodLink RX4 33 yX4_in, .static yX4_in, .initialized RX4, .code yX4_in cX4_in 3 (some .boolean)] ++ wsX40)
def wsX4_wipe : List Cond := .code yX4_wipe cX4_wipe 2 (some .int) :: ([.fieldLink RX4 151 "GenerationNamesModel" "typed" "I"] ++ wsX40)
def wsX4_letter : List Cond := .code yX4_letter cX4_letter 1 (some .int) :: ([.fieldLink RX4 165 "GenerationNamesModel" "spot" "I", .fieldLink RX4 151 "GenerationNamesModel" "typed" "I", .fieldLink RX4 26 "GenerationNamesModel" "pad" "[C"] ++ wsX40)
def wsX4_wants : List Cond := .code yX4_wants cX4_wants 2 none :: ([.fieldLink RX4 168 "GenerationNamesModel" "wrong" "I", .fieldLink RX4 165 "GenerationNamesModel" "spot" "I"] ++ wsX40)
def wsX4_digit : List Cond := .code yX4_digit cX4_digit 4 (some .int) :: ([.methodLink RX4 171 yX4_letter, .instanceMethod yX4_letter, .selects RX4 yX4_letter yX4_letter, .initialized RX4, .code yX4_letter cX4_letter 1 (some .int), .fieldLink RX4 165 "GenerationNamesModel" "spot" "I", .fieldLink RX4 151 "GenerationNamesModel" "typed" "I", .fieldLink RX4 26 "GenerationNamesModel" "pad" "[C", .methodLink RX4 33 yX4_in, .static yX4_in, .code yX4_in cX4_in 3 (some .boolean), .methodLink RX4 174 yX4_wants, .instanceMethod yX4_wants, .selects RX4 yX4_wants yX4_wants, .code yX4_wants cX4_wants 2 none, .fieldLink RX4 168 "GenerationNamesModel" "wrong" "I"] ++ wsX40)
def wsX4_number : List Cond := .code yX4_number cX4_number 3 (some .int) :: ([.fieldLink RX4 168 "GenerationNamesModel" "wrong" "I", .fieldLink RX4 165 "GenerationNamesModel" "spot" "I", .methodLink RX4 178 yX4_digit, .instanceMethod yX4_digit, .selects RX4 yX4_digit yX4_digit, .initialized RX4, .code yX4_digit cX4_digit 4 (some .int), .methodLink RX4 171 yX4_letter, .instanceMethod yX4_letter, .selects RX4 yX4_letter yX4_letter, .code yX4_letter cX4_letter 1 (some .int), .fieldLink RX4 151 "GenerationNamesModel" "typed" "I", .fieldLink RX4 26 "GenerationNamesModel" "pad" "[C", .methodLink RX4 33 yX4_in, .static yX4_in, .code yX4_in cX4_in 3 (some .boolean), .methodLink RX4 174 yX4_wants, .instanceMethod yX4_wants, .selects RX4 yX4_wants yX4_wants, .code yX4_wants cX4_wants 2 none] ++ wsX40)
def wsX4_name : List Cond := .code yX4_name cX4_name 2 (some .int) :: ([.methodLink RX4 171 yX4_letter, .instanceMethod yX4_letter, .selects RX4 yX4_letter yX4_letter, .initialized RX4, .code yX4_letter cX4_letter 1 (some .int), .fieldLink RX4 165 "GenerationNamesModel" "spot" "I", .fieldLink RX4 151 "GenerationNamesModel" "typed" "I", .fieldLink RX4 26 "GenerationNamesModel" "pad" "[C", .methodLink RX4 174 yX4_wants, .instanceMethod yX4_wants, .selects RX4 yX4_wants yX4_wants, .code yX4_wants cX4_wants 2 none, .fieldLink RX4 168 "GenerationNamesModel" "wrong" "I", .methodLink RX4 178 yX4_digit, .instanceMethod yX4_digit, .selects RX4 yX4_digit yX4_digit, .code yX4_digit cX4_digit 4 (some .int), .methodLink RX4 33 yX4_in, .static yX4_in, .code yX4_in cX4_in 3 (some .boolean)] ++ wsX40)
def wsX4_readOrder_r1 : List Cond := [Cond.fieldLink RX4 181 "GenerationNamesModel" "orderMany" "I", Cond.fieldLink RX4 30 "GenerationNamesModel" "orders" "[I", Cond.methodLink RX4 171 yX4_letter, Cond.instanceMethod yX4_letter, Cond.selects RX4 yX4_letter yX4_letter, Cond.initialized RX4, Cond.code yX4_letter cX4_letter 1 (some .int), Cond.fieldLink RX4 165 "GenerationNamesModel" "spot" "I", Cond.fieldLink RX4 151 "GenerationNamesModel" "typed" "I", Cond.fieldLink RX4 26 "GenerationNamesModel" "pad" "[C", Cond.methodLink RX4 174 yX4_wants, Cond.instanceMethod yX4_wants, Cond.selects RX4 yX4_wants yX4_wants, Cond.code yX4_wants cX4_wants 2 none, Cond.fieldLink RX4 168 "GenerationNamesModel" "wrong" "I", Cond.methodLink RX4 178 yX4_digit, Cond.instanceMethod yX4_digit, Cond.selects RX4 yX4_digit yX4_digit, Cond.code yX4_digit cX4_digit 4 (some .int), Cond.methodLink RX4 33 yX4_in, Cond.static yX4_in, Cond.code yX4_in cX4_in 3 (some .boolean), Cond.methodLink RX4 184 yX4_name, Cond.instanceMethod yX4_name]
def wsX4_readOrder_r2 : List Cond := [Cond.selects RX4 yX4_name yX4_name, Cond.code yX4_name cX4_name 2 (some .int), Cond.methodLink RX4 187 yX4_number, Cond.instanceMethod yX4_number, Cond.selects RX4 yX4_number yX4_number, Cond.code yX4_number cX4_number 3 (some .int)]
def wsX4_readOrder : List Cond := .code yX4_readOrder cX4_readOrder 4 none :: ((wsX4_readOrder_r1 ++ wsX4_readOrder_r2) ++ wsX40)
def wsX4_readPad_r1 : List Cond := [Cond.fieldLink RX4 181 "GenerationNamesModel" "orderMany" "I", Cond.fieldLink RX4 165 "GenerationNamesModel" "spot" "I", Cond.fieldLink RX4 168 "GenerationNamesModel" "wrong" "I", Cond.fieldLink RX4 151 "GenerationNamesModel" "typed" "I", Cond.methodLink RX4 190 yX4_readOrder, Cond.instanceMethod yX4_readOrder, Cond.selects RX4 yX4_readOrder yX4_readOrder, Cond.initialized RX4, Cond.code yX4_readOrder cX4_readOrder 4 none, Cond.fieldLink RX4 30 "GenerationNamesModel" "orders" "[I", Cond.methodLink RX4 171 yX4_letter, Cond.instanceMethod yX4_letter, Cond.selects RX4 yX4_letter yX4_letter, Cond.code yX4_letter cX4_letter 1 (some .int), Cond.fieldLink RX4 26 "GenerationNamesModel" "pad" "[C", Cond.methodLink RX4 174 yX4_wants, Cond.instanceMethod yX4_wants, Cond.selects RX4 yX4_wants yX4_wants, Cond.code yX4_wants cX4_wants 2 none, Cond.methodLink RX4 178 yX4_digit, Cond.instanceMethod yX4_digit, Cond.selects RX4 yX4_digit yX4_digit, Cond.code yX4_digit cX4_digit 4 (some .int), Cond.methodLink RX4 33 yX4_in]
def wsX4_readPad_r2 : List Cond := [Cond.static yX4_in, Cond.code yX4_in cX4_in 3 (some .boolean), Cond.methodLink RX4 184 yX4_name, Cond.instanceMethod yX4_name, Cond.selects RX4 yX4_name yX4_name, Cond.code yX4_name cX4_name 2 (some .int), Cond.methodLink RX4 187 yX4_number, Cond.instanceMethod yX4_number, Cond.selects RX4 yX4_number yX4_number, Cond.code yX4_number cX4_number 3 (some .int)]
def wsX4_readPad : List Cond := .code yX4_readPad cX4_readPad 2 (some .int) :: ((wsX4_readPad_r1 ++ wsX4_readPad_r2) ++ wsX40)
def wsX4_fault_r1 : List Cond := [Cond.methodLink RX4 193 yX4_readPad, Cond.instanceMethod yX4_readPad, Cond.selects RX4 yX4_readPad yX4_readPad, Cond.initialized RX4, Cond.code yX4_readPad cX4_readPad 2 (some .int), Cond.fieldLink RX4 181 "GenerationNamesModel" "orderMany" "I", Cond.fieldLink RX4 165 "GenerationNamesModel" "spot" "I", Cond.fieldLink RX4 168 "GenerationNamesModel" "wrong" "I", Cond.fieldLink RX4 151 "GenerationNamesModel" "typed" "I", Cond.methodLink RX4 190 yX4_readOrder, Cond.instanceMethod yX4_readOrder, Cond.selects RX4 yX4_readOrder yX4_readOrder, Cond.code yX4_readOrder cX4_readOrder 4 none, Cond.fieldLink RX4 30 "GenerationNamesModel" "orders" "[I", Cond.methodLink RX4 171 yX4_letter, Cond.instanceMethod yX4_letter, Cond.selects RX4 yX4_letter yX4_letter, Cond.code yX4_letter cX4_letter 1 (some .int), Cond.fieldLink RX4 26 "GenerationNamesModel" "pad" "[C", Cond.methodLink RX4 174 yX4_wants, Cond.instanceMethod yX4_wants, Cond.selects RX4 yX4_wants yX4_wants, Cond.code yX4_wants cX4_wants 2 none, Cond.methodLink RX4 178 yX4_digit]
def wsX4_fault_r2 : List Cond := [Cond.instanceMethod yX4_digit, Cond.selects RX4 yX4_digit yX4_digit, Cond.code yX4_digit cX4_digit 4 (some .int), Cond.methodLink RX4 33 yX4_in, Cond.static yX4_in, Cond.code yX4_in cX4_in 3 (some .boolean), Cond.methodLink RX4 184 yX4_name, Cond.instanceMethod yX4_name, Cond.selects RX4 yX4_name yX4_name, Cond.code yX4_name cX4_name 2 (some .int), Cond.methodLink RX4 187 yX4_number, Cond.instanceMethod yX4_number, Cond.selects RX4 yX4_number yX4_number, Cond.code yX4_number cX4_number 3 (some .int)]
def wsX4_fault : List Cond := .code yX4_fault cX4_fault 1 (some .int) :: ((wsX4_fault_r1 ++ wsX4_fault_r2) ++ wsX40)
def wsX4_can_r1 : List Cond := [Cond.methodLink RX4 79 yX4_runs, Cond.instanceMethod yX4_runs, Cond.selects RX4 yX4_runs yX4_runs, Cond.initialized RX4, Cond.code yX4_runs cX4_runs 1 (some .boolean), Cond.fieldLink RX4 7 "GenerationNamesModel" "z" "[I", Cond.methodLink RX4 136 yX4_canAgain, Cond.instanceMethod yX4_canAgain, Cond.selects RX4 yX4_canAgain yX4_canAgain, Cond.code yX4_canAgain cX4_canAgain 1 (some .boolean), Cond.methodLink RX4 105 yX4_canWrite, Cond.instanceMethod yX4_canWrite, Cond.selects RX4 yX4_canWrite yX4_canWrite, Cond.code yX4_canWrite cX4_canWrite 4 (some .boolean), Cond.methodLink RX4 37 yX4_of, Cond.instanceMethod yX4_of, Cond.selects RX4 yX4_of yX4_of, Cond.code yX4_of cX4_of 3 (some .int), Cond.methodLink RX4 96 yX4_told, Cond.instanceMethod yX4_told, Cond.selects RX4 yX4_told yX4_told, Cond.code yX4_told cX4_told 4 (some .int), Cond.methodLink RX4 86 yX4_markOf, Cond.instanceMethod yX4_markOf]
def wsX4_can_r2 : List Cond := [Cond.selects RX4 yX4_markOf yX4_markOf, Cond.code yX4_markOf cX4_markOf 3 (some .int), Cond.methodLink RX4 89 yX4_placeOf, Cond.instanceMethod yX4_placeOf, Cond.selects RX4 yX4_placeOf yX4_placeOf, Cond.code yX4_placeOf cX4_placeOf 5 (some .int), Cond.methodLink RX4 60 yX4_many, Cond.instanceMethod yX4_many, Cond.selects RX4 yX4_many yX4_many, Cond.code yX4_many cX4_many 2 (some .int), Cond.methodLink RX4 45 yX4_gen, Cond.instanceMethod yX4_gen, Cond.selects RX4 yX4_gen yX4_gen, Cond.code yX4_gen cX4_gen 4 (some .int), Cond.methodLink RX4 64 yX4_isHole, Cond.instanceMethod yX4_isHole, Cond.selects RX4 yX4_isHole yX4_isHole, Cond.code yX4_isHole cX4_isHole 3 (some .boolean)]
def wsX4_can : List Cond := .code yX4_can cX4_can 4 (some .boolean) :: ((wsX4_can_r1 ++ wsX4_can_r2) ++ wsX40)
def wsX4_act_r1 : List Cond := [Cond.methodLink RX4 124 yX4_beginIt, Cond.instanceMethod yX4_beginIt, Cond.selects RX4 yX4_beginIt yX4_beginIt, Cond.initialized RX4, Cond.code yX4_beginIt cX4_beginIt 3 (some .int), Cond.methodLink RX4 60 yX4_many, Cond.instanceMethod yX4_many, Cond.selects RX4 yX4_many yX4_many, Cond.code yX4_many cX4_many 2 (some .int), Cond.methodLink RX4 37 yX4_of, Cond.instanceMethod yX4_of, Cond.selects RX4 yX4_of yX4_of, Cond.code yX4_of cX4_of 3 (some .int), Cond.fieldLink RX4 7 "GenerationNamesModel" "z" "[I", Cond.methodLink RX4 45 yX4_gen, Cond.instanceMethod yX4_gen, Cond.selects RX4 yX4_gen yX4_gen, Cond.code yX4_gen cX4_gen 4 (some .int), Cond.methodLink RX4 41 yX4_lay, Cond.instanceMethod yX4_lay, Cond.selects RX4 yX4_lay yX4_lay, Cond.code yX4_lay cX4_lay 4 none, Cond.methodLink RX4 121 yX4_start, Cond.instanceMethod yX4_start]
def wsX4_act_r2 : List Cond := [Cond.selects RX4 yX4_start yX4_start, Cond.code yX4_start cX4_start 2 (some .int), Cond.methodLink RX4 133 yX4_endIt, Cond.instanceMethod yX4_endIt, Cond.selects RX4 yX4_endIt yX4_endIt, Cond.code yX4_endIt cX4_endIt 3 (some .int), Cond.methodLink RX4 127 yX4_madePlace, Cond.instanceMethod yX4_madePlace, Cond.selects RX4 yX4_madePlace yX4_madePlace, Cond.code yX4_madePlace cX4_madePlace 3 (some .int), Cond.methodLink RX4 79 yX4_runs, Cond.instanceMethod yX4_runs, Cond.selects RX4 yX4_runs yX4_runs, Cond.code yX4_runs cX4_runs 1 (some .boolean), Cond.methodLink RX4 89 yX4_placeOf, Cond.instanceMethod yX4_placeOf, Cond.selects RX4 yX4_placeOf yX4_placeOf, Cond.code yX4_placeOf cX4_placeOf 5 (some .int), Cond.methodLink RX4 64 yX4_isHole, Cond.instanceMethod yX4_isHole, Cond.selects RX4 yX4_isHole yX4_isHole, Cond.code yX4_isHole cX4_isHole 3 (some .boolean), Cond.methodLink RX4 114 yX4_deleteAt, Cond.instanceMethod yX4_deleteAt]
def wsX4_act_r3 : List Cond := [Cond.selects RX4 yX4_deleteAt yX4_deleteAt, Cond.code yX4_deleteAt cX4_deleteAt 3 none, Cond.methodLink RX4 72 yX4_layGen, Cond.instanceMethod yX4_layGen, Cond.selects RX4 yX4_layGen yX4_layGen, Cond.code yX4_layGen cX4_layGen 5 none, Cond.methodLink RX4 68 yX4_trim, Cond.instanceMethod yX4_trim, Cond.selects RX4 yX4_trim yX4_trim, Cond.code yX4_trim cX4_trim 2 none, Cond.methodLink RX4 130 yX4_madeMany, Cond.instanceMethod yX4_madeMany, Cond.selects RX4 yX4_madeMany yX4_madeMany, Cond.code yX4_madeMany cX4_madeMany 3 (some .int), Cond.methodLink RX4 108 yX4_writeIt, Cond.instanceMethod yX4_writeIt, Cond.selects RX4 yX4_writeIt yX4_writeIt, Cond.code yX4_writeIt cX4_writeIt 5 (some .int), Cond.methodLink RX4 99 yX4_make, Cond.instanceMethod yX4_make, Cond.selects RX4 yX4_make yX4_make, Cond.code yX4_make cX4_make 5 (some .int), Cond.methodLink RX4 76 yX4_numberBehind, Cond.static yX4_numberBehind]
def wsX4_act_r4 : List Cond := [Cond.code yX4_numberBehind cX4_numberBehind 1 (some .int), Cond.methodLink RX4 83 yX4_roll, Cond.instanceMethod yX4_roll, Cond.selects RX4 yX4_roll yX4_roll, Cond.code yX4_roll cX4_roll 2 none, Cond.methodLink RX4 96 yX4_told, Cond.instanceMethod yX4_told, Cond.selects RX4 yX4_told yX4_told, Cond.code yX4_told cX4_told 4 (some .int), Cond.methodLink RX4 86 yX4_markOf, Cond.instanceMethod yX4_markOf, Cond.selects RX4 yX4_markOf yX4_markOf, Cond.code yX4_markOf cX4_markOf 3 (some .int), Cond.methodLink RX4 118 yX4_deleteIt, Cond.instanceMethod yX4_deleteIt, Cond.selects RX4 yX4_deleteIt yX4_deleteIt, Cond.code yX4_deleteIt cX4_deleteIt 5 (some .int), Cond.methodLink RX4 111 yX4_readIt, Cond.instanceMethod yX4_readIt, Cond.selects RX4 yX4_readIt yX4_readIt, Cond.code yX4_readIt cX4_readIt 4 (some .int)]
def wsX4_act : List Cond := .code yX4_act cX4_act 5 none :: ((wsX4_act_r1 ++ (wsX4_act_r2 ++ (wsX4_act_r3 ++ wsX4_act_r4))) ++ wsX40)
def wsX4_carryOut_r1 : List Cond := [Cond.fieldLink RX4 181 "GenerationNamesModel" "orderMany" "I", Cond.fieldLink RX4 30 "GenerationNamesModel" "orders" "[I", Cond.fieldLink RX4 151 "GenerationNamesModel" "typed" "I", Cond.methodLink RX4 193 yX4_readPad, Cond.instanceMethod yX4_readPad, Cond.selects RX4 yX4_readPad yX4_readPad, Cond.initialized RX4, Cond.code yX4_readPad cX4_readPad 2 (some .int), Cond.fieldLink RX4 165 "GenerationNamesModel" "spot" "I", Cond.fieldLink RX4 168 "GenerationNamesModel" "wrong" "I", Cond.methodLink RX4 190 yX4_readOrder, Cond.instanceMethod yX4_readOrder, Cond.selects RX4 yX4_readOrder yX4_readOrder, Cond.code yX4_readOrder cX4_readOrder 4 none, Cond.methodLink RX4 171 yX4_letter, Cond.instanceMethod yX4_letter, Cond.selects RX4 yX4_letter yX4_letter, Cond.code yX4_letter cX4_letter 1 (some .int), Cond.fieldLink RX4 26 "GenerationNamesModel" "pad" "[C", Cond.methodLink RX4 174 yX4_wants, Cond.instanceMethod yX4_wants, Cond.selects RX4 yX4_wants yX4_wants, Cond.code yX4_wants cX4_wants 2 none, Cond.methodLink RX4 178 yX4_digit]
def wsX4_carryOut_r2 : List Cond := [Cond.instanceMethod yX4_digit, Cond.selects RX4 yX4_digit yX4_digit, Cond.code yX4_digit cX4_digit 4 (some .int), Cond.methodLink RX4 33 yX4_in, Cond.static yX4_in, Cond.code yX4_in cX4_in 3 (some .boolean), Cond.methodLink RX4 184 yX4_name, Cond.instanceMethod yX4_name, Cond.selects RX4 yX4_name yX4_name, Cond.code yX4_name cX4_name 2 (some .int), Cond.methodLink RX4 187 yX4_number, Cond.instanceMethod yX4_number, Cond.selects RX4 yX4_number yX4_number, Cond.code yX4_number cX4_number 3 (some .int), Cond.methodLink RX4 57 yX4_record, Cond.instanceMethod yX4_record, Cond.selects RX4 yX4_record yX4_record, Cond.code yX4_record cX4_record 2 none, Cond.fieldLink RX4 49 "GenerationNamesModel" "pastMany" "I", Cond.fieldLink RX4 13 "GenerationNamesModel" "past" "[I", Cond.fieldLink RX4 7 "GenerationNamesModel" "z" "[I", Cond.methodLink RX4 196 yX4_can, Cond.instanceMethod yX4_can, Cond.selects RX4 yX4_can yX4_can]
def wsX4_carryOut_r3 : List Cond := [Cond.code yX4_can cX4_can 4 (some .boolean), Cond.methodLink RX4 79 yX4_runs, Cond.instanceMethod yX4_runs, Cond.selects RX4 yX4_runs yX4_runs, Cond.code yX4_runs cX4_runs 1 (some .boolean), Cond.methodLink RX4 136 yX4_canAgain, Cond.instanceMethod yX4_canAgain, Cond.selects RX4 yX4_canAgain yX4_canAgain, Cond.code yX4_canAgain cX4_canAgain 1 (some .boolean), Cond.methodLink RX4 105 yX4_canWrite, Cond.instanceMethod yX4_canWrite, Cond.selects RX4 yX4_canWrite yX4_canWrite, Cond.code yX4_canWrite cX4_canWrite 4 (some .boolean), Cond.methodLink RX4 37 yX4_of, Cond.instanceMethod yX4_of, Cond.selects RX4 yX4_of yX4_of, Cond.code yX4_of cX4_of 3 (some .int), Cond.methodLink RX4 96 yX4_told, Cond.instanceMethod yX4_told, Cond.selects RX4 yX4_told yX4_told, Cond.code yX4_told cX4_told 4 (some .int), Cond.methodLink RX4 86 yX4_markOf, Cond.instanceMethod yX4_markOf, Cond.selects RX4 yX4_markOf yX4_markOf]
def wsX4_carryOut_r4 : List Cond := [Cond.code yX4_markOf cX4_markOf 3 (some .int), Cond.methodLink RX4 89 yX4_placeOf, Cond.instanceMethod yX4_placeOf, Cond.selects RX4 yX4_placeOf yX4_placeOf, Cond.code yX4_placeOf cX4_placeOf 5 (some .int), Cond.methodLink RX4 60 yX4_many, Cond.instanceMethod yX4_many, Cond.selects RX4 yX4_many yX4_many, Cond.code yX4_many cX4_many 2 (some .int), Cond.methodLink RX4 45 yX4_gen, Cond.instanceMethod yX4_gen, Cond.selects RX4 yX4_gen yX4_gen, Cond.code yX4_gen cX4_gen 4 (some .int), Cond.methodLink RX4 64 yX4_isHole, Cond.instanceMethod yX4_isHole, Cond.selects RX4 yX4_isHole yX4_isHole, Cond.code yX4_isHole cX4_isHole 3 (some .boolean), Cond.methodLink RX4 199 yX4_act, Cond.instanceMethod yX4_act, Cond.selects RX4 yX4_act yX4_act, Cond.code yX4_act cX4_act 5 none, Cond.methodLink RX4 124 yX4_beginIt, Cond.instanceMethod yX4_beginIt, Cond.selects RX4 yX4_beginIt yX4_beginIt]
def wsX4_carryOut_r5 : List Cond := [Cond.code yX4_beginIt cX4_beginIt 3 (some .int), Cond.methodLink RX4 41 yX4_lay, Cond.instanceMethod yX4_lay, Cond.selects RX4 yX4_lay yX4_lay, Cond.code yX4_lay cX4_lay 4 none, Cond.methodLink RX4 121 yX4_start, Cond.instanceMethod yX4_start, Cond.selects RX4 yX4_start yX4_start, Cond.code yX4_start cX4_start 2 (some .int), Cond.methodLink RX4 133 yX4_endIt, Cond.instanceMethod yX4_endIt, Cond.selects RX4 yX4_endIt yX4_endIt, Cond.code yX4_endIt cX4_endIt 3 (some .int), Cond.methodLink RX4 127 yX4_madePlace, Cond.instanceMethod yX4_madePlace, Cond.selects RX4 yX4_madePlace yX4_madePlace, Cond.code yX4_madePlace cX4_madePlace 3 (some .int), Cond.methodLink RX4 114 yX4_deleteAt, Cond.instanceMethod yX4_deleteAt, Cond.selects RX4 yX4_deleteAt yX4_deleteAt, Cond.code yX4_deleteAt cX4_deleteAt 3 none, Cond.methodLink RX4 72 yX4_layGen, Cond.instanceMethod yX4_layGen, Cond.selects RX4 yX4_layGen yX4_layGen]
def wsX4_carryOut_r6 : List Cond := [Cond.code yX4_layGen cX4_layGen 5 none, Cond.methodLink RX4 68 yX4_trim, Cond.instanceMethod yX4_trim, Cond.selects RX4 yX4_trim yX4_trim, Cond.code yX4_trim cX4_trim 2 none, Cond.methodLink RX4 130 yX4_madeMany, Cond.instanceMethod yX4_madeMany, Cond.selects RX4 yX4_madeMany yX4_madeMany, Cond.code yX4_madeMany cX4_madeMany 3 (some .int), Cond.methodLink RX4 108 yX4_writeIt, Cond.instanceMethod yX4_writeIt, Cond.selects RX4 yX4_writeIt yX4_writeIt, Cond.code yX4_writeIt cX4_writeIt 5 (some .int), Cond.methodLink RX4 99 yX4_make, Cond.instanceMethod yX4_make, Cond.selects RX4 yX4_make yX4_make, Cond.code yX4_make cX4_make 5 (some .int), Cond.methodLink RX4 76 yX4_numberBehind, Cond.static yX4_numberBehind, Cond.code yX4_numberBehind cX4_numberBehind 1 (some .int), Cond.methodLink RX4 83 yX4_roll, Cond.instanceMethod yX4_roll, Cond.selects RX4 yX4_roll yX4_roll, Cond.code yX4_roll cX4_roll 2 none]
def wsX4_carryOut_r7 : List Cond := [Cond.methodLink RX4 118 yX4_deleteIt, Cond.instanceMethod yX4_deleteIt, Cond.selects RX4 yX4_deleteIt yX4_deleteIt, Cond.code yX4_deleteIt cX4_deleteIt 5 (some .int), Cond.methodLink RX4 111 yX4_readIt, Cond.instanceMethod yX4_readIt, Cond.selects RX4 yX4_readIt yX4_readIt, Cond.code yX4_readIt cX4_readIt 4 (some .int)]
def wsX4_carryOut : List Cond := .code yX4_carryOut cX4_carryOut 2 (some .int) :: ((wsX4_carryOut_r1 ++ (wsX4_carryOut_r2 ++ (wsX4_carryOut_r3 ++ (wsX4_carryOut_r4 ++ (wsX4_carryOut_r5 ++ (wsX4_carryOut_r6 ++ wsX4_carryOut_r7)))))) ++ wsX40)
def wsJ9_max_7cf53 : List Cond := .code yJ9_max_7cf53 cJ9_max_7cf53 2 (some .int) :: ([])
def wsL_law_r1 : List Cond := [Cond.classLink RL 7 RX3, Cond.instantiable RX3 6, Cond.initialized RX3, Cond.classLink RL 10 RX4, Cond.instantiable RX4 12, Cond.initialized RX4, Cond.constantLong RL 77 (4294967295), Cond.methodLink RL 9 yX3_init, Cond.instanceMethod yX3_init, Cond.code yX3_init cX3_init 2 none, Cond.methodLink RX3 3 objectInit, Cond.instanceMethod objectInit, Cond.code objectInit ⟨#[0xb1]⟩ 1 none, Cond.classLink RX3 9 RX2, Cond.instantiable RX2 7, Cond.initialized RX2, Cond.fieldLink RX3 12 "GenerationNames" "now" "LGenerationNames$State;", Cond.fieldLink RX3 16 "GenerationNames" "history" "[LGenerationNames$State;", Cond.fieldLink RX3 20 "GenerationNames" "undoable" "I", Cond.fieldLink RX3 24 "GenerationNames" "slots" "[LGenerationNames$State;", Cond.arrayClass .boolean, Cond.fieldLink RX3 27 "GenerationNames" "saved" "[Z", Cond.classLink RX3 31 RX1, Cond.instantiable RX1 2]
def wsL_law_r2 : List Cond := [Cond.initialized RX1, Cond.fieldLink RX3 34 "GenerationNames" "pad" "LGenerationNames$Pad;", Cond.methodLink RX3 11 yX2_init, Cond.instanceMethod yX2_init, Cond.code yX2_init cX2_init 2 none, Cond.methodLink RX2 3 objectInit, Cond.classLink RX2 9 RX0, Cond.fieldLink RX2 11 "GenerationNames$State" "groups" "[LGenerationNames$Group;", Cond.fieldLink RX2 17 "GenerationNames$State" "jobsBegun" "I", Cond.fieldLink RX2 21 "GenerationNames$State" "jobRuns" "Z", Cond.fieldLink RX2 25 "GenerationNames$State" "lastJobFailed" "Z", Cond.fieldLink RX2 28 "GenerationNames$State" "jobsFailed" "I", Cond.fieldLink RX2 31 "GenerationNames$State" "reads" "I", Cond.fieldLink RX2 34 "GenerationNames$State" "vainReads" "I", Cond.instantiable RX0 10, Cond.initialized RX0, Cond.instanceMethod yX0_init, Cond.code yX0_init cX0_init 1 none, Cond.methodLink RX0 3 objectInit, Cond.fieldLink RX0 9 "GenerationNames$Group" "keep" "I", Cond.fieldLink RX0 15 "GenerationNames$Group" "newest" "I", Cond.fieldLink RX0 18 "GenerationNames$Group" "size" "I", Cond.fieldLink RX0 21 "GenerationNames$Group" "rolledOff" "I", Cond.fieldLink RX0 24 "GenerationNames$Group" "deleted" "I"]
def wsL_law_r3 : List Cond := [Cond.fieldLink RX0 27 "GenerationNames$Group" "newestForJob" "I", Cond.fieldLink RX0 30 "GenerationNames$Group" "madeByJob" "I", Cond.arrayClass .int, Cond.fieldLink RX0 33 "GenerationNames$Group" "data" "[I", Cond.fieldLink RX0 37 "GenerationNames$Group" "reads" "[I", Cond.fieldLink RX0 40 "GenerationNames$Group" "jobs" "[I", Cond.instanceMethod yX1_init, Cond.code yX1_init cX1_init 1 none, Cond.methodLink RX1 3 objectInit, Cond.arrayClass .char, Cond.fieldLink RX1 9 "GenerationNames$Pad" "signs" "[C", Cond.fieldLink RX1 15 "GenerationNames$Pad" "length" "I", Cond.methodLink RL 12 yX4_init, Cond.instanceMethod yX4_init, Cond.code yX4_init cX4_init 2 none, Cond.methodLink RX4 1 objectInit, Cond.fieldLink RX4 7 "GenerationNamesModel" "z" "[I", Cond.fieldLink RX4 13 "GenerationNamesModel" "past" "[I", Cond.fieldLink RX4 16 "GenerationNamesModel" "slots" "[I", Cond.fieldLink RX4 19 "GenerationNamesModel" "isSaved" "[Z", Cond.fieldLink RX4 23 "GenerationNamesModel" "spare" "[I", Cond.fieldLink RX4 26 "GenerationNamesModel" "pad" "[C", Cond.fieldLink RX4 30 "GenerationNamesModel" "orders" "[I", Cond.methodLink RL 13 yX3_keep]
def wsL_law_r4 : List Cond := [Cond.instanceMethod yX3_keep, Cond.selects RX3 yX3_keep yX3_keep, Cond.code yX3_keep cX3_keep 3 (some .int), Cond.methodLink RX3 38 yX3_noteStateBefore, Cond.instanceMethod yX3_noteStateBefore, Cond.selects RX3 yX3_noteStateBefore yX3_noteStateBefore, Cond.code yX3_noteStateBefore cX3_noteStateBefore 1 none, Cond.methodLink RX3 109 yX2_copyFrom, Cond.instanceMethod yX2_copyFrom, Cond.selects RX2 yX2_copyFrom yX2_copyFrom, Cond.code yX2_copyFrom cX2_copyFrom 3 none, Cond.methodLink RX2 38 yX0_copyFrom, Cond.instanceMethod yX0_copyFrom, Cond.selects RX0 yX0_copyFrom yX0_copyFrom, Cond.code yX0_copyFrom cX0_copyFrom 2 none, Cond.methodLink RX0 43 arraycopyName, Cond.native arraycopyName, Cond.static arraycopyName, Cond.initialized "java/lang/System", Cond.methodLink RX3 41 yX2_changeKeep, Cond.instanceMethod yX2_changeKeep, Cond.selects RX2 yX2_changeKeep yX2_changeKeep, Cond.code yX2_changeKeep cX2_changeKeep 5 (some .int), Cond.fieldLink RX2 46 "GenerationNames$Group" "keep" "I"]
def wsL_law_r5 : List Cond := [Cond.methodLink RX2 42 yX2_isGroup, Cond.instanceMethod yX2_isGroup, Cond.selects RX2 yX2_isGroup yX2_isGroup, Cond.code yX2_isGroup cX2_isGroup 2 (some .boolean), Cond.methodLink RX2 49 yX0_leaveMost, Cond.instanceMethod yX0_leaveMost, Cond.selects RX0 yX0_leaveMost yX0_leaveMost, Cond.code yX0_leaveMost cX0_leaveMost 2 none, Cond.methodLink RX0 49 yX0_oldest, Cond.instanceMethod yX0_oldest, Cond.selects RX0 yX0_oldest yX0_oldest, Cond.code yX0_oldest cX0_oldest 1 (some .int), Cond.methodLink RX0 53 yX0_isHole, Cond.instanceMethod yX0_isHole, Cond.selects RX0 yX0_isHole yX0_isHole, Cond.code yX0_isHole cX0_isHole 2 (some .boolean), Cond.methodLink RX3 45 yX3_recorded, Cond.instanceMethod yX3_recorded, Cond.selects RX3 yX3_recorded yX3_recorded, Cond.code yX3_recorded cX3_recorded 2 (some .int), Cond.methodLink RX3 120 yX3_isError, Cond.static yX3_isError, Cond.code yX3_isError cX3_isError 1 (some .boolean), Cond.methodLink RX3 123 yX3_dropOldestState]
def wsL_law_r6 : List Cond := [Cond.instanceMethod yX3_dropOldestState, Cond.selects RX3 yX3_dropOldestState yX3_dropOldestState, Cond.code yX3_dropOldestState cX3_dropOldestState 3 none, Cond.methodLink RL 17 yX4_keep, Cond.instanceMethod yX4_keep, Cond.selects RX4 yX4_keep yX4_keep, Cond.code yX4_keep cX4_keep 4 (some .int), Cond.methodLink RX4 92 yX4_isGroup, Cond.static yX4_isGroup, Cond.code yX4_isGroup cX4_isGroup 1 (some .boolean), Cond.methodLink RX4 33 yX4_in, Cond.static yX4_in, Cond.code yX4_in cX4_in 3 (some .boolean), Cond.methodLink RX4 57 yX4_record, Cond.instanceMethod yX4_record, Cond.selects RX4 yX4_record yX4_record, Cond.code yX4_record cX4_record 2 none, Cond.fieldLink RX4 49 "GenerationNamesModel" "pastMany" "I", Cond.methodLink RX4 37 yX4_of, Cond.instanceMethod yX4_of, Cond.selects RX4 yX4_of yX4_of, Cond.code yX4_of cX4_of 3 (some .int), Cond.methodLink RX4 41 yX4_lay, Cond.instanceMethod yX4_lay]
def wsL_law_r7 : List Cond := [Cond.selects RX4 yX4_lay yX4_lay, Cond.code yX4_lay cX4_lay 4 none, Cond.methodLink RX4 83 yX4_roll, Cond.instanceMethod yX4_roll, Cond.selects RX4 yX4_roll yX4_roll, Cond.code yX4_roll cX4_roll 2 none, Cond.methodLink RX4 60 yX4_many, Cond.instanceMethod yX4_many, Cond.selects RX4 yX4_many yX4_many, Cond.code yX4_many cX4_many 2 (some .int), Cond.methodLink RX4 64 yX4_isHole, Cond.instanceMethod yX4_isHole, Cond.selects RX4 yX4_isHole yX4_isHole, Cond.code yX4_isHole cX4_isHole 3 (some .boolean), Cond.methodLink RX4 45 yX4_gen, Cond.instanceMethod yX4_gen, Cond.selects RX4 yX4_gen yX4_gen, Cond.code yX4_gen cX4_gen 4 (some .int), Cond.methodLink RX4 68 yX4_trim, Cond.instanceMethod yX4_trim, Cond.selects RX4 yX4_trim yX4_trim, Cond.code yX4_trim cX4_trim 2 none, Cond.methodLink RL 18 yX3_write, Cond.instanceMethod yX3_write]
def wsL_law_r8 : List Cond := [Cond.selects RX3 yX3_write yX3_write, Cond.code yX3_write cX3_write 4 (some .int), Cond.methodLink RX3 49 yX2_writeByName, Cond.instanceMethod yX2_writeByName, Cond.selects RX2 yX2_writeByName yX2_writeByName, Cond.code yX2_writeByName cX2_writeByName 6 (some .int), Cond.fieldLink RX2 78 "GenerationNames$Group" "data" "[I", Cond.methodLink RX2 56 yX2_isName, Cond.instanceMethod yX2_isName, Cond.selects RX2 yX2_isName yX2_isName, Cond.code yX2_isName cX2_isName 2 (some .boolean), Cond.methodLink RX2 59 yX2_hasNewestOfJob, Cond.instanceMethod yX2_hasNewestOfJob, Cond.selects RX2 yX2_hasNewestOfJob yX2_hasNewestOfJob, Cond.code yX2_hasNewestOfJob cX2_hasNewestOfJob 2 (some .boolean), Cond.fieldLink RX2 53 "GenerationNames$Group" "madeByJob" "I", Cond.methodLink RX2 63 yX0_make, Cond.instanceMethod yX0_make, Cond.selects RX0 yX0_make yX0_make, Cond.code yX0_make cX0_make 4 (some .int), Cond.methodLink RX0 64 yX0_leaveMost, Cond.methodLink RX2 67 yX0_numberOf, Cond.instanceMethod yX0_numberOf, Cond.selects RX0 yX0_numberOf yX0_numberOf]
def wsL_law_r9 : List Cond := [Cond.code yX0_numberOf cX0_numberOf 2 (some .int), Cond.methodLink RX2 71 yX0_serialOf, Cond.instanceMethod yX0_serialOf, Cond.selects RX0 yX0_serialOf yX0_serialOf, Cond.code yX0_serialOf cX0_serialOf 3 (some .int), Cond.methodLink RX2 75 yX0_isThere, Cond.instanceMethod yX0_isThere, Cond.selects RX0 yX0_isThere yX0_isThere, Cond.code yX0_isThere cX0_isThere 2 (some .boolean), Cond.methodLink RL 22 yX4_write, Cond.instanceMethod yX4_write, Cond.selects RX4 yX4_write yX4_write, Cond.code yX4_write cX4_write 4 (some .int), Cond.methodLink RX4 102 yX4_isName, Cond.static yX4_isName, Cond.code yX4_isName cX4_isName 1 (some .boolean), Cond.methodLink RX4 105 yX4_canWrite, Cond.instanceMethod yX4_canWrite, Cond.selects RX4 yX4_canWrite yX4_canWrite, Cond.code yX4_canWrite cX4_canWrite 4 (some .boolean), Cond.methodLink RX4 79 yX4_runs, Cond.instanceMethod yX4_runs, Cond.selects RX4 yX4_runs yX4_runs, Cond.code yX4_runs cX4_runs 1 (some .boolean)]
def wsL_law_r10 : List Cond := [Cond.methodLink RX4 96 yX4_told, Cond.instanceMethod yX4_told, Cond.selects RX4 yX4_told yX4_told, Cond.code yX4_told cX4_told 4 (some .int), Cond.methodLink RX4 86 yX4_markOf, Cond.instanceMethod yX4_markOf, Cond.selects RX4 yX4_markOf yX4_markOf, Cond.code yX4_markOf cX4_markOf 3 (some .int), Cond.methodLink RX4 89 yX4_placeOf, Cond.instanceMethod yX4_placeOf, Cond.selects RX4 yX4_placeOf yX4_placeOf, Cond.code yX4_placeOf cX4_placeOf 5 (some .int), Cond.methodLink RX4 108 yX4_writeIt, Cond.instanceMethod yX4_writeIt, Cond.selects RX4 yX4_writeIt yX4_writeIt, Cond.code yX4_writeIt cX4_writeIt 5 (some .int), Cond.methodLink RX4 99 yX4_make, Cond.instanceMethod yX4_make, Cond.selects RX4 yX4_make yX4_make, Cond.code yX4_make cX4_make 5 (some .int), Cond.methodLink RX4 72 yX4_layGen, Cond.instanceMethod yX4_layGen, Cond.selects RX4 yX4_layGen yX4_layGen, Cond.code yX4_layGen cX4_layGen 5 none]
def wsL_law_r11 : List Cond := [Cond.methodLink RX4 76 yX4_numberBehind, Cond.static yX4_numberBehind, Cond.code yX4_numberBehind cX4_numberBehind 1 (some .int), Cond.methodLink RL 23 yX3_read, Cond.instanceMethod yX3_read, Cond.selects RX3 yX3_read yX3_read, Cond.code yX3_read cX3_read 3 (some .int), Cond.methodLink RX3 53 yX2_readByName, Cond.instanceMethod yX2_readByName, Cond.selects RX2 yX2_readByName yX2_readByName, Cond.code yX2_readByName cX2_readByName 6 (some .int), Cond.fieldLink RX2 82 "GenerationNames$Group" "reads" "[I", Cond.methodLink RL 26 yX4_read, Cond.instanceMethod yX4_read, Cond.selects RX4 yX4_read yX4_read, Cond.code yX4_read cX4_read 3 (some .int), Cond.methodLink RX4 111 yX4_readIt, Cond.instanceMethod yX4_readIt, Cond.selects RX4 yX4_readIt yX4_readIt, Cond.code yX4_readIt cX4_readIt 4 (some .int), Cond.methodLink RL 27 yX3_delete, Cond.instanceMethod yX3_delete, Cond.selects RX3 yX3_delete yX3_delete, Cond.code yX3_delete cX3_delete 3 (some .int)]
def wsL_law_r12 : List Cond := [Cond.methodLink RX3 56 yX2_deleteByName, Cond.instanceMethod yX2_deleteByName, Cond.selects RX2 yX2_deleteByName yX2_deleteByName, Cond.code yX2_deleteByName cX2_deleteByName 5 (some .int), Cond.methodLink RX2 84 yX0_makeHole, Cond.instanceMethod yX0_makeHole, Cond.selects RX0 yX0_makeHole yX0_makeHole, Cond.code yX0_makeHole cX0_makeHole 2 none, Cond.methodLink RL 30 yX4_delete, Cond.instanceMethod yX4_delete, Cond.selects RX4 yX4_delete yX4_delete, Cond.code yX4_delete cX4_delete 3 (some .int), Cond.methodLink RX4 118 yX4_deleteIt, Cond.instanceMethod yX4_deleteIt, Cond.selects RX4 yX4_deleteIt yX4_deleteIt, Cond.code yX4_deleteIt cX4_deleteIt 5 (some .int), Cond.methodLink RX4 114 yX4_deleteAt, Cond.instanceMethod yX4_deleteAt, Cond.selects RX4 yX4_deleteAt yX4_deleteAt, Cond.code yX4_deleteAt cX4_deleteAt 3 none, Cond.methodLink RL 31 yX3_begin, Cond.instanceMethod yX3_begin, Cond.selects RX3 yX3_begin yX3_begin, Cond.code yX3_begin cX3_begin 1 (some .int)]
def wsL_law_r13 : List Cond := [Cond.methodLink RX3 59 yX2_beginJob, Cond.instanceMethod yX2_beginJob, Cond.selects RX2 yX2_beginJob yX2_beginJob, Cond.code yX2_beginJob cX2_beginJob 2 (some .int), Cond.fieldLink RX2 87 "GenerationNames$Group" "newest" "I", Cond.fieldLink RX2 90 "GenerationNames$Group" "newestForJob" "I", Cond.methodLink RX2 93 yX2_startJob, Cond.instanceMethod yX2_startJob, Cond.selects RX2 yX2_startJob yX2_startJob, Cond.code yX2_startJob cX2_startJob 2 (some .int), Cond.methodLink RL 35 yX4_begin, Cond.instanceMethod yX4_begin, Cond.selects RX4 yX4_begin yX4_begin, Cond.code yX4_begin cX4_begin 1 (some .int), Cond.methodLink RX4 124 yX4_beginIt, Cond.instanceMethod yX4_beginIt, Cond.selects RX4 yX4_beginIt yX4_beginIt, Cond.code yX4_beginIt cX4_beginIt 3 (some .int), Cond.methodLink RX4 121 yX4_start, Cond.instanceMethod yX4_start, Cond.selects RX4 yX4_start yX4_start, Cond.code yX4_start cX4_start 2 (some .int), Cond.methodLink RL 36 yX3_end, Cond.instanceMethod yX3_end]
def wsL_law_r14 : List Cond := [Cond.selects RX3 yX3_end yX3_end, Cond.code yX3_end cX3_end 2 (some .int), Cond.methodLink RX3 63 yX2_endJob, Cond.instanceMethod yX2_endJob, Cond.selects RX2 yX2_endJob yX2_endJob, Cond.code yX2_endJob cX2_endJob 3 (some .int), Cond.methodLink RX2 97 yX2_countMadeByJob, Cond.instanceMethod yX2_countMadeByJob, Cond.selects RX2 yX2_countMadeByJob yX2_countMadeByJob, Cond.code yX2_countMadeByJob cX2_countMadeByJob 3 (some .int), Cond.methodLink RL 40 yX4_end, Cond.instanceMethod yX4_end, Cond.selects RX4 yX4_end yX4_end, Cond.code yX4_end cX4_end 2 (some .int), Cond.methodLink RX4 133 yX4_endIt, Cond.instanceMethod yX4_endIt, Cond.selects RX4 yX4_endIt yX4_endIt, Cond.code yX4_endIt cX4_endIt 3 (some .int), Cond.methodLink RX4 127 yX4_madePlace, Cond.instanceMethod yX4_madePlace, Cond.selects RX4 yX4_madePlace yX4_madePlace, Cond.code yX4_madePlace cX4_madePlace 3 (some .int), Cond.methodLink RX4 130 yX4_madeMany, Cond.instanceMethod yX4_madeMany]
def wsL_law_r15 : List Cond := [Cond.selects RX4 yX4_madeMany yX4_madeMany, Cond.code yX4_madeMany cX4_madeMany 3 (some .int), Cond.methodLink RL 41 yX3_again, Cond.instanceMethod yX3_again, Cond.selects RX3 yX3_again yX3_again, Cond.code yX3_again cX3_again 1 (some .int), Cond.methodLink RX3 66 yX2_repeatJob, Cond.instanceMethod yX2_repeatJob, Cond.selects RX2 yX2_repeatJob yX2_repeatJob, Cond.code yX2_repeatJob cX2_repeatJob 1 (some .int), Cond.methodLink RL 44 yX4_again, Cond.instanceMethod yX4_again, Cond.selects RX4 yX4_again yX4_again, Cond.code yX4_again cX4_again 1 (some .int), Cond.methodLink RX4 136 yX4_canAgain, Cond.instanceMethod yX4_canAgain, Cond.selects RX4 yX4_canAgain yX4_canAgain, Cond.code yX4_canAgain cX4_canAgain 1 (some .boolean), Cond.methodLink RL 45 yX3_ofGroup, Cond.instanceMethod yX3_ofGroup, Cond.selects RX3 yX3_ofGroup yX3_ofGroup, Cond.code yX3_ofGroup cX3_ofGroup 3 (some .int), Cond.methodLink RX3 69 yX2_aboutGroup, Cond.instanceMethod yX2_aboutGroup]
def wsL_law_r16 : List Cond := [Cond.selects RX2 yX2_aboutGroup yX2_aboutGroup, Cond.code yX2_aboutGroup cX2_aboutGroup 4 (some .int), Cond.fieldLink RX2 100 "GenerationNames$Group" "size" "I", Cond.fieldLink RX2 106 "GenerationNames$Group" "rolledOff" "I", Cond.fieldLink RX2 109 "GenerationNames$Group" "deleted" "I", Cond.methodLink RX2 103 yX0_countHoles, Cond.instanceMethod yX0_countHoles, Cond.selects RX0 yX0_countHoles yX0_countHoles, Cond.code yX0_countHoles cX0_countHoles 3 (some .int), Cond.methodLink RX2 112 yX0_sumOfData, Cond.instanceMethod yX0_sumOfData, Cond.selects RX0 yX0_sumOfData yX0_sumOfData, Cond.code yX0_sumOfData cX0_sumOfData 3 (some .int), Cond.methodLink RL 48 yX4_ofGroup, Cond.instanceMethod yX4_ofGroup, Cond.selects RX4 yX4_ofGroup yX4_ofGroup, Cond.code yX4_ofGroup cX4_ofGroup 3 (some .int), Cond.methodLink RX4 139 yX4_holes, Cond.instanceMethod yX4_holes, Cond.selects RX4 yX4_holes yX4_holes, Cond.code yX4_holes cX4_holes 4 (some .int), Cond.methodLink RX4 142 yX4_allData, Cond.instanceMethod yX4_allData, Cond.selects RX4 yX4_allData yX4_allData]
def wsL_law_r17 : List Cond := [Cond.code yX4_allData cX4_allData 4 (some .int), Cond.methodLink RL 49 yX3_generation, Cond.instanceMethod yX3_generation, Cond.selects RX3 yX3_generation yX3_generation, Cond.code yX3_generation cX3_generation 4 (some .int), Cond.methodLink RX3 72 yX2_aboutGeneration, Cond.instanceMethod yX2_aboutGeneration, Cond.selects RX2 yX2_aboutGeneration yX2_aboutGeneration, Cond.code yX2_aboutGeneration cX2_aboutGeneration 7 (some .int), Cond.fieldLink RX2 118 "GenerationNames$Group" "jobs" "[I", Cond.methodLink RX2 115 yX0_isHole, Cond.methodLink RX2 121 yX0_nameForJob, Cond.instanceMethod yX0_nameForJob, Cond.selects RX0 yX0_nameForJob yX0_nameForJob, Cond.code yX0_nameForJob cX0_nameForJob 3 (some .int), Cond.methodLink RL 52 yX4_generation, Cond.instanceMethod yX4_generation, Cond.selects RX4 yX4_generation yX4_generation, Cond.code yX4_generation cX4_generation 4 (some .int), Cond.methodLink RX4 145 yX4_nameOf, Cond.instanceMethod yX4_nameOf, Cond.selects RX4 yX4_nameOf yX4_nameOf, Cond.code yX4_nameOf cX4_nameOf 5 (some .int), Cond.methodLink RL 53 yX3_named]
def wsL_law_r18 : List Cond := [Cond.instanceMethod yX3_named, Cond.selects RX3 yX3_named yX3_named, Cond.code yX3_named cX3_named 3 (some .int), Cond.methodLink RX3 75 yX2_numberByName, Cond.instanceMethod yX2_numberByName, Cond.selects RX2 yX2_numberByName yX2_numberByName, Cond.code yX2_numberByName cX2_numberByName 4 (some .int), Cond.methodLink RX2 124 yX0_numberIfThere, Cond.instanceMethod yX0_numberIfThere, Cond.selects RX0 yX0_numberIfThere yX0_numberIfThere, Cond.code yX0_numberIfThere cX0_numberIfThere 2 (some .int), Cond.methodLink RX0 57 yX0_isThere, Cond.methodLink RX0 60 yX0_numberOf, Cond.methodLink RL 56 yX4_named, Cond.instanceMethod yX4_named, Cond.selects RX4 yX4_named yX4_named, Cond.code yX4_named cX4_named 4 (some .int), Cond.methodLink RL 57 yX3_count, Cond.instanceMethod yX3_count, Cond.selects RX3 yX3_count yX3_count, Cond.code yX3_count cX3_count 2 (some .int), Cond.methodLink RX3 78 yX1_size, Cond.instanceMethod yX1_size, Cond.selects RX1 yX1_size yX1_size]
def wsL_law_r19 : List Cond := [Cond.code yX1_size cX1_size 1 (some .int), Cond.methodLink RX3 81 yX2_counted, Cond.instanceMethod yX2_counted, Cond.selects RX2 yX2_counted yX2_counted, Cond.code yX2_counted cX2_counted 2 (some .int), Cond.methodLink RX2 127 yX2_countThere, Cond.instanceMethod yX2_countThere, Cond.selects RX2 yX2_countThere yX2_countThere, Cond.code yX2_countThere cX2_countThere 3 (some .int), Cond.methodLink RX2 130 yX2_countHoles, Cond.instanceMethod yX2_countHoles, Cond.selects RX2 yX2_countHoles yX2_countHoles, Cond.code yX2_countHoles cX2_countHoles 3 (some .int), Cond.methodLink RL 60 yX4_count, Cond.instanceMethod yX4_count, Cond.selects RX4 yX4_count yX4_count, Cond.code yX4_count cX4_count 2 (some .int), Cond.fieldLink RX4 151 "GenerationNamesModel" "typed" "I", Cond.methodLink RX4 53 yX4_wholes, Cond.instanceMethod yX4_wholes, Cond.selects RX4 yX4_wholes yX4_wholes, Cond.code yX4_wholes cX4_wholes 3 (some .int), Cond.methodLink RX4 148 yX4_allHoles, Cond.instanceMethod yX4_allHoles]
def wsL_law_r20 : List Cond := [Cond.selects RX4 yX4_allHoles yX4_allHoles, Cond.code yX4_allHoles cX4_allHoles 3 (some .int), Cond.methodLink RL 61 yX3_groups, Cond.instanceMethod yX3_groups, Cond.selects RX3 yX3_groups yX3_groups, Cond.code yX3_groups cX3_groups 2 (some .int), Cond.methodLink RX3 84 yX2_groupsThatAre, Cond.instanceMethod yX2_groupsThatAre, Cond.selects RX2 yX2_groupsThatAre yX2_groupsThatAre, Cond.code yX2_groupsThatAre cX2_groupsThatAre 4 (some .int), Cond.methodLink RX2 131 yX2_isSo, Cond.instanceMethod yX2_isSo, Cond.selects RX2 yX2_isSo yX2_isSo, Cond.code yX2_isSo cX2_isSo 3 (some .boolean), Cond.methodLink RL 64 yX4_groups, Cond.instanceMethod yX4_groups, Cond.selects RX4 yX4_groups yX4_groups, Cond.code yX4_groups cX4_groups 5 (some .int), Cond.methodLink RX4 154 yX4_isNewestMade, Cond.instanceMethod yX4_isNewestMade, Cond.selects RX4 yX4_isNewestMade yX4_isNewestMade, Cond.code yX4_isNewestMade cX4_isNewestMade 2 (some .boolean), Cond.methodLink RL 65 yX3_rolls, Cond.instanceMethod yX3_rolls]
def wsL_law_r21 : List Cond := [Cond.selects RX3 yX3_rolls yX3_rolls, Cond.code yX3_rolls cX3_rolls 2 (some .int), Cond.methodLink RX3 87 yX2_numberThatRolls, Cond.instanceMethod yX2_numberThatRolls, Cond.selects RX2 yX2_numberThatRolls yX2_numberThatRolls, Cond.code yX2_numberThatRolls cX2_numberThatRolls 3 (some .int), Cond.methodLink RX2 135 yX0_oldest, Cond.methodLink RL 68 yX4_rolls, Cond.instanceMethod yX4_rolls, Cond.selects RX4 yX4_rolls yX4_rolls, Cond.code yX4_rolls cX4_rolls 2 (some .int), Cond.methodLink RL 69 yX3_ifFailed, Cond.instanceMethod yX3_ifFailed, Cond.selects RX3 yX3_ifFailed yX3_ifFailed, Cond.code yX3_ifFailed cX3_ifFailed 2 (some .int), Cond.methodLink RX3 90 yX2_newestIfFailed, Cond.instanceMethod yX2_newestIfFailed, Cond.selects RX2 yX2_newestIfFailed yX2_newestIfFailed, Cond.code yX2_newestIfFailed cX2_newestIfFailed 3 (some .int), Cond.methodLink RL 72 yX4_ifFailed, Cond.instanceMethod yX4_ifFailed, Cond.selects RX4 yX4_ifFailed yX4_ifFailed, Cond.code yX4_ifFailed cX4_ifFailed 4 (some .int), Cond.methodLink RX4 157 yX4_putAside]
def wsL_law_r22 : List Cond := [Cond.instanceMethod yX4_putAside, Cond.selects RX4 yX4_putAside yX4_putAside, Cond.code yX4_putAside cX4_putAside 2 none, Cond.methodLink RX4 160 yX4_bringBack, Cond.instanceMethod yX4_bringBack, Cond.selects RX4 yX4_bringBack yX4_bringBack, Cond.code yX4_bringBack cX4_bringBack 2 none, Cond.methodLink RL 73 yX3_leastKeep, Cond.instanceMethod yX3_leastKeep, Cond.selects RX3 yX3_leastKeep yX3_leastKeep, Cond.code yX3_leastKeep cX3_leastKeep 2 (some .int), Cond.methodLink RX3 93 yX2_leastKeepOf, Cond.instanceMethod yX2_leastKeepOf, Cond.selects RX2 yX2_leastKeepOf yX2_leastKeepOf, Cond.code yX2_leastKeepOf cX2_leastKeepOf 2 (some .int), Cond.methodLink RX2 138 Lib.Math.max.name, Cond.static Lib.Math.max.name, Cond.initialized "java/lang/Math", Cond.code Lib.Math.max.name Lib.Math.max.code 2 (some .int), Cond.methodLink RL 76 yX4_leastKeep, Cond.instanceMethod yX4_leastKeep, Cond.selects RX4 yX4_leastKeep yX4_leastKeep, Cond.code yX4_leastKeep cX4_leastKeep 2 (some .int), Cond.methodLink RL 79 yX3_put]
def wsL_law_r23 : List Cond := [Cond.instanceMethod yX3_put, Cond.selects RX3 yX3_put yX3_put, Cond.code yX3_put cX3_put 3 (some .int), Cond.methodLink RX3 96 yX1_append, Cond.instanceMethod yX1_append, Cond.selects RX1 yX1_append yX1_append, Cond.code yX1_append cX1_append 5 (some .int), Cond.constantLong RX1 23 (255), Cond.methodLink RX1 19 yX1_countCharacters, Cond.instanceMethod yX1_countCharacters, Cond.selects RX1 yX1_countCharacters yX1_countCharacters, Cond.code yX1_countCharacters cX1_countCharacters 8 (some .int), Cond.constantLong RX1 25 (33), Cond.constantLong RX1 27 (126), Cond.methodLink RL 83 yX4_put, Cond.instanceMethod yX4_put, Cond.selects RX4 yX4_put yX4_put, Cond.code yX4_put cX4_put 8 (some .int), Cond.constantLong RX4 163 (255), Cond.methodLink RL 84 yX3_wipe, Cond.instanceMethod yX3_wipe, Cond.selects RX3 yX3_wipe yX3_wipe, Cond.code yX3_wipe cX3_wipe 1 (some .int), Cond.methodLink RX3 100 yX1_empty]
def wsL_law_r24 : List Cond := [Cond.instanceMethod yX1_empty, Cond.selects RX1 yX1_empty yX1_empty, Cond.code yX1_empty cX1_empty 2 (some .int), Cond.methodLink RL 87 yX4_wipe, Cond.instanceMethod yX4_wipe, Cond.selects RX4 yX4_wipe yX4_wipe, Cond.code yX4_wipe cX4_wipe 2 (some .int), Cond.methodLink RL 88 yX3_fault, Cond.instanceMethod yX3_fault, Cond.selects RX3 yX3_fault yX3_fault, Cond.code yX3_fault cX3_fault 1 (some .int), Cond.methodLink RX3 103 yX1_findFault, Cond.instanceMethod yX1_findFault, Cond.selects RX1 yX1_findFault yX1_findFault, Cond.code yX1_findFault cX1_findFault 3 (some .int), Cond.methodLink RX1 29 yX1_placeBehind, Cond.instanceMethod yX1_placeBehind, Cond.selects RX1 yX1_placeBehind yX1_placeBehind, Cond.code yX1_placeBehind cX1_placeBehind 3 (some .int), Cond.methodLink RX1 33 yX1_placeBehindLetter, Cond.instanceMethod yX1_placeBehindLetter, Cond.selects RX1 yX1_placeBehindLetter yX1_placeBehindLetter, Cond.code yX1_placeBehindLetter cX1_placeBehindLetter 2 (some .int), Cond.methodLink RX1 37 yX1_placeBehindName]
def wsL_law_r25 : List Cond := [Cond.instanceMethod yX1_placeBehindName, Cond.selects RX1 yX1_placeBehindName yX1_placeBehindName, Cond.code yX1_placeBehindName cX1_placeBehindName 4 (some .int), Cond.methodLink RX1 41 yX1_isDigit, Cond.instanceMethod yX1_isDigit, Cond.selects RX1 yX1_isDigit yX1_isDigit, Cond.code yX1_isDigit cX1_isDigit 2 (some .boolean), Cond.methodLink RX1 45 yX1_placeBehindOrder, Cond.instanceMethod yX1_placeBehindOrder, Cond.selects RX1 yX1_placeBehindOrder yX1_placeBehindOrder, Cond.code yX1_placeBehindOrder cX1_placeBehindOrder 2 (some .int), Cond.methodLink RL 91 yX4_fault, Cond.instanceMethod yX4_fault, Cond.selects RX4 yX4_fault yX4_fault, Cond.code yX4_fault cX4_fault 1 (some .int), Cond.methodLink RX4 193 yX4_readPad, Cond.instanceMethod yX4_readPad, Cond.selects RX4 yX4_readPad yX4_readPad, Cond.code yX4_readPad cX4_readPad 2 (some .int), Cond.fieldLink RX4 181 "GenerationNamesModel" "orderMany" "I", Cond.fieldLink RX4 165 "GenerationNamesModel" "spot" "I", Cond.fieldLink RX4 168 "GenerationNamesModel" "wrong" "I", Cond.methodLink RX4 190 yX4_readOrder, Cond.instanceMethod yX4_readOrder]
def wsL_law_r26 : List Cond := [Cond.selects RX4 yX4_readOrder yX4_readOrder, Cond.code yX4_readOrder cX4_readOrder 4 none, Cond.methodLink RX4 171 yX4_letter, Cond.instanceMethod yX4_letter, Cond.selects RX4 yX4_letter yX4_letter, Cond.code yX4_letter cX4_letter 1 (some .int), Cond.methodLink RX4 174 yX4_wants, Cond.instanceMethod yX4_wants, Cond.selects RX4 yX4_wants yX4_wants, Cond.code yX4_wants cX4_wants 2 none, Cond.methodLink RX4 178 yX4_digit, Cond.instanceMethod yX4_digit, Cond.selects RX4 yX4_digit yX4_digit, Cond.code yX4_digit cX4_digit 4 (some .int), Cond.methodLink RX4 184 yX4_name, Cond.instanceMethod yX4_name, Cond.selects RX4 yX4_name yX4_name, Cond.code yX4_name cX4_name 2 (some .int), Cond.methodLink RX4 187 yX4_number, Cond.instanceMethod yX4_number, Cond.selects RX4 yX4_number yX4_number, Cond.code yX4_number cX4_number 3 (some .int), Cond.methodLink RL 92 yX3_carryOut, Cond.instanceMethod yX3_carryOut]
def wsL_law_r27 : List Cond := [Cond.selects RX3 yX3_carryOut yX3_carryOut, Cond.code yX3_carryOut cX3_carryOut 2 (some .int), Cond.methodLink RX3 106 yX3_carryOutOrders, Cond.instanceMethod yX3_carryOutOrders, Cond.selects RX3 yX3_carryOutOrders yX3_carryOutOrders, Cond.code yX3_carryOutOrders cX3_carryOutOrders 3 (some .int), Cond.methodLink RX3 126 yX1_startsOrder, Cond.instanceMethod yX1_startsOrder, Cond.selects RX1 yX1_startsOrder yX1_startsOrder, Cond.code yX1_startsOrder cX1_startsOrder 2 (some .boolean), Cond.methodLink RX1 48 yX1_sign, Cond.instanceMethod yX1_sign, Cond.selects RX1 yX1_sign yX1_sign, Cond.code yX1_sign cX1_sign 2 (some .int), Cond.methodLink RX3 129 yX3_carryOutOrder, Cond.instanceMethod yX3_carryOutOrder, Cond.selects RX3 yX3_carryOutOrder yX3_carryOutOrder, Cond.code yX3_carryOutOrder cX3_carryOutOrder 2 (some .int), Cond.methodLink RX3 132 yX1_sign, Cond.methodLink RX3 135 yX1_groupOfOrder, Cond.instanceMethod yX1_groupOfOrder, Cond.selects RX1 yX1_groupOfOrder yX1_groupOfOrder, Cond.code yX1_groupOfOrder cX1_groupOfOrder 2 (some .int), Cond.methodLink RX3 138 yX1_nameOfOrder]
def wsL_law_r28 : List Cond := [Cond.instanceMethod yX1_nameOfOrder, Cond.selects RX1 yX1_nameOfOrder yX1_nameOfOrder, Cond.code yX1_nameOfOrder cX1_nameOfOrder 2 (some .int), Cond.methodLink RX3 141 yX1_dataOfOrder, Cond.instanceMethod yX1_dataOfOrder, Cond.selects RX1 yX1_dataOfOrder yX1_dataOfOrder, Cond.code yX1_dataOfOrder cX1_dataOfOrder 5 (some .int), Cond.methodLink RL 95 yX4_carryOut, Cond.instanceMethod yX4_carryOut, Cond.selects RX4 yX4_carryOut yX4_carryOut, Cond.code yX4_carryOut cX4_carryOut 2 (some .int), Cond.methodLink RX4 196 yX4_can, Cond.instanceMethod yX4_can, Cond.selects RX4 yX4_can yX4_can, Cond.code yX4_can cX4_can 4 (some .boolean), Cond.methodLink RX4 199 yX4_act, Cond.instanceMethod yX4_act, Cond.selects RX4 yX4_act yX4_act, Cond.code yX4_act cX4_act 5 none, Cond.methodLink RL 96 yX3_undo, Cond.instanceMethod yX3_undo, Cond.selects RX3 yX3_undo yX3_undo, Cond.code yX3_undo cX3_undo 1 (some .int), Cond.methodLink RL 99 yX4_undo]
def wsL_law_r29 : List Cond := [Cond.instanceMethod yX4_undo, Cond.selects RX4 yX4_undo yX4_undo, Cond.code yX4_undo cX4_undo 2 (some .int), Cond.methodLink RL 100 yX3_save, Cond.instanceMethod yX3_save, Cond.selects RX3 yX3_save yX3_save, Cond.code yX3_save cX3_save 2 (some .int), Cond.methodLink RX3 113 yX3_isSlot, Cond.static yX3_isSlot, Cond.code yX3_isSlot cX3_isSlot 1 (some .boolean), Cond.methodLink RX3 117 yX2_countThere, Cond.methodLink RL 103 yX4_save, Cond.instanceMethod yX4_save, Cond.selects RX4 yX4_save yX4_save, Cond.code yX4_save cX4_save 3 (some .int), Cond.methodLink RL 104 yX3_restore, Cond.instanceMethod yX3_restore, Cond.selects RX3 yX3_restore yX3_restore, Cond.code yX3_restore cX3_restore 2 (some .int), Cond.methodLink RL 107 yX4_restore, Cond.instanceMethod yX4_restore, Cond.selects RX4 yX4_restore yX4_restore, Cond.code yX4_restore cX4_restore 3 (some .int)]
def wsL_law : List Cond := (wsL_law_r1 ++ (wsL_law_r2 ++ (wsL_law_r3 ++ (wsL_law_r4 ++ (wsL_law_r5 ++ (wsL_law_r6 ++ (wsL_law_r7 ++ (wsL_law_r8 ++ (wsL_law_r9 ++ (wsL_law_r10 ++ (wsL_law_r11 ++ (wsL_law_r12 ++ (wsL_law_r13 ++ (wsL_law_r14 ++ (wsL_law_r15 ++ (wsL_law_r16 ++ (wsL_law_r17 ++ (wsL_law_r18 ++ (wsL_law_r19 ++ (wsL_law_r20 ++ (wsL_law_r21 ++ (wsL_law_r22 ++ (wsL_law_r23 ++ (wsL_law_r24 ++ (wsL_law_r25 ++ (wsL_law_r26 ++ (wsL_law_r27 ++ (wsL_law_r28 ++ wsL_law_r29)))))))))))))))))))))))))))) ++ wsX30 ++ wsX40 ++ wsX20 ++ wsX10 ++ wsX00 ++ ([] : List Cond)
abbrev vwCl : List vw_C := [(RX0, TX0, 10), (RX1, TX1, 2), (RX2, TX2, 7), (RX3, TX3, 6), (RX4, TX4, 12)]
end
section
theorem dX0_init_0 : decode cX0_init 0 = .ok (.aload_n 0, 1) := by decide +kernel
theorem dX0_init_1 : decode cX0_init 1 = .ok (.invokespecial 3, 3) := by decide +kernel
theorem dX0_init_4 : decode cX0_init 4 = .ok (.aload_n 0, 1) := by decide +kernel
theorem dX0_init_5 : decode cX0_init 5 = .ok (.iconst 3, 1) := by decide +kernel
theorem dX0_init_6 : decode cX0_init 6 = .ok (.putfield 9, 3) := by decide +kernel
theorem dX0_init_9 : decode cX0_init 9 = .ok (.aload_n 0, 1) := by decide +kernel
theorem dX0_init_10 : decode cX0_init 10 = .ok (.iconst 0, 1) := by decide +kernel
theorem dX0_init_11 : decode cX0_init 11 = .ok (.putfield 15, 3) := by decide +kernel
theorem dX0_init_14 : decode cX0_init 14 = .ok (.aload_n 0, 1) := by decide +kernel
theorem dX0_init_15 : decode cX0_init 15 = .ok (.iconst 0, 1) := by decide +kernel
theorem dX0_init_16 : decode cX0_init 16 = .ok (.putfield 18, 3) := by decide +kernel
theorem dX0_init_19 : decode cX0_init 19 = .ok (.aload_n 0, 1) := by decide +kernel
theorem dX0_init_20 : decode cX0_init 20 = .ok (.iconst 0, 1) := by decide +kernel
theorem dX0_init_21 : decode cX0_init 21 = .ok (.putfield 21, 3) := by decide +kernel
theorem dX0_init_24 : decode cX0_init 24 = .ok (.aload_n 0, 1) := by decide +kernel
theorem dX0_init_25 : decode cX0_init 25 = .ok (.iconst 0, 1) := by decide +kernel
theorem dX0_init_26 : decode cX0_init 26 = .ok (.putfield 24, 3) := by decide +kernel
theorem dX0_init_29 : decode cX0_init 29 = .ok (.aload_n 0, 1) := by decide +kernel
theorem dX0_init_30 : decode cX0_init 30 = .ok (.iconst 0, 1) := by decide +kernel
theorem dX0_init_31 : decode cX0_init 31 = .ok (.putfield 27, 3) := by decide +kernel
theorem dX0_init_34 : decode cX0_init 34 = .ok (.aload_n 0, 1) := by decide +kernel
theorem dX0_init_35 : decode cX0_init 35 = .ok (.iconst 0, 1) := by decide +kernel
theorem dX0_init_36 : decode cX0_init 36 = .ok (.putfield 30, 3) := by decide +kernel
theorem dX0_init_39 : decode cX0_init 39 = .ok (.aload_n 0, 1) := by decide +kernel
theorem dX0_init_40 : decode cX0_init 40 = .ok (.bipush 8, 2) := by decide +kernel
theorem dX0_init_42 : decode cX0_init 42 = .ok (.newarray .int, 2) := by decide +kernel
theorem dX0_init_44 : decode cX0_init 44 = .ok (.putfield 33, 3) := by decide +kernel
theorem dX0_init_47 : decode cX0_init 47 = .ok (.aload_n 0, 1) := by decide +kernel
theorem dX0_init_48 : decode cX0_init 48 = .ok (.bipush 8, 2) := by decide +kernel
theorem dX0_init_50 : decode cX0_init 50 = .ok (.newarray .int, 2) := by decide +kernel
theorem dX0_init_52 : decode cX0_init 52 = .ok (.putfield 37, 3) := by decide +kernel
theorem dX0_init_55 : decode cX0_init 55 = .ok (.aload_n 0, 1) := by decide +kernel
theorem dX0_init_56 : decode cX0_init 56 = .ok (.bipush 8, 2) := by decide +kernel
theorem dX0_init_58 : decode cX0_init 58 = .ok (.newarray .int, 2) := by decide +kernel
theorem dX0_init_60 : decode cX0_init 60 = .ok (.putfield 40, 3) := by decide +kernel
theorem dX0_init_63 : decode cX0_init 63 = .ok (.return_, 1) := by decide +kernel
theorem dX0_copyFrom_0 : decode cX0_copyFrom 0 = .ok (.aload_n 0, 1) := by decide +kernel
theorem dX0_copyFrom_1 : decode cX0_copyFrom 1 = .ok (.aload_n 1, 1) := by decide +kernel
theorem dX0_copyFrom_2 : decode cX0_copyFrom 2 = .ok (.getfield 9, 3) := by decide +kernel
theorem dX0_copyFrom_5 : decode cX0_copyFrom 5 = .ok (.putfield 9, 3) := by decide +kernel
theorem dX0_copyFrom_8 : decode cX0_copyFrom 8 = .ok (.aload_n 0, 1) := by decide +kernel
theorem dX0_copyFrom_9 : decode cX0_copyFrom 9 = .ok (.aload_n 1, 1) := by decide +kernel
theorem dX0_copyFrom_10 : decode cX0_copyFrom 10 = .ok (.getfield 15, 3) := by decide +kernel
theorem dX0_copyFrom_13 : decode cX0_copyFrom 13 = .ok (.putfield 15, 3) := by decide +kernel
theorem dX0_copyFrom_16 : decode cX0_copyFrom 16 = .ok (.aload_n 0, 1) := by decide +kernel
theorem dX0_copyFrom_17 : decode cX0_copyFrom 17 = .ok (.aload_n 1, 1) := by decide +kernel
theorem dX0_copyFrom_18 : decode cX0_copyFrom 18 = .ok (.getfield 18, 3) := by decide +kernel
theorem dX0_copyFrom_21 : decode cX0_copyFrom 21 = .ok (.putfield 18, 3) := by decide +kernel
theorem dX0_copyFrom_24 : decode cX0_copyFrom 24 = .ok (.aload_n 0, 1) := by decide +kernel
theorem dX0_copyFrom_25 : decode cX0_copyFrom 25 = .ok (.aload_n 1, 1) := by decide +kernel
theorem dX0_copyFrom_26 : decode cX0_copyFrom 26 = .ok (.getfield 21, 3) := by decide +kernel
theorem dX0_copyFrom_29 : decode cX0_copyFrom 29 = .ok (.putfield 21, 3) := by decide +kernel
theorem dX0_copyFrom_32 : decode cX0_copyFrom 32 = .ok (.aload_n 0, 1) := by decide +kernel
theorem dX0_copyFrom_33 : decode cX0_copyFrom 33 = .ok (.aload_n 1, 1) := by decide +kernel
theorem dX0_copyFrom_34 : decode cX0_copyFrom 34 = .ok (.getfield 24, 3) := by decide +kernel
theorem dX0_copyFrom_37 : decode cX0_copyFrom 37 = .ok (.putfield 24, 3) := by decide +kernel
theorem dX0_copyFrom_40 : decode cX0_copyFrom 40 = .ok (.aload_n 0, 1) := by decide +kernel
theorem dX0_copyFrom_41 : decode cX0_copyFrom 41 = .ok (.aload_n 1, 1) := by decide +kernel
theorem dX0_copyFrom_42 : decode cX0_copyFrom 42 = .ok (.getfield 27, 3) := by decide +kernel
theorem dX0_copyFrom_45 : decode cX0_copyFrom 45 = .ok (.putfield 27, 3) := by decide +kernel
theorem dX0_copyFrom_48 : decode cX0_copyFrom 48 = .ok (.aload_n 0, 1) := by decide +kernel
theorem dX0_copyFrom_49 : decode cX0_copyFrom 49 = .ok (.aload_n 1, 1) := by decide +kernel
theorem dX0_copyFrom_50 : decode cX0_copyFrom 50 = .ok (.getfield 30, 3) := by decide +kernel
theorem dX0_copyFrom_53 : decode cX0_copyFrom 53 = .ok (.putfield 30, 3) := by decide +kernel
theorem dX0_copyFrom_56 : decode cX0_copyFrom 56 = .ok (.aload_n 1, 1) := by decide +kernel
theorem dX0_copyFrom_57 : decode cX0_copyFrom 57 = .ok (.getfield 33, 3) := by decide +kernel
theorem dX0_copyFrom_60 : decode cX0_copyFrom 60 = .ok (.iconst 0, 1) := by decide +kernel
theorem dX0_copyFrom_61 : decode cX0_copyFrom 61 = .ok (.aload_n 0, 1) := by decide +kernel
theorem dX0_copyFrom_62 : decode cX0_copyFrom 62 = .ok (.getfield 33, 3) := by decide +kernel
theorem dX0_copyFrom_65 : decode cX0_copyFrom 65 = .ok (.iconst 0, 1) := by decide +kernel
theorem dX0_copyFrom_66 : decode cX0_copyFrom 66 = .ok (.bipush 8, 2) := by decide +kernel
theorem dX0_copyFrom_68 : decode cX0_copyFrom 68 = .ok (.invokestatic 43, 3) := by decide +kernel
theorem dX0_copyFrom_71 : decode cX0_copyFrom 71 = .ok (.aload_n 1, 1) := by decide +kernel
theorem dX0_copyFrom_72 : decode cX0_copyFrom 72 = .ok (.getfield 37, 3) := by decide +kernel
theorem dX0_copyFrom_75 : decode cX0_copyFrom 75 = .ok (.iconst 0, 1) := by decide +kernel
theorem dX0_copyFrom_76 : decode cX0_copyFrom 76 = .ok (.aload_n 0, 1) := by decide +kernel
theorem dX0_copyFrom_77 : decode cX0_copyFrom 77 = .ok (.getfield 37, 3) := by decide +kernel
theorem dX0_copyFrom_80 : decode cX0_copyFrom 80 = .ok (.iconst 0, 1) := by decide +kernel
theorem dX0_copyFrom_81 : decode cX0_copyFrom 81 = .ok (.bipush 8, 2) := by decide +kernel
theorem dX0_copyFrom_83 : decode cX0_copyFrom 83 = .ok (.invokestatic 43, 3) := by decide +kernel
theorem dX0_copyFrom_86 : decode cX0_copyFrom 86 = .ok (.aload_n 1, 1) := by decide +kernel
theorem dX0_copyFrom_87 : decode cX0_copyFrom 87 = .ok (.getfield 40, 3) := by decide +kernel
theorem dX0_copyFrom_90 : decode cX0_copyFrom 90 = .ok (.iconst 0, 1) := by decide +kernel
theorem dX0_copyFrom_91 : decode cX0_copyFrom 91 = .ok (.aload_n 0, 1) := by decide +kernel
theorem dX0_copyFrom_92 : decode cX0_copyFrom 92 = .ok (.getfield 40, 3) := by decide +kernel
theorem dX0_copyFrom_95 : decode cX0_copyFrom 95 = .ok (.iconst 0, 1) := by decide +kernel
theorem dX0_copyFrom_96 : decode cX0_copyFrom 96 = .ok (.bipush 8, 2) := by decide +kernel
theorem dX0_copyFrom_98 : decode cX0_copyFrom 98 = .ok (.invokestatic 43, 3) := by decide +kernel
theorem dX0_copyFrom_101 : decode cX0_copyFrom 101 = .ok (.return_, 1) := by decide +kernel
theorem dX0_numberOf_0 : decode cX0_numberOf 0 = .ok (.iload_n 1, 1) := by decide +kernel
theorem dX0_numberOf_1 : decode cX0_numberOf 1 = .ok (.iconst 1, 1) := by decide +kernel
theorem dX0_numberOf_2 : decode cX0_numberOf 2 = .ok (.if_icmp .ge 7, 3) := by decide +kernel
theorem dX0_numberOf_5 : decode cX0_numberOf 5 = .ok (.iconst 0, 1) := by decide +kernel
theorem dX0_numberOf_6 : decode cX0_numberOf 6 = .ok (.goto 11, 3) := by decide +kernel
theorem dX0_numberOf_9 : decode cX0_numberOf 9 = .ok (.iload_n 1, 1) := by decide +kernel
theorem dX0_numberOf_10 : decode cX0_numberOf 10 = .ok (.iconst 1, 1) := by decide +kernel
theorem dX0_numberOf_11 : decode cX0_numberOf 11 = .ok (.isub, 1) := by decide +kernel
theorem dX0_numberOf_12 : decode cX0_numberOf 12 = .ok (.bipush 99, 2) := by decide +kernel
theorem dX0_numberOf_14 : decode cX0_numberOf 14 = .ok (.irem, 1) := by decide +kernel
theorem dX0_numberOf_15 : decode cX0_numberOf 15 = .ok (.iconst 1, 1) := by decide +kernel
theorem dX0_numberOf_16 : decode cX0_numberOf 16 = .ok (.iadd, 1) := by decide +kernel
theorem dX0_numberOf_17 : decode cX0_numberOf 17 = .ok (.ireturn, 1) := by decide +kernel
theorem dX0_oldest_0 : decode cX0_oldest 0 = .ok (.aload_n 0, 1) := by decide +kernel
theorem dX0_oldest_1 : decode cX0_oldest 1 = .ok (.getfield 15, 3) := by decide +kernel
theorem dX0_oldest_4 : decode cX0_oldest 4 = .ok (.aload_n 0, 1) := by decide +kernel
theorem dX0_oldest_5 : decode cX0_oldest 5 = .ok (.getfield 18, 3) := by decide +kernel
theorem dX0_oldest_8 : decode cX0_oldest 8 = .ok (.isub, 1) := by decide +kernel
theorem dX0_oldest_9 : decode cX0_oldest 9 = .ok (.iconst 1, 1) := by decide +kernel
theorem dX0_oldest_10 : decode cX0_oldest 10 = .ok (.iadd, 1) := by decide +kernel
theorem dX0_oldest_11 : decode cX0_oldest 11 = .ok (.ireturn, 1) := by decide +kernel
theorem dX0_isHole_0 : decode cX0_isHole 0 = .ok (.aload_n 0, 1) := by decide +kernel
theorem dX0_isHole_1 : decode cX0_isHole 1 = .ok (.getfield 33, 3) := by decide +kernel
theorem dX0_isHole_4 : decode cX0_isHole 4 = .ok (.iload_n 1, 1) := by decide +kernel
theorem dX0_isHole_5 : decode cX0_isHole 5 = .ok (.bipush 7, 2) := by decide +kernel
theorem dX0_isHole_7 : decode cX0_isHole 7 = .ok (.iand, 1) := by decide +kernel
theorem dX0_isHole_8 : decode cX0_isHole 8 = .ok (.iaload, 1) := by decide +kernel
theorem dX0_isHole_9 : decode cX0_isHole 9 = .ok (.bipush (-6), 2) := by decide +kernel
theorem dX0_isHole_11 : decode cX0_isHole 11 = .ok (.if_icmp .ne 7, 3) := by decide +kernel
theorem dX0_isHole_14 : decode cX0_isHole 14 = .ok (.iconst 1, 1) := by decide +kernel
theorem dX0_isHole_15 : decode cX0_isHole 15 = .ok (.goto 4, 3) := by decide +kernel
theorem dX0_isHole_18 : decode cX0_isHole 18 = .ok (.iconst 0, 1) := by decide +kernel
theorem dX0_isHole_19 : decode cX0_isHole 19 = .ok (.ireturn, 1) := by decide +kernel
set_option maxRecDepth 20000 in
theorem ggX0_isThere_X0_oldest : GoodIn wsX0_isThere wsX0_oldest := goodIn_r _ [6, 1, 7, 13, 14, 15, 16, 17, 18, 19, 20, 21, 22] (by decide +kernel) (by decide +kernel)
set_option maxRecDepth 20000 in
theorem gX0_isThere_X0_oldest : GoodIn wsX0_isThere (wsV RX0 49 RX0 yX0_oldest wsX0_oldest) := goodIn_app (goodIn_of _ (by decide +kernel)) ggX0_isThere_X0_oldest
set_option maxRecDepth 20000 in
theorem ggX0_isThere_X0_isHole : GoodIn wsX0_isThere wsX0_isHole := goodIn_r _ [11, 12, 13, 14, 15, 16, 17, 18, 19, 20, 21, 22] (by decide +kernel) (by decide +kernel)
set_option maxRecDepth 20000 in
theorem gX0_isThere_X0_isHole : GoodIn wsX0_isThere (wsV RX0 53 RX0 yX0_isHole wsX0_isHole) := goodIn_app (goodIn_of _ (by decide +kernel)) ggX0_isThere_X0_isHole
theorem dX0_isThere_0 : decode cX0_isThere 0 = .ok (.iload_n 1, 1) := by decide +kernel
theorem dX0_isThere_1 : decode cX0_isThere 1 = .ok (.aload_n 0, 1) := by decide +kernel
theorem dX0_isThere_2 : decode cX0_isThere 2 = .ok (.invokevirtual 49, 3) := by decide +kernel
theorem dX0_isThere_5 : decode cX0_isThere 5 = .ok (.if_icmp .lt 23, 3) := by decide +kernel
theorem dX0_isThere_8 : decode cX0_isThere 8 = .ok (.iload_n 1, 1) := by decide +kernel
theorem dX0_isThere_9 : decode cX0_isThere 9 = .ok (.aload_n 0, 1) := by decide +kernel
theorem dX0_isThere_10 : decode cX0_isThere 10 = .ok (.getfield 15, 3) := by decide +kernel
theorem dX0_isThere_13 : decode cX0_isThere 13 = .ok (.if_icmp .gt 15, 3) := by decide +kernel
theorem dX0_isThere_16 : decode cX0_isThere 16 = .ok (.aload_n 0, 1) := by decide +kernel
theorem dX0_isThere_17 : decode cX0_isThere 17 = .ok (.iload_n 1, 1) := by decide +kernel
theorem dX0_isThere_18 : decode cX0_isThere 18 = .ok (.invokevirtual 53, 3) := by decide +kernel
theorem dX0_isThere_21 : decode cX0_isThere 21 = .ok (.ifCond .ne 7, 3) := by decide +kernel
theorem dX0_isThere_24 : decode cX0_isThere 24 = .ok (.iconst 1, 1) := by decide +kernel
theorem dX0_isThere_25 : decode cX0_isThere 25 = .ok (.goto 4, 3) := by decide +kernel
theorem dX0_isThere_28 : decode cX0_isThere 28 = .ok (.iconst 0, 1) := by decide +kernel
theorem dX0_isThere_29 : decode cX0_isThere 29 = .ok (.ireturn, 1) := by decide +kernel
set_option maxRecDepth 20000 in
theorem ggX0_numberIfThere_X0_isThere : GoodIn wsX0_numberIfThere wsX0_isThere := goodIn_r _ [5, 6, 7, 8, 9, 4, 10, 11, 12, 13, 14, 15, 16, 21, 22, 23, 24, 25, 26, 27, 28, 29, 30] (by decide +kernel) (by decide +kernel)
set_option maxRecDepth 20000 in
theorem gX0_numberIfThere_X0_isThere : GoodIn wsX0_numberIfThere (wsV RX0 57 RX0 yX0_isThere wsX0_isThere) := goodIn_app (goodIn_of _ (by decide +kernel)) ggX0_numberIfThere_X0_isThere
set_option maxRecDepth 20000 in
theorem ggX0_numberIfThere_X0_numberOf : GoodIn wsX0_numberIfThere wsX0_numberOf := goodIn_r _ [20] (by decide +kernel) (by decide +kernel)
set_option maxRecDepth 20000 in
theorem gX0_numberIfThere_X0_numberOf : GoodIn wsX0_numberIfThere (wsV RX0 60 RX0 yX0_numberOf wsX0_numberOf) := goodIn_app (goodIn_of _ (by decide +kernel)) ggX0_numberIfThere_X0_numberOf
theorem dX0_numberIfThere_0 : decode cX0_numberIfThere 0 = .ok (.aload_n 0, 1) := by decide +kernel
theorem dX0_numberIfThere_1 : decode cX0_numberIfThere 1 = .ok (.iload_n 1, 1) := by decide +kernel
theorem dX0_numberIfThere_2 : decode cX0_numberIfThere 2 = .ok (.invokevirtual 57, 3) := by decide +kernel
theorem dX0_numberIfThere_5 : decode cX0_numberIfThere 5 = .ok (.ifCond .eq 11, 3) := by decide +kernel
theorem dX0_numberIfThere_8 : decode cX0_numberIfThere 8 = .ok (.aload_n 0, 1) := by decide +kernel
theorem dX0_numberIfThere_9 : decode cX0_numberIfThere 9 = .ok (.iload_n 1, 1) := by decide +kernel
theorem dX0_numberIfThere_10 : decode cX0_numberIfThere 10 = .ok (.invokevirtual 60, 3) := by decide +kernel
theorem dX0_numberIfThere_13 : decode cX0_numberIfThere 13 = .ok (.goto 5, 3) := by decide +kernel
theorem dX0_numberIfThere_16 : decode cX0_numberIfThere 16 = .ok (.bipush (-6), 2) := by decide +kernel
theorem dX0_numberIfThere_18 : decode cX0_numberIfThere 18 = .ok (.ireturn, 1) := by decide +kernel
theorem dX0_serialOf_0 : decode cX0_serialOf 0 = .ok (.iload_n 1, 1) := by decide +kernel
theorem dX0_serialOf_1 : decode cX0_serialOf 1 = .ok (.iconst 1, 1) := by decide +kernel
theorem dX0_serialOf_2 : decode cX0_serialOf 2 = .ok (.if_icmp .ne 16, 3) := by decide +kernel
theorem dX0_serialOf_5 : decode cX0_serialOf 5 = .ok (.iload_n 2, 1) := by decide +kernel
theorem dX0_serialOf_6 : decode cX0_serialOf 6 = .ok (.ifCond .eq 10, 3) := by decide +kernel
theorem dX0_serialOf_9 : decode cX0_serialOf 9 = .ok (.aload_n 0, 1) := by decide +kernel
theorem dX0_serialOf_10 : decode cX0_serialOf 10 = .ok (.getfield 30, 3) := by decide +kernel
theorem dX0_serialOf_13 : decode cX0_serialOf 13 = .ok (.goto 4, 3) := by decide +kernel
theorem dX0_serialOf_16 : decode cX0_serialOf 16 = .ok (.iconst 0, 1) := by decide +kernel
theorem dX0_serialOf_17 : decode cX0_serialOf 17 = .ok (.ireturn, 1) := by decide +kernel
theorem dX0_serialOf_18 : decode cX0_serialOf 18 = .ok (.iload_n 2, 1) := by decide +kernel
theorem dX0_serialOf_19 : decode cX0_serialOf 19 = .ok (.ifCond .eq 10, 3) := by decide +kernel
theorem dX0_serialOf_22 : decode cX0_serialOf 22 = .ok (.aload_n 0, 1) := by decide +kernel
theorem dX0_serialOf_23 : decode cX0_serialOf 23 = .ok (.getfield 27, 3) := by decide +kernel
theorem dX0_serialOf_26 : decode cX0_serialOf 26 = .ok (.goto 7, 3) := by decide +kernel
theorem dX0_serialOf_29 : decode cX0_serialOf 29 = .ok (.aload_n 0, 1) := by decide +kernel
theorem dX0_serialOf_30 : decode cX0_serialOf 30 = .ok (.getfield 15, 3) := by decide +kernel
theorem dX0_serialOf_33 : decode cX0_serialOf 33 = .ok (.iload_n 1, 1) := by decide +kernel
theorem dX0_serialOf_34 : decode cX0_serialOf 34 = .ok (.iadd, 1) := by decide +kernel
theorem dX0_serialOf_35 : decode cX0_serialOf 35 = .ok (.ireturn, 1) := by decide +kernel
theorem dX0_nameForJob_0 : decode cX0_nameForJob 0 = .ok (.iload_n 1, 1) := by decide +kernel
theorem dX0_nameForJob_1 : decode cX0_nameForJob 1 = .ok (.aload_n 0, 1) := by decide +kernel
theorem dX0_nameForJob_2 : decode cX0_nameForJob 2 = .ok (.getfield 30, 3) := by decide +kernel
theorem dX0_nameForJob_5 : decode cX0_nameForJob 5 = .ok (.if_icmp .ne 6, 3) := by decide +kernel
theorem dX0_nameForJob_8 : decode cX0_nameForJob 8 = .ok (.bipush 11, 2) := by decide +kernel
theorem dX0_nameForJob_10 : decode cX0_nameForJob 10 = .ok (.ireturn, 1) := by decide +kernel
theorem dX0_nameForJob_11 : decode cX0_nameForJob 11 = .ok (.iload_n 1, 1) := by decide +kernel
theorem dX0_nameForJob_12 : decode cX0_nameForJob 12 = .ok (.aload_n 0, 1) := by decide +kernel
theorem dX0_nameForJob_13 : decode cX0_nameForJob 13 = .ok (.getfield 27, 3) := by decide +kernel
theorem dX0_nameForJob_16 : decode cX0_nameForJob 16 = .ok (.isub, 1) := by decide +kernel
theorem dX0_nameForJob_17 : decode cX0_nameForJob 17 = .ok (.istore_n 2, 1) := by decide +kernel
theorem dX0_nameForJob_18 : decode cX0_nameForJob 18 = .ok (.iload_n 2, 1) := by decide +kernel
theorem dX0_nameForJob_19 : decode cX0_nameForJob 19 = .ok (.bipush (-7), 2) := by decide +kernel
theorem dX0_nameForJob_21 : decode cX0_nameForJob 21 = .ok (.if_icmp .lt 14, 3) := by decide +kernel
theorem dX0_nameForJob_24 : decode cX0_nameForJob 24 = .ok (.iload_n 2, 1) := by decide +kernel
theorem dX0_nameForJob_25 : decode cX0_nameForJob 25 = .ok (.ifCond .gt 10, 3) := by decide +kernel
theorem dX0_nameForJob_28 : decode cX0_nameForJob 28 = .ok (.iload_n 2, 1) := by decide +kernel
theorem dX0_nameForJob_29 : decode cX0_nameForJob 29 = .ok (.bipush 10, 2) := by decide +kernel
theorem dX0_nameForJob_31 : decode cX0_nameForJob 31 = .ok (.iadd, 1) := by decide +kernel
theorem dX0_nameForJob_32 : decode cX0_nameForJob 32 = .ok (.goto 5, 3) := by decide +kernel
theorem dX0_nameForJob_35 : decode cX0_nameForJob 35 = .ok (.bipush (-6), 2) := by decide +kernel
theorem dX0_nameForJob_37 : decode cX0_nameForJob 37 = .ok (.ireturn, 1) := by decide +kernel
set_option maxRecDepth 20000 in
theorem ggX0_make_X0_leaveMost : GoodIn wsX0_make wsX0_leaveMost := goodIn_r _ [12, 3, 13, 14, 15, 16, 11, 17, 2, 18, 19, 20, 21, 4, 22, 23, 24, 25, 26, 27, 28, 29, 30, 31] (by decide +kernel) (by decide +kernel)
set_option maxRecDepth 20000 in
theorem gX0_make_X0_leaveMost : GoodIn wsX0_make (wsV RX0 64 RX0 yX0_leaveMost wsX0_leaveMost) := goodIn_app (goodIn_of _ (by decide +kernel)) ggX0_make_X0_leaveMost
theorem dX0_make_0 : decode cX0_make 0 = .ok (.aload_n 0, 1) := by decide +kernel
theorem dX0_make_1 : decode cX0_make 1 = .ok (.aload_n 0, 1) := by decide +kernel
theorem dX0_make_2 : decode cX0_make 2 = .ok (.getfield 9, 3) := by decide +kernel
theorem dX0_make_5 : decode cX0_make 5 = .ok (.iconst 1, 1) := by decide +kernel
theorem dX0_make_6 : decode cX0_make 6 = .ok (.isub, 1) := by decide +kernel
theorem dX0_make_7 : decode cX0_make 7 = .ok (.invokevirtual 64, 3) := by decide +kernel
theorem dX0_make_10 : decode cX0_make 10 = .ok (.aload_n 0, 1) := by decide +kernel
theorem dX0_make_11 : decode cX0_make 11 = .ok (.dup, 1) := by decide +kernel
theorem dX0_make_12 : decode cX0_make 12 = .ok (.getfield 15, 3) := by decide +kernel
theorem dX0_make_15 : decode cX0_make 15 = .ok (.iconst 1, 1) := by decide +kernel
theorem dX0_make_16 : decode cX0_make 16 = .ok (.iadd, 1) := by decide +kernel
theorem dX0_make_17 : decode cX0_make 17 = .ok (.putfield 15, 3) := by decide +kernel
theorem dX0_make_20 : decode cX0_make 20 = .ok (.aload_n 0, 1) := by decide +kernel
theorem dX0_make_21 : decode cX0_make 21 = .ok (.dup, 1) := by decide +kernel
theorem dX0_make_22 : decode cX0_make 22 = .ok (.getfield 18, 3) := by decide +kernel
theorem dX0_make_25 : decode cX0_make 25 = .ok (.iconst 1, 1) := by decide +kernel
theorem dX0_make_26 : decode cX0_make 26 = .ok (.iadd, 1) := by decide +kernel
theorem dX0_make_27 : decode cX0_make 27 = .ok (.putfield 18, 3) := by decide +kernel
theorem dX0_make_30 : decode cX0_make 30 = .ok (.aload_n 0, 1) := by decide +kernel
theorem dX0_make_31 : decode cX0_make 31 = .ok (.getfield 15, 3) := by decide +kernel
theorem dX0_make_34 : decode cX0_make 34 = .ok (.bipush 7, 2) := by decide +kernel
theorem dX0_make_36 : decode cX0_make 36 = .ok (.iand, 1) := by decide +kernel
theorem dX0_make_37 : decode cX0_make 37 = .ok (.istore_n 3, 1) := by decide +kernel
theorem dX0_make_38 : decode cX0_make 38 = .ok (.aload_n 0, 1) := by decide +kernel
theorem dX0_make_39 : decode cX0_make 39 = .ok (.getfield 33, 3) := by decide +kernel
theorem dX0_make_42 : decode cX0_make 42 = .ok (.iload_n 3, 1) := by decide +kernel
theorem dX0_make_43 : decode cX0_make 43 = .ok (.iload_n 1, 1) := by decide +kernel
theorem dX0_make_44 : decode cX0_make 44 = .ok (.iastore, 1) := by decide +kernel
theorem dX0_make_45 : decode cX0_make 45 = .ok (.aload_n 0, 1) := by decide +kernel
theorem dX0_make_46 : decode cX0_make 46 = .ok (.getfield 37, 3) := by decide +kernel
theorem dX0_make_49 : decode cX0_make 49 = .ok (.iload_n 3, 1) := by decide +kernel
theorem dX0_make_50 : decode cX0_make 50 = .ok (.iconst 0, 1) := by decide +kernel
theorem dX0_make_51 : decode cX0_make 51 = .ok (.iastore, 1) := by decide +kernel
theorem dX0_make_52 : decode cX0_make 52 = .ok (.aload_n 0, 1) := by decide +kernel
theorem dX0_make_53 : decode cX0_make 53 = .ok (.getfield 40, 3) := by decide +kernel
theorem dX0_make_56 : decode cX0_make 56 = .ok (.iload_n 3, 1) := by decide +kernel
theorem dX0_make_57 : decode cX0_make 57 = .ok (.iload_n 2, 1) := by decide +kernel
theorem dX0_make_58 : decode cX0_make 58 = .ok (.iastore, 1) := by decide +kernel
theorem dX0_make_59 : decode cX0_make 59 = .ok (.aload_n 0, 1) := by decide +kernel
theorem dX0_make_60 : decode cX0_make 60 = .ok (.aload_n 0, 1) := by decide +kernel
theorem dX0_make_61 : decode cX0_make 61 = .ok (.getfield 15, 3) := by decide +kernel
theorem dX0_make_64 : decode cX0_make 64 = .ok (.putfield 30, 3) := by decide +kernel
theorem dX0_make_67 : decode cX0_make 67 = .ok (.aload_n 0, 1) := by decide +kernel
theorem dX0_make_68 : decode cX0_make 68 = .ok (.getfield 15, 3) := by decide +kernel
theorem dX0_make_71 : decode cX0_make 71 = .ok (.ireturn, 1) := by decide +kernel
set_option maxRecDepth 20000 in
theorem ggX0_leaveMost_X0_oldest : GoodIn wsX0_leaveMost wsX0_oldest := goodIn_r _ [7, 8, 1, 14, 15, 16, 17, 18, 19, 20, 21, 22, 23] (by decide +kernel) (by decide +kernel)
set_option maxRecDepth 20000 in
theorem gX0_leaveMost_X0_oldest : GoodIn wsX0_leaveMost (wsV RX0 49 RX0 yX0_oldest wsX0_oldest) := goodIn_app (goodIn_of _ (by decide +kernel)) ggX0_leaveMost_X0_oldest
set_option maxRecDepth 20000 in
theorem ggX0_leaveMost_X0_isHole : GoodIn wsX0_leaveMost wsX0_isHole := goodIn_r _ [12, 13, 14, 15, 16, 17, 18, 19, 20, 21, 22, 23] (by decide +kernel) (by decide +kernel)
set_option maxRecDepth 20000 in
theorem gX0_leaveMost_X0_isHole : GoodIn wsX0_leaveMost (wsV RX0 53 RX0 yX0_isHole wsX0_isHole) := goodIn_app (goodIn_of _ (by decide +kernel)) ggX0_leaveMost_X0_isHole
theorem dX0_leaveMost_0 : decode cX0_leaveMost 0 = .ok (.aload_n 0, 1) := by decide +kernel
theorem dX0_leaveMost_1 : decode cX0_leaveMost 1 = .ok (.getfield 18, 3) := by decide +kernel
theorem dX0_leaveMost_4 : decode cX0_leaveMost 4 = .ok (.ifCond .le 56, 3) := by decide +kernel
theorem dX0_leaveMost_7 : decode cX0_leaveMost 7 = .ok (.aload_n 0, 1) := by decide +kernel
theorem dX0_leaveMost_8 : decode cX0_leaveMost 8 = .ok (.getfield 18, 3) := by decide +kernel
theorem dX0_leaveMost_11 : decode cX0_leaveMost 11 = .ok (.iload_n 1, 1) := by decide +kernel
theorem dX0_leaveMost_12 : decode cX0_leaveMost 12 = .ok (.if_icmp .gt 14, 3) := by decide +kernel
theorem dX0_leaveMost_15 : decode cX0_leaveMost 15 = .ok (.aload_n 0, 1) := by decide +kernel
theorem dX0_leaveMost_16 : decode cX0_leaveMost 16 = .ok (.aload_n 0, 1) := by decide +kernel
theorem dX0_leaveMost_17 : decode cX0_leaveMost 17 = .ok (.invokevirtual 49, 3) := by decide +kernel
theorem dX0_leaveMost_20 : decode cX0_leaveMost 20 = .ok (.invokevirtual 53, 3) := by decide +kernel
theorem dX0_leaveMost_23 : decode cX0_leaveMost 23 = .ok (.ifCond .eq 37, 3) := by decide +kernel
theorem dX0_leaveMost_26 : decode cX0_leaveMost 26 = .ok (.aload_n 0, 1) := by decide +kernel
theorem dX0_leaveMost_27 : decode cX0_leaveMost 27 = .ok (.aload_n 0, 1) := by decide +kernel
theorem dX0_leaveMost_28 : decode cX0_leaveMost 28 = .ok (.invokevirtual 49, 3) := by decide +kernel
theorem dX0_leaveMost_31 : decode cX0_leaveMost 31 = .ok (.invokevirtual 53, 3) := by decide +kernel
theorem dX0_leaveMost_34 : decode cX0_leaveMost 34 = .ok (.ifCond .ne 13, 3) := by decide +kernel
theorem dX0_leaveMost_37 : decode cX0_leaveMost 37 = .ok (.aload_n 0, 1) := by decide +kernel
theorem dX0_leaveMost_38 : decode cX0_leaveMost 38 = .ok (.dup, 1) := by decide +kernel
theorem dX0_leaveMost_39 : decode cX0_leaveMost 39 = .ok (.getfield 21, 3) := by decide +kernel
theorem dX0_leaveMost_42 : decode cX0_leaveMost 42 = .ok (.iconst 1, 1) := by decide +kernel
theorem dX0_leaveMost_43 : decode cX0_leaveMost 43 = .ok (.iadd, 1) := by decide +kernel
theorem dX0_leaveMost_44 : decode cX0_leaveMost 44 = .ok (.putfield 21, 3) := by decide +kernel
theorem dX0_leaveMost_47 : decode cX0_leaveMost 47 = .ok (.aload_n 0, 1) := by decide +kernel
theorem dX0_leaveMost_48 : decode cX0_leaveMost 48 = .ok (.dup, 1) := by decide +kernel
theorem dX0_leaveMost_49 : decode cX0_leaveMost 49 = .ok (.getfield 18, 3) := by decide +kernel
theorem dX0_leaveMost_52 : decode cX0_leaveMost 52 = .ok (.iconst 1, 1) := by decide +kernel
theorem dX0_leaveMost_53 : decode cX0_leaveMost 53 = .ok (.isub, 1) := by decide +kernel
theorem dX0_leaveMost_54 : decode cX0_leaveMost 54 = .ok (.putfield 18, 3) := by decide +kernel
theorem dX0_leaveMost_57 : decode cX0_leaveMost 57 = .ok (.goto (-57), 3) := by decide +kernel
theorem dX0_leaveMost_60 : decode cX0_leaveMost 60 = .ok (.return_, 1) := by decide +kernel
set_option maxRecDepth 20000 in
theorem ggX0_makeHole_X0_leaveMost : GoodIn wsX0_makeHole wsX0_leaveMost := goodIn_r _ [8, 9, 10, 11, 12, 13, 7, 14, 15, 16, 17, 18, 19, 1, 20, 21, 22, 23, 24, 25, 26, 27, 28, 29] (by decide +kernel) (by decide +kernel)
set_option maxRecDepth 20000 in
theorem gX0_makeHole_X0_leaveMost : GoodIn wsX0_makeHole (wsV RX0 64 RX0 yX0_leaveMost wsX0_leaveMost) := goodIn_app (goodIn_of _ (by decide +kernel)) ggX0_makeHole_X0_leaveMost
theorem dX0_makeHole_0 : decode cX0_makeHole 0 = .ok (.aload_n 0, 1) := by decide +kernel
theorem dX0_makeHole_1 : decode cX0_makeHole 1 = .ok (.getfield 33, 3) := by decide +kernel
theorem dX0_makeHole_4 : decode cX0_makeHole 4 = .ok (.iload_n 1, 1) := by decide +kernel
theorem dX0_makeHole_5 : decode cX0_makeHole 5 = .ok (.bipush 7, 2) := by decide +kernel
theorem dX0_makeHole_7 : decode cX0_makeHole 7 = .ok (.iand, 1) := by decide +kernel
theorem dX0_makeHole_8 : decode cX0_makeHole 8 = .ok (.bipush (-6), 2) := by decide +kernel
theorem dX0_makeHole_10 : decode cX0_makeHole 10 = .ok (.iastore, 1) := by decide +kernel
theorem dX0_makeHole_11 : decode cX0_makeHole 11 = .ok (.aload_n 0, 1) := by decide +kernel
theorem dX0_makeHole_12 : decode cX0_makeHole 12 = .ok (.dup, 1) := by decide +kernel
theorem dX0_makeHole_13 : decode cX0_makeHole 13 = .ok (.getfield 24, 3) := by decide +kernel
theorem dX0_makeHole_16 : decode cX0_makeHole 16 = .ok (.iconst 1, 1) := by decide +kernel
theorem dX0_makeHole_17 : decode cX0_makeHole 17 = .ok (.iadd, 1) := by decide +kernel
theorem dX0_makeHole_18 : decode cX0_makeHole 18 = .ok (.putfield 24, 3) := by decide +kernel
theorem dX0_makeHole_21 : decode cX0_makeHole 21 = .ok (.aload_n 0, 1) := by decide +kernel
theorem dX0_makeHole_22 : decode cX0_makeHole 22 = .ok (.aload_n 0, 1) := by decide +kernel
theorem dX0_makeHole_23 : decode cX0_makeHole 23 = .ok (.getfield 9, 3) := by decide +kernel
theorem dX0_makeHole_26 : decode cX0_makeHole 26 = .ok (.invokevirtual 64, 3) := by decide +kernel
theorem dX0_makeHole_29 : decode cX0_makeHole 29 = .ok (.return_, 1) := by decide +kernel
set_option maxRecDepth 20000 in
theorem ggX0_countHoles_X0_oldest : GoodIn wsX0_countHoles wsX0_oldest := goodIn_r _ [6, 1, 7, 13, 14, 15, 16, 17, 18, 19, 20, 21, 22] (by decide +kernel) (by decide +kernel)
set_option maxRecDepth 20000 in
theorem gX0_countHoles_X0_oldest : GoodIn wsX0_countHoles (wsV RX0 49 RX0 yX0_oldest wsX0_oldest) := goodIn_app (goodIn_of _ (by decide +kernel)) ggX0_countHoles_X0_oldest
set_option maxRecDepth 20000 in
theorem ggX0_countHoles_X0_isHole : GoodIn wsX0_countHoles wsX0_isHole := goodIn_r _ [11, 12, 13, 14, 15, 16, 17, 18, 19, 20, 21, 22] (by decide +kernel) (by decide +kernel)
set_option maxRecDepth 20000 in
theorem gX0_countHoles_X0_isHole : GoodIn wsX0_countHoles (wsV RX0 53 RX0 yX0_isHole wsX0_isHole) := goodIn_app (goodIn_of _ (by decide +kernel)) ggX0_countHoles_X0_isHole
theorem dX0_countHoles_0 : decode cX0_countHoles 0 = .ok (.iconst 0, 1) := by decide +kernel
theorem dX0_countHoles_1 : decode cX0_countHoles 1 = .ok (.istore_n 1, 1) := by decide +kernel
theorem dX0_countHoles_2 : decode cX0_countHoles 2 = .ok (.aload_n 0, 1) := by decide +kernel
theorem dX0_countHoles_3 : decode cX0_countHoles 3 = .ok (.invokevirtual 49, 3) := by decide +kernel
theorem dX0_countHoles_6 : decode cX0_countHoles 6 = .ok (.istore_n 2, 1) := by decide +kernel
theorem dX0_countHoles_7 : decode cX0_countHoles 7 = .ok (.iload_n 2, 1) := by decide +kernel
theorem dX0_countHoles_8 : decode cX0_countHoles 8 = .ok (.aload_n 0, 1) := by decide +kernel
theorem dX0_countHoles_9 : decode cX0_countHoles 9 = .ok (.getfield 15, 3) := by decide +kernel
theorem dX0_countHoles_12 : decode cX0_countHoles 12 = .ok (.if_icmp .gt 20, 3) := by decide +kernel
theorem dX0_countHoles_15 : decode cX0_countHoles 15 = .ok (.aload_n 0, 1) := by decide +kernel
theorem dX0_countHoles_16 : decode cX0_countHoles 16 = .ok (.iload_n 2, 1) := by decide +kernel
theorem dX0_countHoles_17 : decode cX0_countHoles 17 = .ok (.invokevirtual 53, 3) := by decide +kernel
theorem dX0_countHoles_20 : decode cX0_countHoles 20 = .ok (.ifCond .eq 6, 3) := by decide +kernel
theorem dX0_countHoles_23 : decode cX0_countHoles 23 = .ok (.iinc 1 1, 3) := by decide +kernel
theorem dX0_countHoles_26 : decode cX0_countHoles 26 = .ok (.iinc 2 1, 3) := by decide +kernel
theorem dX0_countHoles_29 : decode cX0_countHoles 29 = .ok (.goto (-22), 3) := by decide +kernel
theorem dX0_countHoles_32 : decode cX0_countHoles 32 = .ok (.iload_n 1, 1) := by decide +kernel
theorem dX0_countHoles_33 : decode cX0_countHoles 33 = .ok (.ireturn, 1) := by decide +kernel
set_option maxRecDepth 20000 in
theorem ggX0_sumOfData_X0_oldest : GoodIn wsX0_sumOfData wsX0_oldest := goodIn_r _ [7, 1, 8, 13, 14, 15, 16, 17, 18, 19, 20, 21, 22] (by decide +kernel) (by decide +kernel)
set_option maxRecDepth 20000 in
theorem gX0_sumOfData_X0_oldest : GoodIn wsX0_sumOfData (wsV RX0 49 RX0 yX0_oldest wsX0_oldest) := goodIn_app (goodIn_of _ (by decide +kernel)) ggX0_sumOfData_X0_oldest
set_option maxRecDepth 20000 in
theorem ggX0_sumOfData_X0_isHole : GoodIn wsX0_sumOfData wsX0_isHole := goodIn_r _ [12, 2, 13, 14, 15, 16, 17, 18, 19, 20, 21, 22] (by decide +kernel) (by decide +kernel)
set_option maxRecDepth 20000 in
theorem gX0_sumOfData_X0_isHole : GoodIn wsX0_sumOfData (wsV RX0 53 RX0 yX0_isHole wsX0_isHole) := goodIn_app (goodIn_of _ (by decide +kernel)) ggX0_sumOfData_X0_isHole
theorem dX0_sumOfData_0 : decode cX0_sumOfData 0 = .ok (.iconst 0, 1) := by decide +kernel
theorem dX0_sumOfData_1 : decode cX0_sumOfData 1 = .ok (.istore_n 1, 1) := by decide +kernel
theorem dX0_sumOfData_2 : decode cX0_sumOfData 2 = .ok (.aload_n 0, 1) := by decide +kernel
theorem dX0_sumOfData_3 : decode cX0_sumOfData 3 = .ok (.invokevirtual 49, 3) := by decide +kernel
theorem dX0_sumOfData_6 : decode cX0_sumOfData 6 = .ok (.istore_n 2, 1) := by decide +kernel
theorem dX0_sumOfData_7 : decode cX0_sumOfData 7 = .ok (.iload_n 2, 1) := by decide +kernel
theorem dX0_sumOfData_8 : decode cX0_sumOfData 8 = .ok (.aload_n 0, 1) := by decide +kernel
theorem dX0_sumOfData_9 : decode cX0_sumOfData 9 = .ok (.getfield 15, 3) := by decide +kernel
theorem dX0_sumOfData_12 : decode cX0_sumOfData 12 = .ok (.if_icmp .gt 29, 3) := by decide +kernel
theorem dX0_sumOfData_15 : decode cX0_sumOfData 15 = .ok (.aload_n 0, 1) := by decide +kernel
theorem dX0_sumOfData_16 : decode cX0_sumOfData 16 = .ok (.iload_n 2, 1) := by decide +kernel
theorem dX0_sumOfData_17 : decode cX0_sumOfData 17 = .ok (.invokevirtual 53, 3) := by decide +kernel
theorem dX0_sumOfData_20 : decode cX0_sumOfData 20 = .ok (.ifCond .ne 15, 3) := by decide +kernel
theorem dX0_sumOfData_23 : decode cX0_sumOfData 23 = .ok (.iload_n 1, 1) := by decide +kernel
theorem dX0_sumOfData_24 : decode cX0_sumOfData 24 = .ok (.aload_n 0, 1) := by decide +kernel
theorem dX0_sumOfData_25 : decode cX0_sumOfData 25 = .ok (.getfield 33, 3) := by decide +kernel
theorem dX0_sumOfData_28 : decode cX0_sumOfData 28 = .ok (.iload_n 2, 1) := by decide +kernel
theorem dX0_sumOfData_29 : decode cX0_sumOfData 29 = .ok (.bipush 7, 2) := by decide +kernel
theorem dX0_sumOfData_31 : decode cX0_sumOfData 31 = .ok (.iand, 1) := by decide +kernel
theorem dX0_sumOfData_32 : decode cX0_sumOfData 32 = .ok (.iaload, 1) := by decide +kernel
theorem dX0_sumOfData_33 : decode cX0_sumOfData 33 = .ok (.iadd, 1) := by decide +kernel
theorem dX0_sumOfData_34 : decode cX0_sumOfData 34 = .ok (.istore_n 1, 1) := by decide +kernel
theorem dX0_sumOfData_35 : decode cX0_sumOfData 35 = .ok (.iinc 2 1, 3) := by decide +kernel
theorem dX0_sumOfData_38 : decode cX0_sumOfData 38 = .ok (.goto (-31), 3) := by decide +kernel
theorem dX0_sumOfData_41 : decode cX0_sumOfData 41 = .ok (.iload_n 1, 1) := by decide +kernel
theorem dX0_sumOfData_42 : decode cX0_sumOfData 42 = .ok (.ireturn, 1) := by decide +kernel
theorem dX1_init_0 : decode cX1_init 0 = .ok (.aload_n 0, 1) := by decide +kernel
theorem dX1_init_1 : decode cX1_init 1 = .ok (.invokespecial 3, 3) := by decide +kernel
theorem dX1_init_4 : decode cX1_init 4 = .ok (.aload_n 0, 1) := by decide +kernel
theorem dX1_init_5 : decode cX1_init 5 = .ok (.bipush 80, 2) := by decide +kernel
theorem dX1_init_7 : decode cX1_init 7 = .ok (.newarray .char, 2) := by decide +kernel
theorem dX1_init_9 : decode cX1_init 9 = .ok (.putfield 9, 3) := by decide +kernel
theorem dX1_init_12 : decode cX1_init 12 = .ok (.aload_n 0, 1) := by decide +kernel
theorem dX1_init_13 : decode cX1_init 13 = .ok (.iconst 0, 1) := by decide +kernel
theorem dX1_init_14 : decode cX1_init 14 = .ok (.putfield 15, 3) := by decide +kernel
theorem dX1_init_17 : decode cX1_init 17 = .ok (.return_, 1) := by decide +kernel
theorem dX1_size_0 : decode cX1_size 0 = .ok (.aload_n 0, 1) := by decide +kernel
theorem dX1_size_1 : decode cX1_size 1 = .ok (.getfield 15, 3) := by decide +kernel
theorem dX1_size_4 : decode cX1_size 4 = .ok (.ireturn, 1) := by decide +kernel
theorem dX1_sign_0 : decode cX1_sign 0 = .ok (.iload_n 1, 1) := by decide +kernel
theorem dX1_sign_1 : decode cX1_sign 1 = .ok (.ifCond .lt 20, 3) := by decide +kernel
theorem dX1_sign_4 : decode cX1_sign 4 = .ok (.iload_n 1, 1) := by decide +kernel
theorem dX1_sign_5 : decode cX1_sign 5 = .ok (.aload_n 0, 1) := by decide +kernel
theorem dX1_sign_6 : decode cX1_sign 6 = .ok (.getfield 15, 3) := by decide +kernel
theorem dX1_sign_9 : decode cX1_sign 9 = .ok (.if_icmp .ge 12, 3) := by decide +kernel
theorem dX1_sign_12 : decode cX1_sign 12 = .ok (.aload_n 0, 1) := by decide +kernel
theorem dX1_sign_13 : decode cX1_sign 13 = .ok (.getfield 9, 3) := by decide +kernel
theorem dX1_sign_16 : decode cX1_sign 16 = .ok (.iload_n 1, 1) := by decide +kernel
theorem dX1_sign_17 : decode cX1_sign 17 = .ok (.caload, 1) := by decide +kernel
theorem dX1_sign_18 : decode cX1_sign 18 = .ok (.goto 4, 3) := by decide +kernel
theorem dX1_sign_21 : decode cX1_sign 21 = .ok (.iconst 0, 1) := by decide +kernel
theorem dX1_sign_22 : decode cX1_sign 22 = .ok (.ireturn, 1) := by decide +kernel
theorem dX1_empty_0 : decode cX1_empty 0 = .ok (.aload_n 0, 1) := by decide +kernel
theorem dX1_empty_1 : decode cX1_empty 1 = .ok (.getfield 15, 3) := by decide +kernel
theorem dX1_empty_4 : decode cX1_empty 4 = .ok (.istore_n 1, 1) := by decide +kernel
theorem dX1_empty_5 : decode cX1_empty 5 = .ok (.aload_n 0, 1) := by decide +kernel
theorem dX1_empty_6 : decode cX1_empty 6 = .ok (.iconst 0, 1) := by decide +kernel
theorem dX1_empty_7 : decode cX1_empty 7 = .ok (.putfield 15, 3) := by decide +kernel
theorem dX1_empty_10 : decode cX1_empty 10 = .ok (.iload_n 1, 1) := by decide +kernel
theorem dX1_empty_11 : decode cX1_empty 11 = .ok (.ireturn, 1) := by decide +kernel
set_option maxRecDepth 20000 in
theorem ggX1_append_X1_countCharacters : GoodIn wsX1_append wsX1_countCharacters := goodIn_r _ [8, 3, 9, 10] (by decide +kernel) (by decide +kernel)
set_option maxRecDepth 20000 in
theorem gX1_append_X1_countCharacters : GoodIn wsX1_append (wsV RX1 19 RX1 yX1_countCharacters wsX1_countCharacters) := goodIn_app (goodIn_of _ (by decide +kernel)) ggX1_append_X1_countCharacters
theorem dX1_append_0 : decode cX1_append 0 = .ok (.aload_n 0, 1) := by decide +kernel
theorem dX1_append_1 : decode cX1_append 1 = .ok (.lload_n 1, 1) := by decide +kernel
theorem dX1_append_2 : decode cX1_append 2 = .ok (.invokevirtual 19, 3) := by decide +kernel
theorem dX1_append_5 : decode cX1_append 5 = .ok (.istore_n 3, 1) := by decide +kernel
theorem dX1_append_6 : decode cX1_append 6 = .ok (.iload_n 3, 1) := by decide +kernel
theorem dX1_append_7 : decode cX1_append 7 = .ok (.iconst 1, 1) := by decide +kernel
theorem dX1_append_8 : decode cX1_append 8 = .ok (.if_icmp .ge 6, 3) := by decide +kernel
theorem dX1_append_11 : decode cX1_append 11 = .ok (.bipush (-2), 2) := by decide +kernel
theorem dX1_append_13 : decode cX1_append 13 = .ok (.ireturn, 1) := by decide +kernel
theorem dX1_append_14 : decode cX1_append 14 = .ok (.aload_n 0, 1) := by decide +kernel
theorem dX1_append_15 : decode cX1_append 15 = .ok (.getfield 15, 3) := by decide +kernel
theorem dX1_append_18 : decode cX1_append 18 = .ok (.iload_n 3, 1) := by decide +kernel
theorem dX1_append_19 : decode cX1_append 19 = .ok (.iadd, 1) := by decide +kernel
theorem dX1_append_20 : decode cX1_append 20 = .ok (.bipush 80, 2) := by decide +kernel
theorem dX1_append_22 : decode cX1_append 22 = .ok (.if_icmp .le 6, 3) := by decide +kernel
theorem dX1_append_25 : decode cX1_append 25 = .ok (.bipush (-4), 2) := by decide +kernel
theorem dX1_append_27 : decode cX1_append 27 = .ok (.ireturn, 1) := by decide +kernel
theorem dX1_append_28 : decode cX1_append 28 = .ok (.bipush 8, 2) := by decide +kernel
theorem dX1_append_30 : decode cX1_append 30 = .ok (.iload_n 3, 1) := by decide +kernel
theorem dX1_append_31 : decode cX1_append 31 = .ok (.iconst 1, 1) := by decide +kernel
theorem dX1_append_32 : decode cX1_append 32 = .ok (.isub, 1) := by decide +kernel
theorem dX1_append_33 : decode cX1_append 33 = .ok (.imul, 1) := by decide +kernel
theorem dX1_append_34 : decode cX1_append 34 = .ok (.istore 4, 2) := by decide +kernel
theorem dX1_append_36 : decode cX1_append 36 = .ok (.iload 4, 2) := by decide +kernel
theorem dX1_append_38 : decode cX1_append 38 = .ok (.ifCond .lt 38, 3) := by decide +kernel
theorem dX1_append_41 : decode cX1_append 41 = .ok (.aload_n 0, 1) := by decide +kernel
theorem dX1_append_42 : decode cX1_append 42 = .ok (.getfield 9, 3) := by decide +kernel
theorem dX1_append_45 : decode cX1_append 45 = .ok (.aload_n 0, 1) := by decide +kernel
theorem dX1_append_46 : decode cX1_append 46 = .ok (.getfield 15, 3) := by decide +kernel
theorem dX1_append_49 : decode cX1_append 49 = .ok (.lload_n 1, 1) := by decide +kernel
theorem dX1_append_50 : decode cX1_append 50 = .ok (.iload 4, 2) := by decide +kernel
theorem dX1_append_52 : decode cX1_append 52 = .ok (.lushr, 1) := by decide +kernel
theorem dX1_append_53 : decode cX1_append 53 = .ok (.ldc2_w 23, 3) := by decide +kernel
theorem dX1_append_56 : decode cX1_append 56 = .ok (.land, 1) := by decide +kernel
theorem dX1_append_57 : decode cX1_append 57 = .ok (.l2i, 1) := by decide +kernel
theorem dX1_append_58 : decode cX1_append 58 = .ok (.i2c, 1) := by decide +kernel
theorem dX1_append_59 : decode cX1_append 59 = .ok (.castore, 1) := by decide +kernel
theorem dX1_append_60 : decode cX1_append 60 = .ok (.aload_n 0, 1) := by decide +kernel
theorem dX1_append_61 : decode cX1_append 61 = .ok (.dup, 1) := by decide +kernel
theorem dX1_append_62 : decode cX1_append 62 = .ok (.getfield 15, 3) := by decide +kernel
theorem dX1_append_65 : decode cX1_append 65 = .ok (.iconst 1, 1) := by decide +kernel
theorem dX1_append_66 : decode cX1_append 66 = .ok (.iadd, 1) := by decide +kernel
theorem dX1_append_67 : decode cX1_append 67 = .ok (.putfield 15, 3) := by decide +kernel
theorem dX1_append_70 : decode cX1_append 70 = .ok (.iinc 4 (-8), 3) := by decide +kernel
theorem dX1_append_73 : decode cX1_append 73 = .ok (.goto (-37), 3) := by decide +kernel
theorem dX1_append_76 : decode cX1_append 76 = .ok (.aload_n 0, 1) := by decide +kernel
theorem dX1_append_77 : decode cX1_append 77 = .ok (.getfield 15, 3) := by decide +kernel
theorem dX1_append_80 : decode cX1_append 80 = .ok (.ireturn, 1) := by decide +kernel
theorem dX1_countCharacters_0 : decode cX1_countCharacters 0 = .ok (.lload_n 1, 1) := by decide +kernel
theorem dX1_countCharacters_1 : decode cX1_countCharacters 1 = .ok (.lstore_n 3, 1) := by decide +kernel
theorem dX1_countCharacters_2 : decode cX1_countCharacters 2 = .ok (.iconst 0, 1) := by decide +kernel
theorem dX1_countCharacters_3 : decode cX1_countCharacters 3 = .ok (.istore 5, 2) := by decide +kernel
theorem dX1_countCharacters_5 : decode cX1_countCharacters 5 = .ok (.iload 5, 2) := by decide +kernel
theorem dX1_countCharacters_7 : decode cX1_countCharacters 7 = .ok (.bipush 8, 2) := by decide +kernel
theorem dX1_countCharacters_9 : decode cX1_countCharacters 9 = .ok (.if_icmp .ge 51, 3) := by decide +kernel
theorem dX1_countCharacters_12 : decode cX1_countCharacters 12 = .ok (.lload_n 3, 1) := by decide +kernel
theorem dX1_countCharacters_13 : decode cX1_countCharacters 13 = .ok (.ldc2_w 23, 3) := by decide +kernel
theorem dX1_countCharacters_16 : decode cX1_countCharacters 16 = .ok (.land, 1) := by decide +kernel
theorem dX1_countCharacters_17 : decode cX1_countCharacters 17 = .ok (.lconst 0, 1) := by decide +kernel
theorem dX1_countCharacters_18 : decode cX1_countCharacters 18 = .ok (.lcmp, 1) := by decide +kernel
theorem dX1_countCharacters_19 : decode cX1_countCharacters 19 = .ok (.ifCond .eq 41, 3) := by decide +kernel
theorem dX1_countCharacters_22 : decode cX1_countCharacters 22 = .ok (.lload_n 3, 1) := by decide +kernel
theorem dX1_countCharacters_23 : decode cX1_countCharacters 23 = .ok (.ldc2_w 23, 3) := by decide +kernel
theorem dX1_countCharacters_26 : decode cX1_countCharacters 26 = .ok (.land, 1) := by decide +kernel
theorem dX1_countCharacters_27 : decode cX1_countCharacters 27 = .ok (.lstore 6, 2) := by decide +kernel
theorem dX1_countCharacters_29 : decode cX1_countCharacters 29 = .ok (.lload 6, 2) := by decide +kernel
theorem dX1_countCharacters_31 : decode cX1_countCharacters 31 = .ok (.ldc2_w 25, 3) := by decide +kernel
theorem dX1_countCharacters_34 : decode cX1_countCharacters 34 = .ok (.lcmp, 1) := by decide +kernel
theorem dX1_countCharacters_35 : decode cX1_countCharacters 35 = .ok (.ifCond .lt 12, 3) := by decide +kernel
theorem dX1_countCharacters_38 : decode cX1_countCharacters 38 = .ok (.lload 6, 2) := by decide +kernel
theorem dX1_countCharacters_40 : decode cX1_countCharacters 40 = .ok (.ldc2_w 27, 3) := by decide +kernel
theorem dX1_countCharacters_43 : decode cX1_countCharacters 43 = .ok (.lcmp, 1) := by decide +kernel
theorem dX1_countCharacters_44 : decode cX1_countCharacters 44 = .ok (.ifCond .le 5, 3) := by decide +kernel
theorem dX1_countCharacters_47 : decode cX1_countCharacters 47 = .ok (.iconst 0, 1) := by decide +kernel
theorem dX1_countCharacters_48 : decode cX1_countCharacters 48 = .ok (.ireturn, 1) := by decide +kernel
theorem dX1_countCharacters_49 : decode cX1_countCharacters 49 = .ok (.lload_n 3, 1) := by decide +kernel
theorem dX1_countCharacters_50 : decode cX1_countCharacters 50 = .ok (.bipush 8, 2) := by decide +kernel
theorem dX1_countCharacters_52 : decode cX1_countCharacters 52 = .ok (.lushr, 1) := by decide +kernel
theorem dX1_countCharacters_53 : decode cX1_countCharacters 53 = .ok (.lstore_n 3, 1) := by decide +kernel
theorem dX1_countCharacters_54 : decode cX1_countCharacters 54 = .ok (.iinc 5 1, 3) := by decide +kernel
theorem dX1_countCharacters_57 : decode cX1_countCharacters 57 = .ok (.goto (-52), 3) := by decide +kernel
theorem dX1_countCharacters_60 : decode cX1_countCharacters 60 = .ok (.lload_n 3, 1) := by decide +kernel
theorem dX1_countCharacters_61 : decode cX1_countCharacters 61 = .ok (.lconst 0, 1) := by decide +kernel
theorem dX1_countCharacters_62 : decode cX1_countCharacters 62 = .ok (.lcmp, 1) := by decide +kernel
theorem dX1_countCharacters_63 : decode cX1_countCharacters 63 = .ok (.ifCond .ne 8, 3) := by decide +kernel
theorem dX1_countCharacters_66 : decode cX1_countCharacters 66 = .ok (.iload 5, 2) := by decide +kernel
theorem dX1_countCharacters_68 : decode cX1_countCharacters 68 = .ok (.goto 4, 3) := by decide +kernel
theorem dX1_countCharacters_71 : decode cX1_countCharacters 71 = .ok (.iconst 0, 1) := by decide +kernel
theorem dX1_countCharacters_72 : decode cX1_countCharacters 72 = .ok (.ireturn, 1) := by decide +kernel
set_option maxRecDepth 20000 in
theorem ggX1_findFault_X1_placeBehind : GoodIn wsX1_findFault wsX1_placeBehind := goodIn_r _ [7, 8, 9, 10, 6, 11, 12, 13, 14, 15, 16, 17, 18, 19, 20, 21, 22, 23] (by decide +kernel) (by decide +kernel)
set_option maxRecDepth 20000 in
theorem gX1_findFault_X1_placeBehind : GoodIn wsX1_findFault (wsV RX1 29 RX1 yX1_placeBehind wsX1_placeBehind) := goodIn_app (goodIn_of _ (by decide +kernel)) ggX1_findFault_X1_placeBehind
theorem dX1_findFault_0 : decode cX1_findFault 0 = .ok (.iconst 1, 1) := by decide +kernel
theorem dX1_findFault_1 : decode cX1_findFault 1 = .ok (.istore_n 1, 1) := by decide +kernel
theorem dX1_findFault_2 : decode cX1_findFault 2 = .ok (.iconst 0, 1) := by decide +kernel
theorem dX1_findFault_3 : decode cX1_findFault 3 = .ok (.istore_n 2, 1) := by decide +kernel
theorem dX1_findFault_4 : decode cX1_findFault 4 = .ok (.iload_n 2, 1) := by decide +kernel
theorem dX1_findFault_5 : decode cX1_findFault 5 = .ok (.aload_n 0, 1) := by decide +kernel
theorem dX1_findFault_6 : decode cX1_findFault 6 = .ok (.getfield 15, 3) := by decide +kernel
theorem dX1_findFault_9 : decode cX1_findFault 9 = .ok (.if_icmp .ge 27, 3) := by decide +kernel
theorem dX1_findFault_12 : decode cX1_findFault 12 = .ok (.aload_n 0, 1) := by decide +kernel
theorem dX1_findFault_13 : decode cX1_findFault 13 = .ok (.iload_n 1, 1) := by decide +kernel
theorem dX1_findFault_14 : decode cX1_findFault 14 = .ok (.aload_n 0, 1) := by decide +kernel
theorem dX1_findFault_15 : decode cX1_findFault 15 = .ok (.getfield 9, 3) := by decide +kernel
theorem dX1_findFault_18 : decode cX1_findFault 18 = .ok (.iload_n 2, 1) := by decide +kernel
theorem dX1_findFault_19 : decode cX1_findFault 19 = .ok (.caload, 1) := by decide +kernel
theorem dX1_findFault_20 : decode cX1_findFault 20 = .ok (.invokevirtual 29, 3) := by decide +kernel
theorem dX1_findFault_23 : decode cX1_findFault 23 = .ok (.istore_n 1, 1) := by decide +kernel
theorem dX1_findFault_24 : decode cX1_findFault 24 = .ok (.iload_n 1, 1) := by decide +kernel
theorem dX1_findFault_25 : decode cX1_findFault 25 = .ok (.ifCond .ne 5, 3) := by decide +kernel
theorem dX1_findFault_28 : decode cX1_findFault 28 = .ok (.iload_n 2, 1) := by decide +kernel
theorem dX1_findFault_29 : decode cX1_findFault 29 = .ok (.ireturn, 1) := by decide +kernel
theorem dX1_findFault_30 : decode cX1_findFault 30 = .ok (.iinc 2 1, 3) := by decide +kernel
theorem dX1_findFault_33 : decode cX1_findFault 33 = .ok (.goto (-29), 3) := by decide +kernel
theorem dX1_findFault_36 : decode cX1_findFault 36 = .ok (.iload_n 1, 1) := by decide +kernel
theorem dX1_findFault_37 : decode cX1_findFault 37 = .ok (.bipush 10, 2) := by decide +kernel
theorem dX1_findFault_39 : decode cX1_findFault 39 = .ok (.if_icmp .lt 8, 3) := by decide +kernel
theorem dX1_findFault_42 : decode cX1_findFault 42 = .ok (.bipush (-6), 2) := by decide +kernel
theorem dX1_findFault_44 : decode cX1_findFault 44 = .ok (.goto 7, 3) := by decide +kernel
theorem dX1_findFault_47 : decode cX1_findFault 47 = .ok (.aload_n 0, 1) := by decide +kernel
theorem dX1_findFault_48 : decode cX1_findFault 48 = .ok (.getfield 15, 3) := by decide +kernel
theorem dX1_findFault_51 : decode cX1_findFault 51 = .ok (.ireturn, 1) := by decide +kernel
set_option maxRecDepth 20000 in
theorem ggX1_placeBehind_X1_placeBehindLetter : GoodIn wsX1_placeBehind wsX1_placeBehindLetter := goodIn_r _ [5] (by decide +kernel) (by decide +kernel)
set_option maxRecDepth 20000 in
theorem gX1_placeBehind_X1_placeBehindLetter : GoodIn wsX1_placeBehind (wsV RX1 33 RX1 yX1_placeBehindLetter wsX1_placeBehindLetter) := goodIn_app (goodIn_of _ (by decide +kernel)) ggX1_placeBehind_X1_placeBehindLetter
set_option maxRecDepth 20000 in
theorem ggX1_placeBehind_X1_placeBehindName : GoodIn wsX1_placeBehind wsX1_placeBehindName := goodIn_r _ [9] (by decide +kernel) (by decide +kernel)
set_option maxRecDepth 20000 in
theorem gX1_placeBehind_X1_placeBehindName : GoodIn wsX1_placeBehind (wsV RX1 37 RX1 yX1_placeBehindName wsX1_placeBehindName) := goodIn_app (goodIn_of _ (by decide +kernel)) ggX1_placeBehind_X1_placeBehindName
set_option maxRecDepth 20000 in
theorem ggX1_placeBehind_X1_isDigit : GoodIn wsX1_placeBehind wsX1_isDigit := goodIn_r _ [13] (by decide +kernel) (by decide +kernel)
set_option maxRecDepth 20000 in
theorem gX1_placeBehind_X1_isDigit : GoodIn wsX1_placeBehind (wsV RX1 41 RX1 yX1_isDigit wsX1_isDigit) := goodIn_app (goodIn_of _ (by decide +kernel)) ggX1_placeBehind_X1_isDigit
set_option maxRecDepth 20000 in
theorem ggX1_placeBehind_X1_placeBehindOrder : GoodIn wsX1_placeBehind wsX1_placeBehindOrder := goodIn_r _ [17] (by decide +kernel) (by decide +kernel)
set_option maxRecDepth 20000 in
theorem gX1_placeBehind_X1_placeBehindOrder : GoodIn wsX1_placeBehind (wsV RX1 45 RX1 yX1_placeBehindOrder wsX1_placeBehindOrder) := goodIn_app (goodIn_of _ (by decide +kernel)) ggX1_placeBehind_X1_placeBehindOrder
theorem dX1_placeBehind_0 : decode cX1_placeBehind 0 = .ok (.iload_n 1, 1) := by decide +kernel
theorem dX1_placeBehind_1 : decode cX1_placeBehind 1 = .ok (.tableswitch 259 1 12 #[63, 69, 87, 105, 115, 125, 144, 163, 176, 202, 221, 240], 63) := by decide +kernel
theorem dX1_placeBehind_64 : decode cX1_placeBehind 64 = .ok (.aload_n 0, 1) := by decide +kernel
theorem dX1_placeBehind_65 : decode cX1_placeBehind 65 = .ok (.iload_n 2, 1) := by decide +kernel
theorem dX1_placeBehind_66 : decode cX1_placeBehind 66 = .ok (.invokevirtual 33, 3) := by decide +kernel
theorem dX1_placeBehind_69 : decode cX1_placeBehind 69 = .ok (.ireturn, 1) := by decide +kernel
theorem dX1_placeBehind_70 : decode cX1_placeBehind 70 = .ok (.iload_n 2, 1) := by decide +kernel
theorem dX1_placeBehind_71 : decode cX1_placeBehind 71 = .ok (.bipush 48, 2) := by decide +kernel
theorem dX1_placeBehind_73 : decode cX1_placeBehind 73 = .ok (.if_icmp .lt 13, 3) := by decide +kernel
theorem dX1_placeBehind_76 : decode cX1_placeBehind 76 = .ok (.iload_n 2, 1) := by decide +kernel
theorem dX1_placeBehind_77 : decode cX1_placeBehind 77 = .ok (.bipush 53, 2) := by decide +kernel
theorem dX1_placeBehind_79 : decode cX1_placeBehind 79 = .ok (.if_icmp .gt 7, 3) := by decide +kernel
theorem dX1_placeBehind_82 : decode cX1_placeBehind 82 = .ok (.iconst 4, 1) := by decide +kernel
theorem dX1_placeBehind_83 : decode cX1_placeBehind 83 = .ok (.goto 4, 3) := by decide +kernel
theorem dX1_placeBehind_86 : decode cX1_placeBehind 86 = .ok (.iconst 0, 1) := by decide +kernel
theorem dX1_placeBehind_87 : decode cX1_placeBehind 87 = .ok (.ireturn, 1) := by decide +kernel
theorem dX1_placeBehind_88 : decode cX1_placeBehind 88 = .ok (.iload_n 2, 1) := by decide +kernel
theorem dX1_placeBehind_89 : decode cX1_placeBehind 89 = .ok (.bipush 48, 2) := by decide +kernel
theorem dX1_placeBehind_91 : decode cX1_placeBehind 91 = .ok (.if_icmp .lt 13, 3) := by decide +kernel
theorem dX1_placeBehind_94 : decode cX1_placeBehind 94 = .ok (.iload_n 2, 1) := by decide +kernel
theorem dX1_placeBehind_95 : decode cX1_placeBehind 95 = .ok (.bipush 53, 2) := by decide +kernel
theorem dX1_placeBehind_97 : decode cX1_placeBehind 97 = .ok (.if_icmp .gt 7, 3) := by decide +kernel
theorem dX1_placeBehind_100 : decode cX1_placeBehind 100 = .ok (.iconst 5, 1) := by decide +kernel
theorem dX1_placeBehind_101 : decode cX1_placeBehind 101 = .ok (.goto 4, 3) := by decide +kernel
theorem dX1_placeBehind_104 : decode cX1_placeBehind 104 = .ok (.iconst 0, 1) := by decide +kernel
theorem dX1_placeBehind_105 : decode cX1_placeBehind 105 = .ok (.ireturn, 1) := by decide +kernel
theorem dX1_placeBehind_106 : decode cX1_placeBehind 106 = .ok (.aload_n 0, 1) := by decide +kernel
theorem dX1_placeBehind_107 : decode cX1_placeBehind 107 = .ok (.iload_n 2, 1) := by decide +kernel
theorem dX1_placeBehind_108 : decode cX1_placeBehind 108 = .ok (.bipush 6, 2) := by decide +kernel
theorem dX1_placeBehind_110 : decode cX1_placeBehind 110 = .ok (.bipush 13, 2) := by decide +kernel
theorem dX1_placeBehind_112 : decode cX1_placeBehind 112 = .ok (.invokevirtual 37, 3) := by decide +kernel
theorem dX1_placeBehind_115 : decode cX1_placeBehind 115 = .ok (.ireturn, 1) := by decide +kernel
theorem dX1_placeBehind_116 : decode cX1_placeBehind 116 = .ok (.aload_n 0, 1) := by decide +kernel
theorem dX1_placeBehind_117 : decode cX1_placeBehind 117 = .ok (.iload_n 2, 1) := by decide +kernel
theorem dX1_placeBehind_118 : decode cX1_placeBehind 118 = .ok (.bipush 7, 2) := by decide +kernel
theorem dX1_placeBehind_120 : decode cX1_placeBehind 120 = .ok (.bipush 8, 2) := by decide +kernel
theorem dX1_placeBehind_122 : decode cX1_placeBehind 122 = .ok (.invokevirtual 37, 3) := by decide +kernel
theorem dX1_placeBehind_125 : decode cX1_placeBehind 125 = .ok (.ireturn, 1) := by decide +kernel
theorem dX1_placeBehind_126 : decode cX1_placeBehind 126 = .ok (.iload_n 2, 1) := by decide +kernel
theorem dX1_placeBehind_127 : decode cX1_placeBehind 127 = .ok (.bipush 49, 2) := by decide +kernel
theorem dX1_placeBehind_129 : decode cX1_placeBehind 129 = .ok (.if_icmp .lt 14, 3) := by decide +kernel
theorem dX1_placeBehind_132 : decode cX1_placeBehind 132 = .ok (.iload_n 2, 1) := by decide +kernel
theorem dX1_placeBehind_133 : decode cX1_placeBehind 133 = .ok (.bipush 55, 2) := by decide +kernel
theorem dX1_placeBehind_135 : decode cX1_placeBehind 135 = .ok (.if_icmp .gt 8, 3) := by decide +kernel
theorem dX1_placeBehind_138 : decode cX1_placeBehind 138 = .ok (.bipush 13, 2) := by decide +kernel
theorem dX1_placeBehind_140 : decode cX1_placeBehind 140 = .ok (.goto 4, 3) := by decide +kernel
theorem dX1_placeBehind_143 : decode cX1_placeBehind 143 = .ok (.iconst 0, 1) := by decide +kernel
theorem dX1_placeBehind_144 : decode cX1_placeBehind 144 = .ok (.ireturn, 1) := by decide +kernel
theorem dX1_placeBehind_145 : decode cX1_placeBehind 145 = .ok (.iload_n 2, 1) := by decide +kernel
theorem dX1_placeBehind_146 : decode cX1_placeBehind 146 = .ok (.bipush 49, 2) := by decide +kernel
theorem dX1_placeBehind_148 : decode cX1_placeBehind 148 = .ok (.if_icmp .lt 14, 3) := by decide +kernel
theorem dX1_placeBehind_151 : decode cX1_placeBehind 151 = .ok (.iload_n 2, 1) := by decide +kernel
theorem dX1_placeBehind_152 : decode cX1_placeBehind 152 = .ok (.bipush 55, 2) := by decide +kernel
theorem dX1_placeBehind_154 : decode cX1_placeBehind 154 = .ok (.if_icmp .gt 8, 3) := by decide +kernel
theorem dX1_placeBehind_157 : decode cX1_placeBehind 157 = .ok (.bipush 8, 2) := by decide +kernel
theorem dX1_placeBehind_159 : decode cX1_placeBehind 159 = .ok (.goto 4, 3) := by decide +kernel
theorem dX1_placeBehind_162 : decode cX1_placeBehind 162 = .ok (.iconst 0, 1) := by decide +kernel
theorem dX1_placeBehind_163 : decode cX1_placeBehind 163 = .ok (.ireturn, 1) := by decide +kernel
theorem dX1_placeBehind_164 : decode cX1_placeBehind 164 = .ok (.iload_n 2, 1) := by decide +kernel
theorem dX1_placeBehind_165 : decode cX1_placeBehind 165 = .ok (.bipush 61, 2) := by decide +kernel
theorem dX1_placeBehind_167 : decode cX1_placeBehind 167 = .ok (.if_icmp .ne 8, 3) := by decide +kernel
theorem dX1_placeBehind_170 : decode cX1_placeBehind 170 = .ok (.bipush 9, 2) := by decide +kernel
theorem dX1_placeBehind_172 : decode cX1_placeBehind 172 = .ok (.goto 4, 3) := by decide +kernel
theorem dX1_placeBehind_175 : decode cX1_placeBehind 175 = .ok (.iconst 0, 1) := by decide +kernel
theorem dX1_placeBehind_176 : decode cX1_placeBehind 176 = .ok (.ireturn, 1) := by decide +kernel
theorem dX1_placeBehind_177 : decode cX1_placeBehind 177 = .ok (.iload_n 2, 1) := by decide +kernel
theorem dX1_placeBehind_178 : decode cX1_placeBehind 178 = .ok (.bipush 48, 2) := by decide +kernel
theorem dX1_placeBehind_180 : decode cX1_placeBehind 180 = .ok (.if_icmp .ne 8, 3) := by decide +kernel
theorem dX1_placeBehind_183 : decode cX1_placeBehind 183 = .ok (.bipush 13, 2) := by decide +kernel
theorem dX1_placeBehind_185 : decode cX1_placeBehind 185 = .ok (.goto 17, 3) := by decide +kernel
theorem dX1_placeBehind_188 : decode cX1_placeBehind 188 = .ok (.aload_n 0, 1) := by decide +kernel
theorem dX1_placeBehind_189 : decode cX1_placeBehind 189 = .ok (.iload_n 2, 1) := by decide +kernel
theorem dX1_placeBehind_190 : decode cX1_placeBehind 190 = .ok (.invokevirtual 41, 3) := by decide +kernel
theorem dX1_placeBehind_193 : decode cX1_placeBehind 193 = .ok (.ifCond .eq 8, 3) := by decide +kernel
theorem dX1_placeBehind_196 : decode cX1_placeBehind 196 = .ok (.bipush 10, 2) := by decide +kernel
theorem dX1_placeBehind_198 : decode cX1_placeBehind 198 = .ok (.goto 4, 3) := by decide +kernel
theorem dX1_placeBehind_201 : decode cX1_placeBehind 201 = .ok (.iconst 0, 1) := by decide +kernel
theorem dX1_placeBehind_202 : decode cX1_placeBehind 202 = .ok (.ireturn, 1) := by decide +kernel
theorem dX1_placeBehind_203 : decode cX1_placeBehind 203 = .ok (.aload_n 0, 1) := by decide +kernel
theorem dX1_placeBehind_204 : decode cX1_placeBehind 204 = .ok (.iload_n 2, 1) := by decide +kernel
theorem dX1_placeBehind_205 : decode cX1_placeBehind 205 = .ok (.invokevirtual 41, 3) := by decide +kernel
theorem dX1_placeBehind_208 : decode cX1_placeBehind 208 = .ok (.ifCond .eq 8, 3) := by decide +kernel
theorem dX1_placeBehind_211 : decode cX1_placeBehind 211 = .ok (.bipush 11, 2) := by decide +kernel
theorem dX1_placeBehind_213 : decode cX1_placeBehind 213 = .ok (.goto 8, 3) := by decide +kernel
theorem dX1_placeBehind_216 : decode cX1_placeBehind 216 = .ok (.aload_n 0, 1) := by decide +kernel
theorem dX1_placeBehind_217 : decode cX1_placeBehind 217 = .ok (.iload_n 2, 1) := by decide +kernel
theorem dX1_placeBehind_218 : decode cX1_placeBehind 218 = .ok (.invokevirtual 45, 3) := by decide +kernel
theorem dX1_placeBehind_221 : decode cX1_placeBehind 221 = .ok (.ireturn, 1) := by decide +kernel
theorem dX1_placeBehind_222 : decode cX1_placeBehind 222 = .ok (.aload_n 0, 1) := by decide +kernel
theorem dX1_placeBehind_223 : decode cX1_placeBehind 223 = .ok (.iload_n 2, 1) := by decide +kernel
theorem dX1_placeBehind_224 : decode cX1_placeBehind 224 = .ok (.invokevirtual 41, 3) := by decide +kernel
theorem dX1_placeBehind_227 : decode cX1_placeBehind 227 = .ok (.ifCond .eq 8, 3) := by decide +kernel
theorem dX1_placeBehind_230 : decode cX1_placeBehind 230 = .ok (.bipush 12, 2) := by decide +kernel
theorem dX1_placeBehind_232 : decode cX1_placeBehind 232 = .ok (.goto 8, 3) := by decide +kernel
theorem dX1_placeBehind_235 : decode cX1_placeBehind 235 = .ok (.aload_n 0, 1) := by decide +kernel
theorem dX1_placeBehind_236 : decode cX1_placeBehind 236 = .ok (.iload_n 2, 1) := by decide +kernel
theorem dX1_placeBehind_237 : decode cX1_placeBehind 237 = .ok (.invokevirtual 45, 3) := by decide +kernel
theorem dX1_placeBehind_240 : decode cX1_placeBehind 240 = .ok (.ireturn, 1) := by decide +kernel
theorem dX1_placeBehind_241 : decode cX1_placeBehind 241 = .ok (.aload_n 0, 1) := by decide +kernel
theorem dX1_placeBehind_242 : decode cX1_placeBehind 242 = .ok (.iload_n 2, 1) := by decide +kernel
theorem dX1_placeBehind_243 : decode cX1_placeBehind 243 = .ok (.invokevirtual 41, 3) := by decide +kernel
theorem dX1_placeBehind_246 : decode cX1_placeBehind 246 = .ok (.ifCond .eq 8, 3) := by decide +kernel
theorem dX1_placeBehind_249 : decode cX1_placeBehind 249 = .ok (.bipush 13, 2) := by decide +kernel
theorem dX1_placeBehind_251 : decode cX1_placeBehind 251 = .ok (.goto 8, 3) := by decide +kernel
theorem dX1_placeBehind_254 : decode cX1_placeBehind 254 = .ok (.aload_n 0, 1) := by decide +kernel
theorem dX1_placeBehind_255 : decode cX1_placeBehind 255 = .ok (.iload_n 2, 1) := by decide +kernel
theorem dX1_placeBehind_256 : decode cX1_placeBehind 256 = .ok (.invokevirtual 45, 3) := by decide +kernel
theorem dX1_placeBehind_259 : decode cX1_placeBehind 259 = .ok (.ireturn, 1) := by decide +kernel
theorem dX1_placeBehind_260 : decode cX1_placeBehind 260 = .ok (.aload_n 0, 1) := by decide +kernel
theorem dX1_placeBehind_261 : decode cX1_placeBehind 261 = .ok (.iload_n 2, 1) := by decide +kernel
theorem dX1_placeBehind_262 : decode cX1_placeBehind 262 = .ok (.invokevirtual 45, 3) := by decide +kernel
theorem dX1_placeBehind_265 : decode cX1_placeBehind 265 = .ok (.ireturn, 1) := by decide +kernel
theorem dX1_placeBehindLetter_0 : decode cX1_placeBehindLetter 0 = .ok (.iload_n 1, 1) := by decide +kernel
theorem dX1_placeBehindLetter_1 : decode cX1_placeBehindLetter 1 = .ok (.tableswitch 114 97 119 #[107, 114, 114, 112, 114, 107, 107, 114, 114, 107, 114, 114, 114, 114, 114, 114, 114, 112, 114, 114, 114, 114, 110], 107) := by decide +kernel
theorem dX1_placeBehindLetter_108 : decode cX1_placeBehindLetter 108 = .ok (.bipush 13, 2) := by decide +kernel
theorem dX1_placeBehindLetter_110 : decode cX1_placeBehindLetter 110 = .ok (.ireturn, 1) := by decide +kernel
theorem dX1_placeBehindLetter_111 : decode cX1_placeBehindLetter 111 = .ok (.iconst 3, 1) := by decide +kernel
theorem dX1_placeBehindLetter_112 : decode cX1_placeBehindLetter 112 = .ok (.ireturn, 1) := by decide +kernel
theorem dX1_placeBehindLetter_113 : decode cX1_placeBehindLetter 113 = .ok (.iconst 2, 1) := by decide +kernel
theorem dX1_placeBehindLetter_114 : decode cX1_placeBehindLetter 114 = .ok (.ireturn, 1) := by decide +kernel
theorem dX1_placeBehindLetter_115 : decode cX1_placeBehindLetter 115 = .ok (.iconst 0, 1) := by decide +kernel
theorem dX1_placeBehindLetter_116 : decode cX1_placeBehindLetter 116 = .ok (.ireturn, 1) := by decide +kernel
theorem dX1_placeBehindName_0 : decode cX1_placeBehindName 0 = .ok (.iload_n 1, 1) := by decide +kernel
theorem dX1_placeBehindName_1 : decode cX1_placeBehindName 1 = .ok (.bipush 45, 2) := by decide +kernel
theorem dX1_placeBehindName_3 : decode cX1_placeBehindName 3 = .ok (.if_icmp .ne 5, 3) := by decide +kernel
theorem dX1_placeBehindName_6 : decode cX1_placeBehindName 6 = .ok (.iload_n 2, 1) := by decide +kernel
theorem dX1_placeBehindName_7 : decode cX1_placeBehindName 7 = .ok (.ireturn, 1) := by decide +kernel
theorem dX1_placeBehindName_8 : decode cX1_placeBehindName 8 = .ok (.iload_n 1, 1) := by decide +kernel
theorem dX1_placeBehindName_9 : decode cX1_placeBehindName 9 = .ok (.bipush 48, 2) := by decide +kernel
theorem dX1_placeBehindName_11 : decode cX1_placeBehindName 11 = .ok (.if_icmp .eq 9, 3) := by decide +kernel
theorem dX1_placeBehindName_14 : decode cX1_placeBehindName 14 = .ok (.iload_n 1, 1) := by decide +kernel
theorem dX1_placeBehindName_15 : decode cX1_placeBehindName 15 = .ok (.bipush 43, 2) := by decide +kernel
theorem dX1_placeBehindName_17 : decode cX1_placeBehindName 17 = .ok (.if_icmp .ne 7, 3) := by decide +kernel
theorem dX1_placeBehindName_20 : decode cX1_placeBehindName 20 = .ok (.iload_n 3, 1) := by decide +kernel
theorem dX1_placeBehindName_21 : decode cX1_placeBehindName 21 = .ok (.goto 4, 3) := by decide +kernel
theorem dX1_placeBehindName_24 : decode cX1_placeBehindName 24 = .ok (.iconst 0, 1) := by decide +kernel
theorem dX1_placeBehindName_25 : decode cX1_placeBehindName 25 = .ok (.ireturn, 1) := by decide +kernel
theorem dX1_placeBehindOrder_0 : decode cX1_placeBehindOrder 0 = .ok (.iload_n 1, 1) := by decide +kernel
theorem dX1_placeBehindOrder_1 : decode cX1_placeBehindOrder 1 = .ok (.bipush 59, 2) := by decide +kernel
theorem dX1_placeBehindOrder_3 : decode cX1_placeBehindOrder 3 = .ok (.if_icmp .ne 7, 3) := by decide +kernel
theorem dX1_placeBehindOrder_6 : decode cX1_placeBehindOrder 6 = .ok (.iconst 1, 1) := by decide +kernel
theorem dX1_placeBehindOrder_7 : decode cX1_placeBehindOrder 7 = .ok (.goto 4, 3) := by decide +kernel
theorem dX1_placeBehindOrder_10 : decode cX1_placeBehindOrder 10 = .ok (.iconst 0, 1) := by decide +kernel
theorem dX1_placeBehindOrder_11 : decode cX1_placeBehindOrder 11 = .ok (.ireturn, 1) := by decide +kernel
theorem dX1_isDigit_0 : decode cX1_isDigit 0 = .ok (.iload_n 1, 1) := by decide +kernel
theorem dX1_isDigit_1 : decode cX1_isDigit 1 = .ok (.bipush 48, 2) := by decide +kernel
theorem dX1_isDigit_3 : decode cX1_isDigit 3 = .ok (.if_icmp .lt 13, 3) := by decide +kernel
theorem dX1_isDigit_6 : decode cX1_isDigit 6 = .ok (.iload_n 1, 1) := by decide +kernel
theorem dX1_isDigit_7 : decode cX1_isDigit 7 = .ok (.bipush 57, 2) := by decide +kernel
theorem dX1_isDigit_9 : decode cX1_isDigit 9 = .ok (.if_icmp .gt 7, 3) := by decide +kernel
theorem dX1_isDigit_12 : decode cX1_isDigit 12 = .ok (.iconst 1, 1) := by decide +kernel
theorem dX1_isDigit_13 : decode cX1_isDigit 13 = .ok (.goto 4, 3) := by decide +kernel
theorem dX1_isDigit_16 : decode cX1_isDigit 16 = .ok (.iconst 0, 1) := by decide +kernel
theorem dX1_isDigit_17 : decode cX1_isDigit 17 = .ok (.ireturn, 1) := by decide +kernel
set_option maxRecDepth 20000 in
theorem ggX1_startsOrder_X1_sign : GoodIn wsX1_startsOrder wsX1_sign := goodIn_r _ [5, 6, 7, 8, 9] (by decide +kernel) (by decide +kernel)
set_option maxRecDepth 20000 in
theorem gX1_startsOrder_X1_sign : GoodIn wsX1_startsOrder (wsV RX1 48 RX1 yX1_sign wsX1_sign) := goodIn_app (goodIn_of _ (by decide +kernel)) ggX1_startsOrder_X1_sign
theorem dX1_startsOrder_0 : decode cX1_startsOrder 0 = .ok (.iload_n 1, 1) := by decide +kernel
theorem dX1_startsOrder_1 : decode cX1_startsOrder 1 = .ok (.ifCond .eq 15, 3) := by decide +kernel
theorem dX1_startsOrder_4 : decode cX1_startsOrder 4 = .ok (.aload_n 0, 1) := by decide +kernel
theorem dX1_startsOrder_5 : decode cX1_startsOrder 5 = .ok (.iload_n 1, 1) := by decide +kernel
theorem dX1_startsOrder_6 : decode cX1_startsOrder 6 = .ok (.iconst 1, 1) := by decide +kernel
theorem dX1_startsOrder_7 : decode cX1_startsOrder 7 = .ok (.isub, 1) := by decide +kernel
theorem dX1_startsOrder_8 : decode cX1_startsOrder 8 = .ok (.invokevirtual 48, 3) := by decide +kernel
theorem dX1_startsOrder_11 : decode cX1_startsOrder 11 = .ok (.bipush 59, 2) := by decide +kernel
theorem dX1_startsOrder_13 : decode cX1_startsOrder 13 = .ok (.if_icmp .ne 7, 3) := by decide +kernel
theorem dX1_startsOrder_16 : decode cX1_startsOrder 16 = .ok (.iconst 1, 1) := by decide +kernel
theorem dX1_startsOrder_17 : decode cX1_startsOrder 17 = .ok (.goto 4, 3) := by decide +kernel
theorem dX1_startsOrder_20 : decode cX1_startsOrder 20 = .ok (.iconst 0, 1) := by decide +kernel
theorem dX1_startsOrder_21 : decode cX1_startsOrder 21 = .ok (.ireturn, 1) := by decide +kernel
set_option maxRecDepth 20000 in
theorem ggX1_groupOfOrder_X1_sign : GoodIn wsX1_groupOfOrder wsX1_sign := goodIn_r _ [5, 6, 7, 8, 9] (by decide +kernel) (by decide +kernel)
set_option maxRecDepth 20000 in
theorem gX1_groupOfOrder_X1_sign : GoodIn wsX1_groupOfOrder (wsV RX1 48 RX1 yX1_sign wsX1_sign) := goodIn_app (goodIn_of _ (by decide +kernel)) ggX1_groupOfOrder_X1_sign
theorem dX1_groupOfOrder_0 : decode cX1_groupOfOrder 0 = .ok (.aload_n 0, 1) := by decide +kernel
theorem dX1_groupOfOrder_1 : decode cX1_groupOfOrder 1 = .ok (.iload_n 1, 1) := by decide +kernel
theorem dX1_groupOfOrder_2 : decode cX1_groupOfOrder 2 = .ok (.iconst 1, 1) := by decide +kernel
theorem dX1_groupOfOrder_3 : decode cX1_groupOfOrder 3 = .ok (.iadd, 1) := by decide +kernel
theorem dX1_groupOfOrder_4 : decode cX1_groupOfOrder 4 = .ok (.invokevirtual 48, 3) := by decide +kernel
theorem dX1_groupOfOrder_7 : decode cX1_groupOfOrder 7 = .ok (.bipush 48, 2) := by decide +kernel
theorem dX1_groupOfOrder_9 : decode cX1_groupOfOrder 9 = .ok (.isub, 1) := by decide +kernel
theorem dX1_groupOfOrder_10 : decode cX1_groupOfOrder 10 = .ok (.ireturn, 1) := by decide +kernel
set_option maxRecDepth 20000 in
theorem ggX1_nameOfOrder_X1_sign : GoodIn wsX1_nameOfOrder wsX1_sign := goodIn_r _ [5, 6, 7, 8, 9] (by decide +kernel) (by decide +kernel)
set_option maxRecDepth 20000 in
theorem gX1_nameOfOrder_X1_sign : GoodIn wsX1_nameOfOrder (wsV RX1 48 RX1 yX1_sign wsX1_sign) := goodIn_app (goodIn_of _ (by decide +kernel)) ggX1_nameOfOrder_X1_sign
theorem dX1_nameOfOrder_0 : decode cX1_nameOfOrder 0 = .ok (.aload_n 0, 1) := by decide +kernel
theorem dX1_nameOfOrder_1 : decode cX1_nameOfOrder 1 = .ok (.iload_n 1, 1) := by decide +kernel
theorem dX1_nameOfOrder_2 : decode cX1_nameOfOrder 2 = .ok (.iconst 2, 1) := by decide +kernel
theorem dX1_nameOfOrder_3 : decode cX1_nameOfOrder 3 = .ok (.iadd, 1) := by decide +kernel
theorem dX1_nameOfOrder_4 : decode cX1_nameOfOrder 4 = .ok (.invokevirtual 48, 3) := by decide +kernel
theorem dX1_nameOfOrder_7 : decode cX1_nameOfOrder 7 = .ok (.lookupswitch 38 #[(43, 25), (45, 27)], 25) := by decide +kernel
theorem dX1_nameOfOrder_32 : decode cX1_nameOfOrder 32 = .ok (.iconst 1, 1) := by decide +kernel
theorem dX1_nameOfOrder_33 : decode cX1_nameOfOrder 33 = .ok (.ireturn, 1) := by decide +kernel
theorem dX1_nameOfOrder_34 : decode cX1_nameOfOrder 34 = .ok (.bipush 48, 2) := by decide +kernel
theorem dX1_nameOfOrder_36 : decode cX1_nameOfOrder 36 = .ok (.aload_n 0, 1) := by decide +kernel
theorem dX1_nameOfOrder_37 : decode cX1_nameOfOrder 37 = .ok (.iload_n 1, 1) := by decide +kernel
theorem dX1_nameOfOrder_38 : decode cX1_nameOfOrder 38 = .ok (.iconst 3, 1) := by decide +kernel
theorem dX1_nameOfOrder_39 : decode cX1_nameOfOrder 39 = .ok (.iadd, 1) := by decide +kernel
theorem dX1_nameOfOrder_40 : decode cX1_nameOfOrder 40 = .ok (.invokevirtual 48, 3) := by decide +kernel
theorem dX1_nameOfOrder_43 : decode cX1_nameOfOrder 43 = .ok (.isub, 1) := by decide +kernel
theorem dX1_nameOfOrder_44 : decode cX1_nameOfOrder 44 = .ok (.ireturn, 1) := by decide +kernel
theorem dX1_nameOfOrder_45 : decode cX1_nameOfOrder 45 = .ok (.iconst 0, 1) := by decide +kernel
theorem dX1_nameOfOrder_46 : decode cX1_nameOfOrder 46 = .ok (.ireturn, 1) := by decide +kernel
set_option maxRecDepth 20000 in
theorem ggX1_dataOfOrder_X1_sign : GoodIn wsX1_dataOfOrder wsX1_sign := goodIn_r _ [6, 1, 7, 12, 13] (by decide +kernel) (by decide +kernel)
set_option maxRecDepth 20000 in
theorem gX1_dataOfOrder_X1_sign : GoodIn wsX1_dataOfOrder (wsV RX1 48 RX1 yX1_sign wsX1_sign) := goodIn_app (goodIn_of _ (by decide +kernel)) ggX1_dataOfOrder_X1_sign
set_option maxRecDepth 20000 in
theorem ggX1_dataOfOrder_X1_isDigit : GoodIn wsX1_dataOfOrder wsX1_isDigit := goodIn_r _ [11] (by decide +kernel) (by decide +kernel)
set_option maxRecDepth 20000 in
theorem gX1_dataOfOrder_X1_isDigit : GoodIn wsX1_dataOfOrder (wsV RX1 41 RX1 yX1_isDigit wsX1_isDigit) := goodIn_app (goodIn_of _ (by decide +kernel)) ggX1_dataOfOrder_X1_isDigit
theorem dX1_dataOfOrder_0 : decode cX1_dataOfOrder 0 = .ok (.iload_n 1, 1) := by decide +kernel
theorem dX1_dataOfOrder_1 : decode cX1_dataOfOrder 1 = .ok (.aload_n 0, 1) := by decide +kernel
theorem dX1_dataOfOrder_2 : decode cX1_dataOfOrder 2 = .ok (.iload_n 1, 1) := by decide +kernel
theorem dX1_dataOfOrder_3 : decode cX1_dataOfOrder 3 = .ok (.iconst 2, 1) := by decide +kernel
theorem dX1_dataOfOrder_4 : decode cX1_dataOfOrder 4 = .ok (.iadd, 1) := by decide +kernel
theorem dX1_dataOfOrder_5 : decode cX1_dataOfOrder 5 = .ok (.invokevirtual 48, 3) := by decide +kernel
theorem dX1_dataOfOrder_8 : decode cX1_dataOfOrder 8 = .ok (.bipush 45, 2) := by decide +kernel
theorem dX1_dataOfOrder_10 : decode cX1_dataOfOrder 10 = .ok (.if_icmp .ne 7, 3) := by decide +kernel
theorem dX1_dataOfOrder_13 : decode cX1_dataOfOrder 13 = .ok (.iconst 5, 1) := by decide +kernel
theorem dX1_dataOfOrder_14 : decode cX1_dataOfOrder 14 = .ok (.goto 4, 3) := by decide +kernel
theorem dX1_dataOfOrder_17 : decode cX1_dataOfOrder 17 = .ok (.iconst 4, 1) := by decide +kernel
theorem dX1_dataOfOrder_18 : decode cX1_dataOfOrder 18 = .ok (.iadd, 1) := by decide +kernel
theorem dX1_dataOfOrder_19 : decode cX1_dataOfOrder 19 = .ok (.istore_n 2, 1) := by decide +kernel
theorem dX1_dataOfOrder_20 : decode cX1_dataOfOrder 20 = .ok (.iconst 0, 1) := by decide +kernel
theorem dX1_dataOfOrder_21 : decode cX1_dataOfOrder 21 = .ok (.istore_n 3, 1) := by decide +kernel
theorem dX1_dataOfOrder_22 : decode cX1_dataOfOrder 22 = .ok (.iload_n 2, 1) := by decide +kernel
theorem dX1_dataOfOrder_23 : decode cX1_dataOfOrder 23 = .ok (.istore 4, 2) := by decide +kernel
theorem dX1_dataOfOrder_25 : decode cX1_dataOfOrder 25 = .ok (.iload 4, 2) := by decide +kernel
theorem dX1_dataOfOrder_27 : decode cX1_dataOfOrder 27 = .ok (.aload_n 0, 1) := by decide +kernel
theorem dX1_dataOfOrder_28 : decode cX1_dataOfOrder 28 = .ok (.getfield 15, 3) := by decide +kernel
theorem dX1_dataOfOrder_31 : decode cX1_dataOfOrder 31 = .ok (.if_icmp .ge 37, 3) := by decide +kernel
theorem dX1_dataOfOrder_34 : decode cX1_dataOfOrder 34 = .ok (.aload_n 0, 1) := by decide +kernel
theorem dX1_dataOfOrder_35 : decode cX1_dataOfOrder 35 = .ok (.aload_n 0, 1) := by decide +kernel
theorem dX1_dataOfOrder_36 : decode cX1_dataOfOrder 36 = .ok (.iload 4, 2) := by decide +kernel
theorem dX1_dataOfOrder_38 : decode cX1_dataOfOrder 38 = .ok (.invokevirtual 48, 3) := by decide +kernel
theorem dX1_dataOfOrder_41 : decode cX1_dataOfOrder 41 = .ok (.invokevirtual 41, 3) := by decide +kernel
theorem dX1_dataOfOrder_44 : decode cX1_dataOfOrder 44 = .ok (.ifCond .eq 24, 3) := by decide +kernel
theorem dX1_dataOfOrder_47 : decode cX1_dataOfOrder 47 = .ok (.bipush 10, 2) := by decide +kernel
theorem dX1_dataOfOrder_49 : decode cX1_dataOfOrder 49 = .ok (.iload_n 3, 1) := by decide +kernel
theorem dX1_dataOfOrder_50 : decode cX1_dataOfOrder 50 = .ok (.imul, 1) := by decide +kernel
theorem dX1_dataOfOrder_51 : decode cX1_dataOfOrder 51 = .ok (.aload_n 0, 1) := by decide +kernel
theorem dX1_dataOfOrder_52 : decode cX1_dataOfOrder 52 = .ok (.iload 4, 2) := by decide +kernel
theorem dX1_dataOfOrder_54 : decode cX1_dataOfOrder 54 = .ok (.invokevirtual 48, 3) := by decide +kernel
theorem dX1_dataOfOrder_57 : decode cX1_dataOfOrder 57 = .ok (.iadd, 1) := by decide +kernel
theorem dX1_dataOfOrder_58 : decode cX1_dataOfOrder 58 = .ok (.bipush 48, 2) := by decide +kernel
theorem dX1_dataOfOrder_60 : decode cX1_dataOfOrder 60 = .ok (.isub, 1) := by decide +kernel
theorem dX1_dataOfOrder_61 : decode cX1_dataOfOrder 61 = .ok (.istore_n 3, 1) := by decide +kernel
theorem dX1_dataOfOrder_62 : decode cX1_dataOfOrder 62 = .ok (.iinc 4 1, 3) := by decide +kernel
theorem dX1_dataOfOrder_65 : decode cX1_dataOfOrder 65 = .ok (.goto (-40), 3) := by decide +kernel
theorem dX1_dataOfOrder_68 : decode cX1_dataOfOrder 68 = .ok (.iload_n 3, 1) := by decide +kernel
theorem dX1_dataOfOrder_69 : decode cX1_dataOfOrder 69 = .ok (.ireturn, 1) := by decide +kernel
set_option maxRecDepth 20000 in
theorem ggX2_init_X0_init : GoodIn wsX2_init wsX0_init := goodIn_r _ [15, 16, 2, 3, 17, 18, 19, 20, 21, 22, 23, 24, 25, 26, 27, 35, 36, 37, 38, 39, 40, 41, 42, 43, 44] (by decide +kernel) (by decide +kernel)
set_option maxRecDepth 20000 in
theorem gX2_init_X0_init_n37 : GoodIn wsX2_init (wsX0_init) := ggX2_init_X0_init
theorem dX2_init_0 : decode cX2_init 0 = .ok (.aload_n 0, 1) := by decide +kernel
theorem dX2_init_1 : decode cX2_init 1 = .ok (.invokespecial 3, 3) := by decide +kernel
theorem dX2_init_4 : decode cX2_init 4 = .ok (.aload_n 0, 1) := by decide +kernel
theorem dX2_init_5 : decode cX2_init 5 = .ok (.bipush 6, 2) := by decide +kernel
theorem dX2_init_7 : decode cX2_init 7 = .ok (.anewarray 9, 3) := by decide +kernel
theorem dX2_init_10 : decode cX2_init 10 = .ok (.putfield 11, 3) := by decide +kernel
theorem dX2_init_13 : decode cX2_init 13 = .ok (.aload_n 0, 1) := by decide +kernel
theorem dX2_init_14 : decode cX2_init 14 = .ok (.iconst 0, 1) := by decide +kernel
theorem dX2_init_15 : decode cX2_init 15 = .ok (.putfield 17, 3) := by decide +kernel
theorem dX2_init_18 : decode cX2_init 18 = .ok (.aload_n 0, 1) := by decide +kernel
theorem dX2_init_19 : decode cX2_init 19 = .ok (.iconst 0, 1) := by decide +kernel
theorem dX2_init_20 : decode cX2_init 20 = .ok (.putfield 21, 3) := by decide +kernel
theorem dX2_init_23 : decode cX2_init 23 = .ok (.aload_n 0, 1) := by decide +kernel
theorem dX2_init_24 : decode cX2_init 24 = .ok (.iconst 0, 1) := by decide +kernel
theorem dX2_init_25 : decode cX2_init 25 = .ok (.putfield 25, 3) := by decide +kernel
theorem dX2_init_28 : decode cX2_init 28 = .ok (.aload_n 0, 1) := by decide +kernel
theorem dX2_init_29 : decode cX2_init 29 = .ok (.iconst 0, 1) := by decide +kernel
theorem dX2_init_30 : decode cX2_init 30 = .ok (.putfield 28, 3) := by decide +kernel
theorem dX2_init_33 : decode cX2_init 33 = .ok (.aload_n 0, 1) := by decide +kernel
theorem dX2_init_34 : decode cX2_init 34 = .ok (.iconst 0, 1) := by decide +kernel
theorem dX2_init_35 : decode cX2_init 35 = .ok (.putfield 31, 3) := by decide +kernel
theorem dX2_init_38 : decode cX2_init 38 = .ok (.aload_n 0, 1) := by decide +kernel
theorem dX2_init_39 : decode cX2_init 39 = .ok (.iconst 0, 1) := by decide +kernel
theorem dX2_init_40 : decode cX2_init 40 = .ok (.putfield 34, 3) := by decide +kernel
theorem dX2_init_43 : decode cX2_init 43 = .ok (.iconst 0, 1) := by decide +kernel
theorem dX2_init_44 : decode cX2_init 44 = .ok (.istore_n 1, 1) := by decide +kernel
theorem dX2_init_45 : decode cX2_init 45 = .ok (.iload_n 1, 1) := by decide +kernel
theorem dX2_init_46 : decode cX2_init 46 = .ok (.bipush 6, 2) := by decide +kernel
theorem dX2_init_48 : decode cX2_init 48 = .ok (.if_icmp .ge 22, 3) := by decide +kernel
theorem dX2_init_51 : decode cX2_init 51 = .ok (.aload_n 0, 1) := by decide +kernel
theorem dX2_init_52 : decode cX2_init 52 = .ok (.getfield 11, 3) := by decide +kernel
theorem dX2_init_55 : decode cX2_init 55 = .ok (.iload_n 1, 1) := by decide +kernel
theorem dX2_init_56 : decode cX2_init 56 = .ok (.new 9, 3) := by decide +kernel
theorem dX2_init_59 : decode cX2_init 59 = .ok (.dup, 1) := by decide +kernel
theorem dX2_init_60 : decode cX2_init 60 = .ok (.invokespecial 37, 3) := by decide +kernel
theorem dX2_init_63 : decode cX2_init 63 = .ok (.aastore, 1) := by decide +kernel
theorem dX2_init_64 : decode cX2_init 64 = .ok (.iinc 1 1, 3) := by decide +kernel
theorem dX2_init_67 : decode cX2_init 67 = .ok (.goto (-22), 3) := by decide +kernel
theorem dX2_init_70 : decode cX2_init 70 = .ok (.return_, 1) := by decide +kernel
set_option maxRecDepth 20000 in
theorem ggX2_copyFrom_X0_copyFrom : GoodIn wsX2_copyFrom wsX0_copyFrom := goodIn_r _ [12, 13, 14, 15, 16, 17, 18, 19, 20, 21, 22, 23, 24, 25, 26, 34, 35, 36, 37, 38, 39, 40, 41, 42, 43] (by decide +kernel) (by decide +kernel)
set_option maxRecDepth 20000 in
theorem gX2_copyFrom_X0_copyFrom : GoodIn wsX2_copyFrom (wsV RX2 38 RX0 yX0_copyFrom wsX0_copyFrom) := goodIn_app (goodIn_of _ (by decide +kernel)) ggX2_copyFrom_X0_copyFrom
theorem dX2_copyFrom_0 : decode cX2_copyFrom 0 = .ok (.iconst 0, 1) := by decide +kernel
theorem dX2_copyFrom_1 : decode cX2_copyFrom 1 = .ok (.istore_n 2, 1) := by decide +kernel
theorem dX2_copyFrom_2 : decode cX2_copyFrom 2 = .ok (.iload_n 2, 1) := by decide +kernel
theorem dX2_copyFrom_3 : decode cX2_copyFrom 3 = .ok (.bipush 6, 2) := by decide +kernel
theorem dX2_copyFrom_5 : decode cX2_copyFrom 5 = .ok (.if_icmp .ge 24, 3) := by decide +kernel
theorem dX2_copyFrom_8 : decode cX2_copyFrom 8 = .ok (.aload_n 0, 1) := by decide +kernel
theorem dX2_copyFrom_9 : decode cX2_copyFrom 9 = .ok (.getfield 11, 3) := by decide +kernel
theorem dX2_copyFrom_12 : decode cX2_copyFrom 12 = .ok (.iload_n 2, 1) := by decide +kernel
theorem dX2_copyFrom_13 : decode cX2_copyFrom 13 = .ok (.aaload, 1) := by decide +kernel
theorem dX2_copyFrom_14 : decode cX2_copyFrom 14 = .ok (.aload_n 1, 1) := by decide +kernel
theorem dX2_copyFrom_15 : decode cX2_copyFrom 15 = .ok (.getfield 11, 3) := by decide +kernel
theorem dX2_copyFrom_18 : decode cX2_copyFrom 18 = .ok (.iload_n 2, 1) := by decide +kernel
theorem dX2_copyFrom_19 : decode cX2_copyFrom 19 = .ok (.aaload, 1) := by decide +kernel
theorem dX2_copyFrom_20 : decode cX2_copyFrom 20 = .ok (.invokevirtual 38, 3) := by decide +kernel
theorem dX2_copyFrom_23 : decode cX2_copyFrom 23 = .ok (.iinc 2 1, 3) := by decide +kernel
theorem dX2_copyFrom_26 : decode cX2_copyFrom 26 = .ok (.goto (-24), 3) := by decide +kernel
theorem dX2_copyFrom_29 : decode cX2_copyFrom 29 = .ok (.aload_n 0, 1) := by decide +kernel
theorem dX2_copyFrom_30 : decode cX2_copyFrom 30 = .ok (.aload_n 1, 1) := by decide +kernel
theorem dX2_copyFrom_31 : decode cX2_copyFrom 31 = .ok (.getfield 17, 3) := by decide +kernel
theorem dX2_copyFrom_34 : decode cX2_copyFrom 34 = .ok (.putfield 17, 3) := by decide +kernel
theorem dX2_copyFrom_37 : decode cX2_copyFrom 37 = .ok (.aload_n 0, 1) := by decide +kernel
theorem dX2_copyFrom_38 : decode cX2_copyFrom 38 = .ok (.aload_n 1, 1) := by decide +kernel
theorem dX2_copyFrom_39 : decode cX2_copyFrom 39 = .ok (.getfield 21, 3) := by decide +kernel
theorem dX2_copyFrom_42 : decode cX2_copyFrom 42 = .ok (.putfield 21, 3) := by decide +kernel
theorem dX2_copyFrom_45 : decode cX2_copyFrom 45 = .ok (.aload_n 0, 1) := by decide +kernel
theorem dX2_copyFrom_46 : decode cX2_copyFrom 46 = .ok (.aload_n 1, 1) := by decide +kernel
theorem dX2_copyFrom_47 : decode cX2_copyFrom 47 = .ok (.getfield 25, 3) := by decide +kernel
theorem dX2_copyFrom_50 : decode cX2_copyFrom 50 = .ok (.putfield 25, 3) := by decide +kernel
theorem dX2_copyFrom_53 : decode cX2_copyFrom 53 = .ok (.aload_n 0, 1) := by decide +kernel
theorem dX2_copyFrom_54 : decode cX2_copyFrom 54 = .ok (.aload_n 1, 1) := by decide +kernel
theorem dX2_copyFrom_55 : decode cX2_copyFrom 55 = .ok (.getfield 28, 3) := by decide +kernel
theorem dX2_copyFrom_58 : decode cX2_copyFrom 58 = .ok (.putfield 28, 3) := by decide +kernel
theorem dX2_copyFrom_61 : decode cX2_copyFrom 61 = .ok (.aload_n 0, 1) := by decide +kernel
theorem dX2_copyFrom_62 : decode cX2_copyFrom 62 = .ok (.aload_n 1, 1) := by decide +kernel
theorem dX2_copyFrom_63 : decode cX2_copyFrom 63 = .ok (.getfield 31, 3) := by decide +kernel
theorem dX2_copyFrom_66 : decode cX2_copyFrom 66 = .ok (.putfield 31, 3) := by decide +kernel
theorem dX2_copyFrom_69 : decode cX2_copyFrom 69 = .ok (.aload_n 0, 1) := by decide +kernel
theorem dX2_copyFrom_70 : decode cX2_copyFrom 70 = .ok (.aload_n 1, 1) := by decide +kernel
theorem dX2_copyFrom_71 : decode cX2_copyFrom 71 = .ok (.getfield 34, 3) := by decide +kernel
theorem dX2_copyFrom_74 : decode cX2_copyFrom 74 = .ok (.putfield 34, 3) := by decide +kernel
theorem dX2_copyFrom_77 : decode cX2_copyFrom 77 = .ok (.return_, 1) := by decide +kernel
theorem dX2_isGroup_0 : decode cX2_isGroup 0 = .ok (.iload_n 1, 1) := by decide +kernel
theorem dX2_isGroup_1 : decode cX2_isGroup 1 = .ok (.ifCond .lt 13, 3) := by decide +kernel
theorem dX2_isGroup_4 : decode cX2_isGroup 4 = .ok (.iload_n 1, 1) := by decide +kernel
theorem dX2_isGroup_5 : decode cX2_isGroup 5 = .ok (.bipush 6, 2) := by decide +kernel
theorem dX2_isGroup_7 : decode cX2_isGroup 7 = .ok (.if_icmp .ge 7, 3) := by decide +kernel
theorem dX2_isGroup_10 : decode cX2_isGroup 10 = .ok (.iconst 1, 1) := by decide +kernel
theorem dX2_isGroup_11 : decode cX2_isGroup 11 = .ok (.goto 4, 3) := by decide +kernel
theorem dX2_isGroup_14 : decode cX2_isGroup 14 = .ok (.iconst 0, 1) := by decide +kernel
theorem dX2_isGroup_15 : decode cX2_isGroup 15 = .ok (.ireturn, 1) := by decide +kernel
theorem dX2_isName_0 : decode cX2_isName 0 = .ok (.iload_n 1, 1) := by decide +kernel
theorem dX2_isName_1 : decode cX2_isName 1 = .ok (.bipush (-7), 2) := by decide +kernel
theorem dX2_isName_3 : decode cX2_isName 3 = .ok (.if_icmp .lt 12, 3) := by decide +kernel
theorem dX2_isName_6 : decode cX2_isName 6 = .ok (.iload_n 1, 1) := by decide +kernel
theorem dX2_isName_7 : decode cX2_isName 7 = .ok (.iconst 1, 1) := by decide +kernel
theorem dX2_isName_8 : decode cX2_isName 8 = .ok (.if_icmp .gt 7, 3) := by decide +kernel
theorem dX2_isName_11 : decode cX2_isName 11 = .ok (.iconst 1, 1) := by decide +kernel
theorem dX2_isName_12 : decode cX2_isName 12 = .ok (.goto 4, 3) := by decide +kernel
theorem dX2_isName_15 : decode cX2_isName 15 = .ok (.iconst 0, 1) := by decide +kernel
theorem dX2_isName_16 : decode cX2_isName 16 = .ok (.ireturn, 1) := by decide +kernel
set_option maxRecDepth 20000 in
theorem ggX2_changeKeep_X2_isGroup : GoodIn wsX2_changeKeep wsX2_isGroup := goodIn_r _ [7] (by decide +kernel) (by decide +kernel)
set_option maxRecDepth 20000 in
theorem gX2_changeKeep_X2_isGroup : GoodIn wsX2_changeKeep (wsV RX2 42 RX2 yX2_isGroup wsX2_isGroup) := goodIn_app (goodIn_of _ (by decide +kernel)) ggX2_changeKeep_X2_isGroup
set_option maxRecDepth 20000 in
theorem ggX2_changeKeep_X0_leaveMost : GoodIn wsX2_changeKeep wsX0_leaveMost := goodIn_r _ [12, 13, 14, 15, 16, 17, 11, 18, 19, 20, 21, 22, 23, 24, 32, 33, 34, 35, 36, 37, 38, 39, 40, 41] (by decide +kernel) (by decide +kernel)
set_option maxRecDepth 20000 in
theorem gX2_changeKeep_X0_leaveMost : GoodIn wsX2_changeKeep (wsV RX2 49 RX0 yX0_leaveMost wsX0_leaveMost) := goodIn_app (goodIn_of _ (by decide +kernel)) ggX2_changeKeep_X0_leaveMost
theorem dX2_changeKeep_0 : decode cX2_changeKeep 0 = .ok (.aload_n 0, 1) := by decide +kernel
theorem dX2_changeKeep_1 : decode cX2_changeKeep 1 = .ok (.iload_n 1, 1) := by decide +kernel
theorem dX2_changeKeep_2 : decode cX2_changeKeep 2 = .ok (.invokevirtual 42, 3) := by decide +kernel
theorem dX2_changeKeep_5 : decode cX2_changeKeep 5 = .ok (.ifCond .ne 5, 3) := by decide +kernel
theorem dX2_changeKeep_8 : decode cX2_changeKeep 8 = .ok (.iconst (-1), 1) := by decide +kernel
theorem dX2_changeKeep_9 : decode cX2_changeKeep 9 = .ok (.ireturn, 1) := by decide +kernel
theorem dX2_changeKeep_10 : decode cX2_changeKeep 10 = .ok (.iload_n 2, 1) := by decide +kernel
theorem dX2_changeKeep_11 : decode cX2_changeKeep 11 = .ok (.iconst 1, 1) := by decide +kernel
theorem dX2_changeKeep_12 : decode cX2_changeKeep 12 = .ok (.if_icmp .lt 9, 3) := by decide +kernel
theorem dX2_changeKeep_15 : decode cX2_changeKeep 15 = .ok (.iload_n 2, 1) := by decide +kernel
theorem dX2_changeKeep_16 : decode cX2_changeKeep 16 = .ok (.bipush 8, 2) := by decide +kernel
theorem dX2_changeKeep_18 : decode cX2_changeKeep 18 = .ok (.if_icmp .le 6, 3) := by decide +kernel
theorem dX2_changeKeep_21 : decode cX2_changeKeep 21 = .ok (.bipush (-2), 2) := by decide +kernel
theorem dX2_changeKeep_23 : decode cX2_changeKeep 23 = .ok (.ireturn, 1) := by decide +kernel
theorem dX2_changeKeep_24 : decode cX2_changeKeep 24 = .ok (.aload_n 0, 1) := by decide +kernel
theorem dX2_changeKeep_25 : decode cX2_changeKeep 25 = .ok (.getfield 11, 3) := by decide +kernel
theorem dX2_changeKeep_28 : decode cX2_changeKeep 28 = .ok (.iload_n 1, 1) := by decide +kernel
theorem dX2_changeKeep_29 : decode cX2_changeKeep 29 = .ok (.aaload, 1) := by decide +kernel
theorem dX2_changeKeep_30 : decode cX2_changeKeep 30 = .ok (.astore_n 3, 1) := by decide +kernel
theorem dX2_changeKeep_31 : decode cX2_changeKeep 31 = .ok (.aload_n 3, 1) := by decide +kernel
theorem dX2_changeKeep_32 : decode cX2_changeKeep 32 = .ok (.getfield 46, 3) := by decide +kernel
theorem dX2_changeKeep_35 : decode cX2_changeKeep 35 = .ok (.istore 4, 2) := by decide +kernel
theorem dX2_changeKeep_37 : decode cX2_changeKeep 37 = .ok (.aload_n 3, 1) := by decide +kernel
theorem dX2_changeKeep_38 : decode cX2_changeKeep 38 = .ok (.iload_n 2, 1) := by decide +kernel
theorem dX2_changeKeep_39 : decode cX2_changeKeep 39 = .ok (.putfield 46, 3) := by decide +kernel
theorem dX2_changeKeep_42 : decode cX2_changeKeep 42 = .ok (.aload_n 3, 1) := by decide +kernel
theorem dX2_changeKeep_43 : decode cX2_changeKeep 43 = .ok (.iload_n 2, 1) := by decide +kernel
theorem dX2_changeKeep_44 : decode cX2_changeKeep 44 = .ok (.invokevirtual 49, 3) := by decide +kernel
theorem dX2_changeKeep_47 : decode cX2_changeKeep 47 = .ok (.iload 4, 2) := by decide +kernel
theorem dX2_changeKeep_49 : decode cX2_changeKeep 49 = .ok (.ireturn, 1) := by decide +kernel
theorem dX2_hasNewestOfJob_0 : decode cX2_hasNewestOfJob 0 = .ok (.aload_n 0, 1) := by decide +kernel
theorem dX2_hasNewestOfJob_1 : decode cX2_hasNewestOfJob 1 = .ok (.getfield 21, 3) := by decide +kernel
theorem dX2_hasNewestOfJob_4 : decode cX2_hasNewestOfJob 4 = .ok (.ifCond .eq 14, 3) := by decide +kernel
theorem dX2_hasNewestOfJob_7 : decode cX2_hasNewestOfJob 7 = .ok (.aload_n 1, 1) := by decide +kernel
theorem dX2_hasNewestOfJob_8 : decode cX2_hasNewestOfJob 8 = .ok (.getfield 53, 3) := by decide +kernel
theorem dX2_hasNewestOfJob_11 : decode cX2_hasNewestOfJob 11 = .ok (.ifCond .eq 7, 3) := by decide +kernel
theorem dX2_hasNewestOfJob_14 : decode cX2_hasNewestOfJob 14 = .ok (.iconst 1, 1) := by decide +kernel
theorem dX2_hasNewestOfJob_15 : decode cX2_hasNewestOfJob 15 = .ok (.goto 4, 3) := by decide +kernel
theorem dX2_hasNewestOfJob_18 : decode cX2_hasNewestOfJob 18 = .ok (.iconst 0, 1) := by decide +kernel
theorem dX2_hasNewestOfJob_19 : decode cX2_hasNewestOfJob 19 = .ok (.ireturn, 1) := by decide +kernel
set_option maxRecDepth 20000 in
theorem ggX2_writeByName_X2_isGroup : GoodIn wsX2_writeByName wsX2_isGroup := goodIn_r _ [9] (by decide +kernel) (by decide +kernel)
set_option maxRecDepth 20000 in
theorem gX2_writeByName_X2_isGroup : GoodIn wsX2_writeByName (wsV RX2 42 RX2 yX2_isGroup wsX2_isGroup) := goodIn_app (goodIn_of _ (by decide +kernel)) ggX2_writeByName_X2_isGroup
set_option maxRecDepth 20000 in
theorem ggX2_writeByName_X2_isName : GoodIn wsX2_writeByName wsX2_isName := goodIn_r _ [13] (by decide +kernel) (by decide +kernel)
set_option maxRecDepth 20000 in
theorem gX2_writeByName_X2_isName : GoodIn wsX2_writeByName (wsV RX2 56 RX2 yX2_isName wsX2_isName) := goodIn_app (goodIn_of _ (by decide +kernel)) ggX2_writeByName_X2_isName
set_option maxRecDepth 20000 in
theorem ggX2_writeByName_X2_hasNewestOfJob : GoodIn wsX2_writeByName wsX2_hasNewestOfJob := goodIn_r _ [17, 2, 18, 57, 58, 59, 60, 61, 62, 63, 64, 65, 66, 67, 68, 69, 70, 71, 72, 73] (by decide +kernel) (by decide +kernel)
set_option maxRecDepth 20000 in
theorem gX2_writeByName_X2_hasNewestOfJob : GoodIn wsX2_writeByName (wsV RX2 59 RX2 yX2_hasNewestOfJob wsX2_hasNewestOfJob) := goodIn_app (goodIn_of _ (by decide +kernel)) ggX2_writeByName_X2_hasNewestOfJob
set_option maxRecDepth 20000 in
theorem ggX2_writeByName_X0_make : GoodIn wsX2_writeByName wsX0_make := goodIn_r _ [23, 24, 25, 26, 27, 28, 29, 30, 31, 32, 33, 22, 34, 35, 36, 37, 38, 39, 40, 41, 42, 43, 64, 65, 66, 67, 68, 69, 70, 71, 72, 73] (by decide +kernel) (by decide +kernel)
set_option maxRecDepth 20000 in
theorem gX2_writeByName_X0_make : GoodIn wsX2_writeByName (wsV RX2 63 RX0 yX0_make wsX0_make) := goodIn_app (goodIn_of _ (by decide +kernel)) ggX2_writeByName_X0_make
set_option maxRecDepth 20000 in
theorem ggX2_writeByName_X0_numberOf : GoodIn wsX2_writeByName wsX0_numberOf := goodIn_r _ [47] (by decide +kernel) (by decide +kernel)
set_option maxRecDepth 20000 in
theorem gX2_writeByName_X0_numberOf : GoodIn wsX2_writeByName (wsV RX2 67 RX0 yX0_numberOf wsX0_numberOf) := goodIn_app (goodIn_of _ (by decide +kernel)) ggX2_writeByName_X0_numberOf
set_option maxRecDepth 20000 in
theorem ggX2_writeByName_X0_serialOf : GoodIn wsX2_writeByName wsX0_serialOf := goodIn_r _ [51, 30, 52, 25, 64, 65, 66, 67, 68, 69, 70, 71, 72, 73] (by decide +kernel) (by decide +kernel)
set_option maxRecDepth 20000 in
theorem gX2_writeByName_X0_serialOf : GoodIn wsX2_writeByName (wsV RX2 71 RX0 yX0_serialOf wsX0_serialOf) := goodIn_app (goodIn_of _ (by decide +kernel)) ggX2_writeByName_X0_serialOf
set_option maxRecDepth 20000 in
theorem ggX2_writeByName_X0_isThere : GoodIn wsX2_writeByName wsX0_isThere := goodIn_r _ [56, 25, 36, 37, 38, 22, 39, 26, 40, 41, 42, 43, 27, 64, 65, 66, 67, 68, 69, 70, 71, 72, 73] (by decide +kernel) (by decide +kernel)
set_option maxRecDepth 20000 in
theorem gX2_writeByName_X0_isThere : GoodIn wsX2_writeByName (wsV RX2 75 RX0 yX0_isThere wsX0_isThere) := goodIn_app (goodIn_of _ (by decide +kernel)) ggX2_writeByName_X0_isThere
theorem dX2_writeByName_0 : decode cX2_writeByName 0 = .ok (.aload_n 0, 1) := by decide +kernel
theorem dX2_writeByName_1 : decode cX2_writeByName 1 = .ok (.iload_n 1, 1) := by decide +kernel
theorem dX2_writeByName_2 : decode cX2_writeByName 2 = .ok (.invokevirtual 42, 3) := by decide +kernel
theorem dX2_writeByName_5 : decode cX2_writeByName 5 = .ok (.ifCond .ne 5, 3) := by decide +kernel
theorem dX2_writeByName_8 : decode cX2_writeByName 8 = .ok (.iconst (-1), 1) := by decide +kernel
theorem dX2_writeByName_9 : decode cX2_writeByName 9 = .ok (.ireturn, 1) := by decide +kernel
theorem dX2_writeByName_10 : decode cX2_writeByName 10 = .ok (.aload_n 0, 1) := by decide +kernel
theorem dX2_writeByName_11 : decode cX2_writeByName 11 = .ok (.iload_n 2, 1) := by decide +kernel
theorem dX2_writeByName_12 : decode cX2_writeByName 12 = .ok (.invokevirtual 56, 3) := by decide +kernel
theorem dX2_writeByName_15 : decode cX2_writeByName 15 = .ok (.ifCond .eq 14, 3) := by decide +kernel
theorem dX2_writeByName_18 : decode cX2_writeByName 18 = .ok (.iload_n 3, 1) := by decide +kernel
theorem dX2_writeByName_19 : decode cX2_writeByName 19 = .ok (.ifCond .lt 10, 3) := by decide +kernel
theorem dX2_writeByName_22 : decode cX2_writeByName 22 = .ok (.iload_n 3, 1) := by decide +kernel
theorem dX2_writeByName_23 : decode cX2_writeByName 23 = .ok (.sipush 9999, 3) := by decide +kernel
theorem dX2_writeByName_26 : decode cX2_writeByName 26 = .ok (.if_icmp .le 6, 3) := by decide +kernel
theorem dX2_writeByName_29 : decode cX2_writeByName 29 = .ok (.bipush (-2), 2) := by decide +kernel
theorem dX2_writeByName_31 : decode cX2_writeByName 31 = .ok (.ireturn, 1) := by decide +kernel
theorem dX2_writeByName_32 : decode cX2_writeByName 32 = .ok (.aload_n 0, 1) := by decide +kernel
theorem dX2_writeByName_33 : decode cX2_writeByName 33 = .ok (.getfield 11, 3) := by decide +kernel
theorem dX2_writeByName_36 : decode cX2_writeByName 36 = .ok (.iload_n 1, 1) := by decide +kernel
theorem dX2_writeByName_37 : decode cX2_writeByName 37 = .ok (.aaload, 1) := by decide +kernel
theorem dX2_writeByName_38 : decode cX2_writeByName 38 = .ok (.astore 4, 2) := by decide +kernel
theorem dX2_writeByName_40 : decode cX2_writeByName 40 = .ok (.iload_n 2, 1) := by decide +kernel
theorem dX2_writeByName_41 : decode cX2_writeByName 41 = .ok (.iconst 1, 1) := by decide +kernel
theorem dX2_writeByName_42 : decode cX2_writeByName 42 = .ok (.if_icmp .ne 39, 3) := by decide +kernel
theorem dX2_writeByName_45 : decode cX2_writeByName 45 = .ok (.aload_n 0, 1) := by decide +kernel
theorem dX2_writeByName_46 : decode cX2_writeByName 46 = .ok (.aload 4, 2) := by decide +kernel
theorem dX2_writeByName_48 : decode cX2_writeByName 48 = .ok (.invokevirtual 59, 3) := by decide +kernel
theorem dX2_writeByName_51 : decode cX2_writeByName 51 = .ok (.ifCond .ne 30, 3) := by decide +kernel
theorem dX2_writeByName_54 : decode cX2_writeByName 54 = .ok (.aload 4, 2) := by decide +kernel
theorem dX2_writeByName_56 : decode cX2_writeByName 56 = .ok (.aload 4, 2) := by decide +kernel
theorem dX2_writeByName_58 : decode cX2_writeByName 58 = .ok (.iload_n 3, 1) := by decide +kernel
theorem dX2_writeByName_59 : decode cX2_writeByName 59 = .ok (.aload_n 0, 1) := by decide +kernel
theorem dX2_writeByName_60 : decode cX2_writeByName 60 = .ok (.getfield 21, 3) := by decide +kernel
theorem dX2_writeByName_63 : decode cX2_writeByName 63 = .ok (.ifCond .eq 10, 3) := by decide +kernel
theorem dX2_writeByName_66 : decode cX2_writeByName 66 = .ok (.aload_n 0, 1) := by decide +kernel
theorem dX2_writeByName_67 : decode cX2_writeByName 67 = .ok (.getfield 17, 3) := by decide +kernel
theorem dX2_writeByName_70 : decode cX2_writeByName 70 = .ok (.goto 4, 3) := by decide +kernel
theorem dX2_writeByName_73 : decode cX2_writeByName 73 = .ok (.iconst 0, 1) := by decide +kernel
theorem dX2_writeByName_74 : decode cX2_writeByName 74 = .ok (.invokevirtual 63, 3) := by decide +kernel
theorem dX2_writeByName_77 : decode cX2_writeByName 77 = .ok (.invokevirtual 67, 3) := by decide +kernel
theorem dX2_writeByName_80 : decode cX2_writeByName 80 = .ok (.ireturn, 1) := by decide +kernel
theorem dX2_writeByName_81 : decode cX2_writeByName 81 = .ok (.aload 4, 2) := by decide +kernel
theorem dX2_writeByName_83 : decode cX2_writeByName 83 = .ok (.iload_n 2, 1) := by decide +kernel
theorem dX2_writeByName_84 : decode cX2_writeByName 84 = .ok (.aload_n 0, 1) := by decide +kernel
theorem dX2_writeByName_85 : decode cX2_writeByName 85 = .ok (.getfield 21, 3) := by decide +kernel
theorem dX2_writeByName_88 : decode cX2_writeByName 88 = .ok (.invokevirtual 71, 3) := by decide +kernel
theorem dX2_writeByName_91 : decode cX2_writeByName 91 = .ok (.istore 5, 2) := by decide +kernel
theorem dX2_writeByName_93 : decode cX2_writeByName 93 = .ok (.aload 4, 2) := by decide +kernel
theorem dX2_writeByName_95 : decode cX2_writeByName 95 = .ok (.iload 5, 2) := by decide +kernel
theorem dX2_writeByName_97 : decode cX2_writeByName 97 = .ok (.invokevirtual 75, 3) := by decide +kernel
theorem dX2_writeByName_100 : decode cX2_writeByName 100 = .ok (.ifCond .ne 6, 3) := by decide +kernel
theorem dX2_writeByName_103 : decode cX2_writeByName 103 = .ok (.bipush (-5), 2) := by decide +kernel
theorem dX2_writeByName_105 : decode cX2_writeByName 105 = .ok (.ireturn, 1) := by decide +kernel
theorem dX2_writeByName_106 : decode cX2_writeByName 106 = .ok (.aload 4, 2) := by decide +kernel
theorem dX2_writeByName_108 : decode cX2_writeByName 108 = .ok (.getfield 78, 3) := by decide +kernel
theorem dX2_writeByName_111 : decode cX2_writeByName 111 = .ok (.iload 5, 2) := by decide +kernel
theorem dX2_writeByName_113 : decode cX2_writeByName 113 = .ok (.bipush 7, 2) := by decide +kernel
theorem dX2_writeByName_115 : decode cX2_writeByName 115 = .ok (.iand, 1) := by decide +kernel
theorem dX2_writeByName_116 : decode cX2_writeByName 116 = .ok (.iload_n 3, 1) := by decide +kernel
theorem dX2_writeByName_117 : decode cX2_writeByName 117 = .ok (.iastore, 1) := by decide +kernel
theorem dX2_writeByName_118 : decode cX2_writeByName 118 = .ok (.aload 4, 2) := by decide +kernel
theorem dX2_writeByName_120 : decode cX2_writeByName 120 = .ok (.iload 5, 2) := by decide +kernel
theorem dX2_writeByName_122 : decode cX2_writeByName 122 = .ok (.invokevirtual 67, 3) := by decide +kernel
theorem dX2_writeByName_125 : decode cX2_writeByName 125 = .ok (.ireturn, 1) := by decide +kernel
set_option maxRecDepth 20000 in
theorem ggX2_readByName_X2_isGroup : GoodIn wsX2_readByName wsX2_isGroup := goodIn_r _ [11] (by decide +kernel) (by decide +kernel)
set_option maxRecDepth 20000 in
theorem gX2_readByName_X2_isGroup : GoodIn wsX2_readByName (wsV RX2 42 RX2 yX2_isGroup wsX2_isGroup) := goodIn_app (goodIn_of _ (by decide +kernel)) ggX2_readByName_X2_isGroup
set_option maxRecDepth 20000 in
theorem ggX2_readByName_X2_isName : GoodIn wsX2_readByName wsX2_isName := goodIn_r _ [15] (by decide +kernel) (by decide +kernel)
set_option maxRecDepth 20000 in
theorem gX2_readByName_X2_isName : GoodIn wsX2_readByName (wsV RX2 56 RX2 yX2_isName wsX2_isName) := goodIn_app (goodIn_of _ (by decide +kernel)) ggX2_readByName_X2_isName
set_option maxRecDepth 20000 in
theorem ggX2_readByName_X0_serialOf : GoodIn wsX2_readByName wsX0_serialOf := goodIn_r _ [20, 21, 22, 23, 45, 46, 47, 48, 49, 50, 51, 52, 53, 54] (by decide +kernel) (by decide +kernel)
set_option maxRecDepth 20000 in
theorem gX2_readByName_X0_serialOf : GoodIn wsX2_readByName (wsV RX2 71 RX0 yX0_serialOf wsX0_serialOf) := goodIn_app (goodIn_of _ (by decide +kernel)) ggX2_readByName_X0_serialOf
set_option maxRecDepth 20000 in
theorem ggX2_readByName_X0_isThere : GoodIn wsX2_readByName wsX0_isThere := goodIn_r _ [27, 23, 28, 29, 30, 19, 31, 32, 33, 34, 35, 36, 37, 45, 46, 47, 48, 49, 50, 51, 52, 53, 54] (by decide +kernel) (by decide +kernel)
set_option maxRecDepth 20000 in
theorem gX2_readByName_X0_isThere : GoodIn wsX2_readByName (wsV RX2 75 RX0 yX0_isThere wsX0_isThere) := goodIn_app (goodIn_of _ (by decide +kernel)) ggX2_readByName_X0_isThere
theorem dX2_readByName_0 : decode cX2_readByName 0 = .ok (.aload_n 0, 1) := by decide +kernel
theorem dX2_readByName_1 : decode cX2_readByName 1 = .ok (.iload_n 1, 1) := by decide +kernel
theorem dX2_readByName_2 : decode cX2_readByName 2 = .ok (.invokevirtual 42, 3) := by decide +kernel
theorem dX2_readByName_5 : decode cX2_readByName 5 = .ok (.ifCond .ne 5, 3) := by decide +kernel
theorem dX2_readByName_8 : decode cX2_readByName 8 = .ok (.iconst (-1), 1) := by decide +kernel
theorem dX2_readByName_9 : decode cX2_readByName 9 = .ok (.ireturn, 1) := by decide +kernel
theorem dX2_readByName_10 : decode cX2_readByName 10 = .ok (.aload_n 0, 1) := by decide +kernel
theorem dX2_readByName_11 : decode cX2_readByName 11 = .ok (.iload_n 2, 1) := by decide +kernel
theorem dX2_readByName_12 : decode cX2_readByName 12 = .ok (.invokevirtual 56, 3) := by decide +kernel
theorem dX2_readByName_15 : decode cX2_readByName 15 = .ok (.ifCond .ne 6, 3) := by decide +kernel
theorem dX2_readByName_18 : decode cX2_readByName 18 = .ok (.bipush (-2), 2) := by decide +kernel
theorem dX2_readByName_20 : decode cX2_readByName 20 = .ok (.ireturn, 1) := by decide +kernel
theorem dX2_readByName_21 : decode cX2_readByName 21 = .ok (.aload_n 0, 1) := by decide +kernel
theorem dX2_readByName_22 : decode cX2_readByName 22 = .ok (.getfield 11, 3) := by decide +kernel
theorem dX2_readByName_25 : decode cX2_readByName 25 = .ok (.iload_n 1, 1) := by decide +kernel
theorem dX2_readByName_26 : decode cX2_readByName 26 = .ok (.aaload, 1) := by decide +kernel
theorem dX2_readByName_27 : decode cX2_readByName 27 = .ok (.astore_n 3, 1) := by decide +kernel
theorem dX2_readByName_28 : decode cX2_readByName 28 = .ok (.aload_n 3, 1) := by decide +kernel
theorem dX2_readByName_29 : decode cX2_readByName 29 = .ok (.iload_n 2, 1) := by decide +kernel
theorem dX2_readByName_30 : decode cX2_readByName 30 = .ok (.aload_n 0, 1) := by decide +kernel
theorem dX2_readByName_31 : decode cX2_readByName 31 = .ok (.getfield 21, 3) := by decide +kernel
theorem dX2_readByName_34 : decode cX2_readByName 34 = .ok (.invokevirtual 71, 3) := by decide +kernel
theorem dX2_readByName_37 : decode cX2_readByName 37 = .ok (.istore 4, 2) := by decide +kernel
theorem dX2_readByName_39 : decode cX2_readByName 39 = .ok (.aload_n 0, 1) := by decide +kernel
theorem dX2_readByName_40 : decode cX2_readByName 40 = .ok (.dup, 1) := by decide +kernel
theorem dX2_readByName_41 : decode cX2_readByName 41 = .ok (.getfield 31, 3) := by decide +kernel
theorem dX2_readByName_44 : decode cX2_readByName 44 = .ok (.iconst 1, 1) := by decide +kernel
theorem dX2_readByName_45 : decode cX2_readByName 45 = .ok (.iadd, 1) := by decide +kernel
theorem dX2_readByName_46 : decode cX2_readByName 46 = .ok (.putfield 31, 3) := by decide +kernel
theorem dX2_readByName_49 : decode cX2_readByName 49 = .ok (.aload_n 3, 1) := by decide +kernel
theorem dX2_readByName_50 : decode cX2_readByName 50 = .ok (.iload 4, 2) := by decide +kernel
theorem dX2_readByName_52 : decode cX2_readByName 52 = .ok (.invokevirtual 75, 3) := by decide +kernel
theorem dX2_readByName_55 : decode cX2_readByName 55 = .ok (.ifCond .ne 16, 3) := by decide +kernel
theorem dX2_readByName_58 : decode cX2_readByName 58 = .ok (.aload_n 0, 1) := by decide +kernel
theorem dX2_readByName_59 : decode cX2_readByName 59 = .ok (.dup, 1) := by decide +kernel
theorem dX2_readByName_60 : decode cX2_readByName 60 = .ok (.getfield 34, 3) := by decide +kernel
theorem dX2_readByName_63 : decode cX2_readByName 63 = .ok (.iconst 1, 1) := by decide +kernel
theorem dX2_readByName_64 : decode cX2_readByName 64 = .ok (.iadd, 1) := by decide +kernel
theorem dX2_readByName_65 : decode cX2_readByName 65 = .ok (.putfield 34, 3) := by decide +kernel
theorem dX2_readByName_68 : decode cX2_readByName 68 = .ok (.bipush (-6), 2) := by decide +kernel
theorem dX2_readByName_70 : decode cX2_readByName 70 = .ok (.ireturn, 1) := by decide +kernel
theorem dX2_readByName_71 : decode cX2_readByName 71 = .ok (.iload 4, 2) := by decide +kernel
theorem dX2_readByName_73 : decode cX2_readByName 73 = .ok (.bipush 7, 2) := by decide +kernel
theorem dX2_readByName_75 : decode cX2_readByName 75 = .ok (.iand, 1) := by decide +kernel
theorem dX2_readByName_76 : decode cX2_readByName 76 = .ok (.istore 5, 2) := by decide +kernel
theorem dX2_readByName_78 : decode cX2_readByName 78 = .ok (.aload_n 3, 1) := by decide +kernel
theorem dX2_readByName_79 : decode cX2_readByName 79 = .ok (.getfield 82, 3) := by decide +kernel
theorem dX2_readByName_82 : decode cX2_readByName 82 = .ok (.iload 5, 2) := by decide +kernel
theorem dX2_readByName_84 : decode cX2_readByName 84 = .ok (.dup2, 1) := by decide +kernel
theorem dX2_readByName_85 : decode cX2_readByName 85 = .ok (.iaload, 1) := by decide +kernel
theorem dX2_readByName_86 : decode cX2_readByName 86 = .ok (.iconst 1, 1) := by decide +kernel
theorem dX2_readByName_87 : decode cX2_readByName 87 = .ok (.iadd, 1) := by decide +kernel
theorem dX2_readByName_88 : decode cX2_readByName 88 = .ok (.iastore, 1) := by decide +kernel
theorem dX2_readByName_89 : decode cX2_readByName 89 = .ok (.aload_n 3, 1) := by decide +kernel
theorem dX2_readByName_90 : decode cX2_readByName 90 = .ok (.getfield 78, 3) := by decide +kernel
theorem dX2_readByName_93 : decode cX2_readByName 93 = .ok (.iload 5, 2) := by decide +kernel
theorem dX2_readByName_95 : decode cX2_readByName 95 = .ok (.iaload, 1) := by decide +kernel
theorem dX2_readByName_96 : decode cX2_readByName 96 = .ok (.ireturn, 1) := by decide +kernel
set_option maxRecDepth 20000 in
theorem ggX2_deleteByName_X2_isGroup : GoodIn wsX2_deleteByName wsX2_isGroup := goodIn_r _ [7] (by decide +kernel) (by decide +kernel)
set_option maxRecDepth 20000 in
theorem gX2_deleteByName_X2_isGroup : GoodIn wsX2_deleteByName (wsV RX2 42 RX2 yX2_isGroup wsX2_isGroup) := goodIn_app (goodIn_of _ (by decide +kernel)) ggX2_deleteByName_X2_isGroup
set_option maxRecDepth 20000 in
theorem ggX2_deleteByName_X2_isName : GoodIn wsX2_deleteByName wsX2_isName := goodIn_r _ [11] (by decide +kernel) (by decide +kernel)
set_option maxRecDepth 20000 in
theorem gX2_deleteByName_X2_isName : GoodIn wsX2_deleteByName (wsV RX2 56 RX2 yX2_isName wsX2_isName) := goodIn_app (goodIn_of _ (by decide +kernel)) ggX2_deleteByName_X2_isName
set_option maxRecDepth 20000 in
theorem ggX2_deleteByName_X0_serialOf : GoodIn wsX2_deleteByName wsX0_serialOf := goodIn_r _ [16, 17, 18, 19, 56, 57, 58, 59, 60, 61, 62, 63, 64, 65] (by decide +kernel) (by decide +kernel)
set_option maxRecDepth 20000 in
theorem gX2_deleteByName_X0_serialOf : GoodIn wsX2_deleteByName (wsV RX2 71 RX0 yX0_serialOf wsX0_serialOf) := goodIn_app (goodIn_of _ (by decide +kernel)) ggX2_deleteByName_X0_serialOf
set_option maxRecDepth 20000 in
theorem ggX2_deleteByName_X0_isThere : GoodIn wsX2_deleteByName wsX0_isThere := goodIn_r _ [23, 19, 24, 25, 26, 15, 27, 28, 29, 30, 31, 32, 33, 56, 57, 58, 59, 60, 61, 62, 63, 64, 65] (by decide +kernel) (by decide +kernel)
set_option maxRecDepth 20000 in
theorem gX2_deleteByName_X0_isThere : GoodIn wsX2_deleteByName (wsV RX2 75 RX0 yX0_isThere wsX0_isThere) := goodIn_app (goodIn_of _ (by decide +kernel)) ggX2_deleteByName_X0_isThere
set_option maxRecDepth 20000 in
theorem ggX2_deleteByName_X0_makeHole : GoodIn wsX2_deleteByName wsX0_makeHole := goodIn_r _ [37, 33, 38, 39, 40, 41, 42, 15, 43, 28, 44, 24, 25, 26, 27, 19, 29, 30, 31, 32, 56, 57, 58, 59, 60, 61, 62, 63, 64, 65] (by decide +kernel) (by decide +kernel)
set_option maxRecDepth 20000 in
theorem gX2_deleteByName_X0_makeHole : GoodIn wsX2_deleteByName (wsV RX2 84 RX0 yX0_makeHole wsX0_makeHole) := goodIn_app (goodIn_of _ (by decide +kernel)) ggX2_deleteByName_X0_makeHole
set_option maxRecDepth 20000 in
theorem ggX2_deleteByName_X0_numberOf : GoodIn wsX2_deleteByName wsX0_numberOf := goodIn_r _ [48] (by decide +kernel) (by decide +kernel)
set_option maxRecDepth 20000 in
theorem gX2_deleteByName_X0_numberOf : GoodIn wsX2_deleteByName (wsV RX2 67 RX0 yX0_numberOf wsX0_numberOf) := goodIn_app (goodIn_of _ (by decide +kernel)) ggX2_deleteByName_X0_numberOf
theorem dX2_deleteByName_0 : decode cX2_deleteByName 0 = .ok (.aload_n 0, 1) := by decide +kernel
theorem dX2_deleteByName_1 : decode cX2_deleteByName 1 = .ok (.iload_n 1, 1) := by decide +kernel
theorem dX2_deleteByName_2 : decode cX2_deleteByName 2 = .ok (.invokevirtual 42, 3) := by decide +kernel
theorem dX2_deleteByName_5 : decode cX2_deleteByName 5 = .ok (.ifCond .ne 5, 3) := by decide +kernel
theorem dX2_deleteByName_8 : decode cX2_deleteByName 8 = .ok (.iconst (-1), 1) := by decide +kernel
theorem dX2_deleteByName_9 : decode cX2_deleteByName 9 = .ok (.ireturn, 1) := by decide +kernel
theorem dX2_deleteByName_10 : decode cX2_deleteByName 10 = .ok (.aload_n 0, 1) := by decide +kernel
theorem dX2_deleteByName_11 : decode cX2_deleteByName 11 = .ok (.iload_n 2, 1) := by decide +kernel
theorem dX2_deleteByName_12 : decode cX2_deleteByName 12 = .ok (.invokevirtual 56, 3) := by decide +kernel
theorem dX2_deleteByName_15 : decode cX2_deleteByName 15 = .ok (.ifCond .ne 6, 3) := by decide +kernel
theorem dX2_deleteByName_18 : decode cX2_deleteByName 18 = .ok (.bipush (-2), 2) := by decide +kernel
theorem dX2_deleteByName_20 : decode cX2_deleteByName 20 = .ok (.ireturn, 1) := by decide +kernel
theorem dX2_deleteByName_21 : decode cX2_deleteByName 21 = .ok (.aload_n 0, 1) := by decide +kernel
theorem dX2_deleteByName_22 : decode cX2_deleteByName 22 = .ok (.getfield 11, 3) := by decide +kernel
theorem dX2_deleteByName_25 : decode cX2_deleteByName 25 = .ok (.iload_n 1, 1) := by decide +kernel
theorem dX2_deleteByName_26 : decode cX2_deleteByName 26 = .ok (.aaload, 1) := by decide +kernel
theorem dX2_deleteByName_27 : decode cX2_deleteByName 27 = .ok (.astore_n 3, 1) := by decide +kernel
theorem dX2_deleteByName_28 : decode cX2_deleteByName 28 = .ok (.aload_n 3, 1) := by decide +kernel
theorem dX2_deleteByName_29 : decode cX2_deleteByName 29 = .ok (.iload_n 2, 1) := by decide +kernel
theorem dX2_deleteByName_30 : decode cX2_deleteByName 30 = .ok (.aload_n 0, 1) := by decide +kernel
theorem dX2_deleteByName_31 : decode cX2_deleteByName 31 = .ok (.getfield 21, 3) := by decide +kernel
theorem dX2_deleteByName_34 : decode cX2_deleteByName 34 = .ok (.invokevirtual 71, 3) := by decide +kernel
theorem dX2_deleteByName_37 : decode cX2_deleteByName 37 = .ok (.istore 4, 2) := by decide +kernel
theorem dX2_deleteByName_39 : decode cX2_deleteByName 39 = .ok (.aload_n 3, 1) := by decide +kernel
theorem dX2_deleteByName_40 : decode cX2_deleteByName 40 = .ok (.iload 4, 2) := by decide +kernel
theorem dX2_deleteByName_42 : decode cX2_deleteByName 42 = .ok (.invokevirtual 75, 3) := by decide +kernel
theorem dX2_deleteByName_45 : decode cX2_deleteByName 45 = .ok (.ifCond .ne 6, 3) := by decide +kernel
theorem dX2_deleteByName_48 : decode cX2_deleteByName 48 = .ok (.bipush (-5), 2) := by decide +kernel
theorem dX2_deleteByName_50 : decode cX2_deleteByName 50 = .ok (.ireturn, 1) := by decide +kernel
theorem dX2_deleteByName_51 : decode cX2_deleteByName 51 = .ok (.aload_n 3, 1) := by decide +kernel
theorem dX2_deleteByName_52 : decode cX2_deleteByName 52 = .ok (.iload 4, 2) := by decide +kernel
theorem dX2_deleteByName_54 : decode cX2_deleteByName 54 = .ok (.invokevirtual 84, 3) := by decide +kernel
theorem dX2_deleteByName_57 : decode cX2_deleteByName 57 = .ok (.aload_n 3, 1) := by decide +kernel
theorem dX2_deleteByName_58 : decode cX2_deleteByName 58 = .ok (.iload 4, 2) := by decide +kernel
theorem dX2_deleteByName_60 : decode cX2_deleteByName 60 = .ok (.invokevirtual 67, 3) := by decide +kernel
theorem dX2_deleteByName_63 : decode cX2_deleteByName 63 = .ok (.ireturn, 1) := by decide +kernel
set_option maxRecDepth 20000 in
theorem ggX2_beginJob_X2_startJob : GoodIn wsX2_beginJob wsX2_startJob := goodIn_r _ [9, 2, 10, 1, 11, 12, 13, 14, 15, 16, 17, 18, 19, 20, 21, 22, 23, 24, 25, 26, 27, 28] (by decide +kernel) (by decide +kernel)
set_option maxRecDepth 20000 in
theorem gX2_beginJob_X2_startJob : GoodIn wsX2_beginJob (wsV RX2 93 RX2 yX2_startJob wsX2_startJob) := goodIn_app (goodIn_of _ (by decide +kernel)) ggX2_beginJob_X2_startJob
theorem dX2_beginJob_0 : decode cX2_beginJob 0 = .ok (.aload_n 0, 1) := by decide +kernel
theorem dX2_beginJob_1 : decode cX2_beginJob 1 = .ok (.getfield 21, 3) := by decide +kernel
theorem dX2_beginJob_4 : decode cX2_beginJob 4 = .ok (.ifCond .eq 6, 3) := by decide +kernel
theorem dX2_beginJob_7 : decode cX2_beginJob 7 = .ok (.bipush (-5), 2) := by decide +kernel
theorem dX2_beginJob_9 : decode cX2_beginJob 9 = .ok (.ireturn, 1) := by decide +kernel
theorem dX2_beginJob_10 : decode cX2_beginJob 10 = .ok (.iconst 0, 1) := by decide +kernel
theorem dX2_beginJob_11 : decode cX2_beginJob 11 = .ok (.istore_n 1, 1) := by decide +kernel
theorem dX2_beginJob_12 : decode cX2_beginJob 12 = .ok (.iload_n 1, 1) := by decide +kernel
theorem dX2_beginJob_13 : decode cX2_beginJob 13 = .ok (.bipush 6, 2) := by decide +kernel
theorem dX2_beginJob_15 : decode cX2_beginJob 15 = .ok (.if_icmp .ge 27, 3) := by decide +kernel
theorem dX2_beginJob_18 : decode cX2_beginJob 18 = .ok (.aload_n 0, 1) := by decide +kernel
theorem dX2_beginJob_19 : decode cX2_beginJob 19 = .ok (.getfield 11, 3) := by decide +kernel
theorem dX2_beginJob_22 : decode cX2_beginJob 22 = .ok (.iload_n 1, 1) := by decide +kernel
theorem dX2_beginJob_23 : decode cX2_beginJob 23 = .ok (.aaload, 1) := by decide +kernel
theorem dX2_beginJob_24 : decode cX2_beginJob 24 = .ok (.aload_n 0, 1) := by decide +kernel
theorem dX2_beginJob_25 : decode cX2_beginJob 25 = .ok (.getfield 11, 3) := by decide +kernel
theorem dX2_beginJob_28 : decode cX2_beginJob 28 = .ok (.iload_n 1, 1) := by decide +kernel
theorem dX2_beginJob_29 : decode cX2_beginJob 29 = .ok (.aaload, 1) := by decide +kernel
theorem dX2_beginJob_30 : decode cX2_beginJob 30 = .ok (.getfield 87, 3) := by decide +kernel
theorem dX2_beginJob_33 : decode cX2_beginJob 33 = .ok (.putfield 90, 3) := by decide +kernel
theorem dX2_beginJob_36 : decode cX2_beginJob 36 = .ok (.iinc 1 1, 3) := by decide +kernel
theorem dX2_beginJob_39 : decode cX2_beginJob 39 = .ok (.goto (-27), 3) := by decide +kernel
theorem dX2_beginJob_42 : decode cX2_beginJob 42 = .ok (.aload_n 0, 1) := by decide +kernel
theorem dX2_beginJob_43 : decode cX2_beginJob 43 = .ok (.invokevirtual 93, 3) := by decide +kernel
theorem dX2_beginJob_46 : decode cX2_beginJob 46 = .ok (.ireturn, 1) := by decide +kernel
set_option maxRecDepth 20000 in
theorem ggX2_repeatJob_X2_startJob : GoodIn wsX2_repeatJob wsX2_startJob := goodIn_r _ [7, 8, 9, 1, 10, 11, 12, 13, 14, 15, 16, 17, 18, 19, 20, 21, 22, 23, 24, 25, 26, 27] (by decide +kernel) (by decide +kernel)
set_option maxRecDepth 20000 in
theorem gX2_repeatJob_X2_startJob : GoodIn wsX2_repeatJob (wsV RX2 93 RX2 yX2_startJob wsX2_startJob) := goodIn_app (goodIn_of _ (by decide +kernel)) ggX2_repeatJob_X2_startJob
theorem dX2_repeatJob_0 : decode cX2_repeatJob 0 = .ok (.aload_n 0, 1) := by decide +kernel
theorem dX2_repeatJob_1 : decode cX2_repeatJob 1 = .ok (.getfield 21, 3) := by decide +kernel
theorem dX2_repeatJob_4 : decode cX2_repeatJob 4 = .ok (.ifCond .ne 10, 3) := by decide +kernel
theorem dX2_repeatJob_7 : decode cX2_repeatJob 7 = .ok (.aload_n 0, 1) := by decide +kernel
theorem dX2_repeatJob_8 : decode cX2_repeatJob 8 = .ok (.getfield 25, 3) := by decide +kernel
theorem dX2_repeatJob_11 : decode cX2_repeatJob 11 = .ok (.ifCond .ne 6, 3) := by decide +kernel
theorem dX2_repeatJob_14 : decode cX2_repeatJob 14 = .ok (.bipush (-5), 2) := by decide +kernel
theorem dX2_repeatJob_16 : decode cX2_repeatJob 16 = .ok (.ireturn, 1) := by decide +kernel
theorem dX2_repeatJob_17 : decode cX2_repeatJob 17 = .ok (.aload_n 0, 1) := by decide +kernel
theorem dX2_repeatJob_18 : decode cX2_repeatJob 18 = .ok (.invokevirtual 93, 3) := by decide +kernel
theorem dX2_repeatJob_21 : decode cX2_repeatJob 21 = .ok (.ireturn, 1) := by decide +kernel
theorem dX2_startJob_0 : decode cX2_startJob 0 = .ok (.iconst 0, 1) := by decide +kernel
theorem dX2_startJob_1 : decode cX2_startJob 1 = .ok (.istore_n 1, 1) := by decide +kernel
theorem dX2_startJob_2 : decode cX2_startJob 2 = .ok (.iload_n 1, 1) := by decide +kernel
theorem dX2_startJob_3 : decode cX2_startJob 3 = .ok (.bipush 6, 2) := by decide +kernel
theorem dX2_startJob_5 : decode cX2_startJob 5 = .ok (.if_icmp .ge 19, 3) := by decide +kernel
theorem dX2_startJob_8 : decode cX2_startJob 8 = .ok (.aload_n 0, 1) := by decide +kernel
theorem dX2_startJob_9 : decode cX2_startJob 9 = .ok (.getfield 11, 3) := by decide +kernel
theorem dX2_startJob_12 : decode cX2_startJob 12 = .ok (.iload_n 1, 1) := by decide +kernel
theorem dX2_startJob_13 : decode cX2_startJob 13 = .ok (.aaload, 1) := by decide +kernel
theorem dX2_startJob_14 : decode cX2_startJob 14 = .ok (.iconst 0, 1) := by decide +kernel
theorem dX2_startJob_15 : decode cX2_startJob 15 = .ok (.putfield 53, 3) := by decide +kernel
theorem dX2_startJob_18 : decode cX2_startJob 18 = .ok (.iinc 1 1, 3) := by decide +kernel
theorem dX2_startJob_21 : decode cX2_startJob 21 = .ok (.goto (-19), 3) := by decide +kernel
theorem dX2_startJob_24 : decode cX2_startJob 24 = .ok (.aload_n 0, 1) := by decide +kernel
theorem dX2_startJob_25 : decode cX2_startJob 25 = .ok (.iconst 1, 1) := by decide +kernel
theorem dX2_startJob_26 : decode cX2_startJob 26 = .ok (.putfield 21, 3) := by decide +kernel
theorem dX2_startJob_29 : decode cX2_startJob 29 = .ok (.aload_n 0, 1) := by decide +kernel
theorem dX2_startJob_30 : decode cX2_startJob 30 = .ok (.dup, 1) := by decide +kernel
theorem dX2_startJob_31 : decode cX2_startJob 31 = .ok (.getfield 17, 3) := by decide +kernel
theorem dX2_startJob_34 : decode cX2_startJob 34 = .ok (.iconst 1, 1) := by decide +kernel
theorem dX2_startJob_35 : decode cX2_startJob 35 = .ok (.iadd, 1) := by decide +kernel
theorem dX2_startJob_36 : decode cX2_startJob 36 = .ok (.putfield 17, 3) := by decide +kernel
theorem dX2_startJob_39 : decode cX2_startJob 39 = .ok (.aload_n 0, 1) := by decide +kernel
theorem dX2_startJob_40 : decode cX2_startJob 40 = .ok (.getfield 17, 3) := by decide +kernel
theorem dX2_startJob_43 : decode cX2_startJob 43 = .ok (.ireturn, 1) := by decide +kernel
set_option maxRecDepth 20000 in
theorem ggX2_endJob_X0_isThere : GoodIn wsX2_endJob wsX0_isThere := goodIn_r _ [10, 11, 12, 13, 14, 9, 15, 16, 17, 18, 19, 20, 21, 45, 46, 47, 48, 49, 50, 51, 52, 53, 54] (by decide +kernel) (by decide +kernel)
set_option maxRecDepth 20000 in
theorem gX2_endJob_X0_isThere : GoodIn wsX2_endJob (wsV RX2 75 RX0 yX0_isThere wsX0_isThere) := goodIn_app (goodIn_of _ (by decide +kernel)) ggX2_endJob_X0_isThere
set_option maxRecDepth 20000 in
theorem ggX2_endJob_X0_makeHole : GoodIn wsX2_endJob wsX0_makeHole := goodIn_r _ [25, 21, 26, 27, 28, 29, 30, 9, 31, 16, 32, 12, 13, 14, 15, 11, 17, 18, 19, 20, 45, 46, 47, 48, 49, 50, 51, 52, 53, 54] (by decide +kernel) (by decide +kernel)
set_option maxRecDepth 20000 in
theorem gX2_endJob_X0_makeHole : GoodIn wsX2_endJob (wsV RX2 84 RX0 yX0_makeHole wsX0_makeHole) := goodIn_app (goodIn_of _ (by decide +kernel)) ggX2_endJob_X0_makeHole
set_option maxRecDepth 20000 in
theorem ggX2_endJob_X2_countMadeByJob : GoodIn wsX2_endJob wsX2_countMadeByJob := goodIn_r _ [37, 1, 4, 5, 6, 7, 8, 9, 10, 11, 12, 13, 14, 15, 16, 17, 18, 19, 20, 21, 38, 39, 40, 41, 42, 43, 44, 45, 46, 47, 48, 49, 50, 51, 52, 53, 54] (by decide +kernel) (by decide +kernel)
set_option maxRecDepth 20000 in
theorem gX2_endJob_X2_countMadeByJob : GoodIn wsX2_endJob (wsV RX2 97 RX2 yX2_countMadeByJob wsX2_countMadeByJob) := goodIn_app (goodIn_of _ (by decide +kernel)) ggX2_endJob_X2_countMadeByJob
theorem dX2_endJob_0 : decode cX2_endJob 0 = .ok (.iload_n 1, 1) := by decide +kernel
theorem dX2_endJob_1 : decode cX2_endJob 1 = .ok (.ifCond .eq 11, 3) := by decide +kernel
theorem dX2_endJob_4 : decode cX2_endJob 4 = .ok (.iload_n 1, 1) := by decide +kernel
theorem dX2_endJob_5 : decode cX2_endJob 5 = .ok (.iconst 1, 1) := by decide +kernel
theorem dX2_endJob_6 : decode cX2_endJob 6 = .ok (.if_icmp .eq 6, 3) := by decide +kernel
theorem dX2_endJob_9 : decode cX2_endJob 9 = .ok (.bipush (-2), 2) := by decide +kernel
theorem dX2_endJob_11 : decode cX2_endJob 11 = .ok (.ireturn, 1) := by decide +kernel
theorem dX2_endJob_12 : decode cX2_endJob 12 = .ok (.aload_n 0, 1) := by decide +kernel
theorem dX2_endJob_13 : decode cX2_endJob 13 = .ok (.getfield 21, 3) := by decide +kernel
theorem dX2_endJob_16 : decode cX2_endJob 16 = .ok (.ifCond .ne 6, 3) := by decide +kernel
theorem dX2_endJob_19 : decode cX2_endJob 19 = .ok (.bipush (-5), 2) := by decide +kernel
theorem dX2_endJob_21 : decode cX2_endJob 21 = .ok (.ireturn, 1) := by decide +kernel
theorem dX2_endJob_22 : decode cX2_endJob 22 = .ok (.aload_n 0, 1) := by decide +kernel
theorem dX2_endJob_23 : decode cX2_endJob 23 = .ok (.iload_n 1, 1) := by decide +kernel
theorem dX2_endJob_24 : decode cX2_endJob 24 = .ok (.ifCond .ne 7, 3) := by decide +kernel
theorem dX2_endJob_27 : decode cX2_endJob 27 = .ok (.iconst 1, 1) := by decide +kernel
theorem dX2_endJob_28 : decode cX2_endJob 28 = .ok (.goto 4, 3) := by decide +kernel
theorem dX2_endJob_31 : decode cX2_endJob 31 = .ok (.iconst 0, 1) := by decide +kernel
theorem dX2_endJob_32 : decode cX2_endJob 32 = .ok (.putfield 25, 3) := by decide +kernel
theorem dX2_endJob_35 : decode cX2_endJob 35 = .ok (.aload_n 0, 1) := by decide +kernel
theorem dX2_endJob_36 : decode cX2_endJob 36 = .ok (.getfield 25, 3) := by decide +kernel
theorem dX2_endJob_39 : decode cX2_endJob 39 = .ok (.ifCond .eq 13, 3) := by decide +kernel
theorem dX2_endJob_42 : decode cX2_endJob 42 = .ok (.aload_n 0, 1) := by decide +kernel
theorem dX2_endJob_43 : decode cX2_endJob 43 = .ok (.dup, 1) := by decide +kernel
theorem dX2_endJob_44 : decode cX2_endJob 44 = .ok (.getfield 28, 3) := by decide +kernel
theorem dX2_endJob_47 : decode cX2_endJob 47 = .ok (.iconst 1, 1) := by decide +kernel
theorem dX2_endJob_48 : decode cX2_endJob 48 = .ok (.iadd, 1) := by decide +kernel
theorem dX2_endJob_49 : decode cX2_endJob 49 = .ok (.putfield 28, 3) := by decide +kernel
theorem dX2_endJob_52 : decode cX2_endJob 52 = .ok (.iconst 0, 1) := by decide +kernel
theorem dX2_endJob_53 : decode cX2_endJob 53 = .ok (.istore_n 2, 1) := by decide +kernel
theorem dX2_endJob_54 : decode cX2_endJob 54 = .ok (.iload_n 2, 1) := by decide +kernel
theorem dX2_endJob_55 : decode cX2_endJob 55 = .ok (.bipush 6, 2) := by decide +kernel
theorem dX2_endJob_57 : decode cX2_endJob 57 = .ok (.if_icmp .ge 55, 3) := by decide +kernel
theorem dX2_endJob_60 : decode cX2_endJob 60 = .ok (.aload_n 0, 1) := by decide +kernel
theorem dX2_endJob_61 : decode cX2_endJob 61 = .ok (.getfield 25, 3) := by decide +kernel
theorem dX2_endJob_64 : decode cX2_endJob 64 = .ok (.ifCond .eq 42, 3) := by decide +kernel
theorem dX2_endJob_67 : decode cX2_endJob 67 = .ok (.aload_n 0, 1) := by decide +kernel
theorem dX2_endJob_68 : decode cX2_endJob 68 = .ok (.getfield 11, 3) := by decide +kernel
theorem dX2_endJob_71 : decode cX2_endJob 71 = .ok (.iload_n 2, 1) := by decide +kernel
theorem dX2_endJob_72 : decode cX2_endJob 72 = .ok (.aaload, 1) := by decide +kernel
theorem dX2_endJob_73 : decode cX2_endJob 73 = .ok (.aload_n 0, 1) := by decide +kernel
theorem dX2_endJob_74 : decode cX2_endJob 74 = .ok (.getfield 11, 3) := by decide +kernel
theorem dX2_endJob_77 : decode cX2_endJob 77 = .ok (.iload_n 2, 1) := by decide +kernel
theorem dX2_endJob_78 : decode cX2_endJob 78 = .ok (.aaload, 1) := by decide +kernel
theorem dX2_endJob_79 : decode cX2_endJob 79 = .ok (.getfield 53, 3) := by decide +kernel
theorem dX2_endJob_82 : decode cX2_endJob 82 = .ok (.invokevirtual 75, 3) := by decide +kernel
theorem dX2_endJob_85 : decode cX2_endJob 85 = .ok (.ifCond .eq 21, 3) := by decide +kernel
theorem dX2_endJob_88 : decode cX2_endJob 88 = .ok (.aload_n 0, 1) := by decide +kernel
theorem dX2_endJob_89 : decode cX2_endJob 89 = .ok (.getfield 11, 3) := by decide +kernel
theorem dX2_endJob_92 : decode cX2_endJob 92 = .ok (.iload_n 2, 1) := by decide +kernel
theorem dX2_endJob_93 : decode cX2_endJob 93 = .ok (.aaload, 1) := by decide +kernel
theorem dX2_endJob_94 : decode cX2_endJob 94 = .ok (.aload_n 0, 1) := by decide +kernel
theorem dX2_endJob_95 : decode cX2_endJob 95 = .ok (.getfield 11, 3) := by decide +kernel
theorem dX2_endJob_98 : decode cX2_endJob 98 = .ok (.iload_n 2, 1) := by decide +kernel
theorem dX2_endJob_99 : decode cX2_endJob 99 = .ok (.aaload, 1) := by decide +kernel
theorem dX2_endJob_100 : decode cX2_endJob 100 = .ok (.getfield 53, 3) := by decide +kernel
theorem dX2_endJob_103 : decode cX2_endJob 103 = .ok (.invokevirtual 84, 3) := by decide +kernel
theorem dX2_endJob_106 : decode cX2_endJob 106 = .ok (.iinc 2 1, 3) := by decide +kernel
theorem dX2_endJob_109 : decode cX2_endJob 109 = .ok (.goto (-55), 3) := by decide +kernel
theorem dX2_endJob_112 : decode cX2_endJob 112 = .ok (.aload_n 0, 1) := by decide +kernel
theorem dX2_endJob_113 : decode cX2_endJob 113 = .ok (.invokevirtual 97, 3) := by decide +kernel
theorem dX2_endJob_116 : decode cX2_endJob 116 = .ok (.istore_n 2, 1) := by decide +kernel
theorem dX2_endJob_117 : decode cX2_endJob 117 = .ok (.aload_n 0, 1) := by decide +kernel
theorem dX2_endJob_118 : decode cX2_endJob 118 = .ok (.iconst 0, 1) := by decide +kernel
theorem dX2_endJob_119 : decode cX2_endJob 119 = .ok (.putfield 21, 3) := by decide +kernel
theorem dX2_endJob_122 : decode cX2_endJob 122 = .ok (.iload_n 2, 1) := by decide +kernel
theorem dX2_endJob_123 : decode cX2_endJob 123 = .ok (.ireturn, 1) := by decide +kernel
set_option maxRecDepth 20000 in
theorem ggX2_countMadeByJob_X0_isThere : GoodIn wsX2_countMadeByJob wsX0_isThere := goodIn_r _ [8, 9, 10, 11, 12, 7, 13, 14, 15, 16, 17, 18, 19, 27, 28, 29, 30, 31, 32, 33, 34, 35, 36] (by decide +kernel) (by decide +kernel)
set_option maxRecDepth 20000 in
theorem gX2_countMadeByJob_X0_isThere : GoodIn wsX2_countMadeByJob (wsV RX2 75 RX0 yX0_isThere wsX0_isThere) := goodIn_app (goodIn_of _ (by decide +kernel)) ggX2_countMadeByJob_X0_isThere
theorem dX2_countMadeByJob_0 : decode cX2_countMadeByJob 0 = .ok (.iconst 0, 1) := by decide +kernel
theorem dX2_countMadeByJob_1 : decode cX2_countMadeByJob 1 = .ok (.istore_n 1, 1) := by decide +kernel
theorem dX2_countMadeByJob_2 : decode cX2_countMadeByJob 2 = .ok (.iconst 0, 1) := by decide +kernel
theorem dX2_countMadeByJob_3 : decode cX2_countMadeByJob 3 = .ok (.istore_n 2, 1) := by decide +kernel
theorem dX2_countMadeByJob_4 : decode cX2_countMadeByJob 4 = .ok (.iload_n 2, 1) := by decide +kernel
theorem dX2_countMadeByJob_5 : decode cX2_countMadeByJob 5 = .ok (.bipush 6, 2) := by decide +kernel
theorem dX2_countMadeByJob_7 : decode cX2_countMadeByJob 7 = .ok (.if_icmp .ge 40, 3) := by decide +kernel
theorem dX2_countMadeByJob_10 : decode cX2_countMadeByJob 10 = .ok (.aload_n 0, 1) := by decide +kernel
theorem dX2_countMadeByJob_11 : decode cX2_countMadeByJob 11 = .ok (.getfield 21, 3) := by decide +kernel
theorem dX2_countMadeByJob_14 : decode cX2_countMadeByJob 14 = .ok (.ifCond .eq 27, 3) := by decide +kernel
theorem dX2_countMadeByJob_17 : decode cX2_countMadeByJob 17 = .ok (.aload_n 0, 1) := by decide +kernel
theorem dX2_countMadeByJob_18 : decode cX2_countMadeByJob 18 = .ok (.getfield 11, 3) := by decide +kernel
theorem dX2_countMadeByJob_21 : decode cX2_countMadeByJob 21 = .ok (.iload_n 2, 1) := by decide +kernel
theorem dX2_countMadeByJob_22 : decode cX2_countMadeByJob 22 = .ok (.aaload, 1) := by decide +kernel
theorem dX2_countMadeByJob_23 : decode cX2_countMadeByJob 23 = .ok (.aload_n 0, 1) := by decide +kernel
theorem dX2_countMadeByJob_24 : decode cX2_countMadeByJob 24 = .ok (.getfield 11, 3) := by decide +kernel
theorem dX2_countMadeByJob_27 : decode cX2_countMadeByJob 27 = .ok (.iload_n 2, 1) := by decide +kernel
theorem dX2_countMadeByJob_28 : decode cX2_countMadeByJob 28 = .ok (.aaload, 1) := by decide +kernel
theorem dX2_countMadeByJob_29 : decode cX2_countMadeByJob 29 = .ok (.getfield 53, 3) := by decide +kernel
theorem dX2_countMadeByJob_32 : decode cX2_countMadeByJob 32 = .ok (.invokevirtual 75, 3) := by decide +kernel
theorem dX2_countMadeByJob_35 : decode cX2_countMadeByJob 35 = .ok (.ifCond .eq 6, 3) := by decide +kernel
theorem dX2_countMadeByJob_38 : decode cX2_countMadeByJob 38 = .ok (.iinc 1 1, 3) := by decide +kernel
theorem dX2_countMadeByJob_41 : decode cX2_countMadeByJob 41 = .ok (.iinc 2 1, 3) := by decide +kernel
theorem dX2_countMadeByJob_44 : decode cX2_countMadeByJob 44 = .ok (.goto (-40), 3) := by decide +kernel
theorem dX2_countMadeByJob_47 : decode cX2_countMadeByJob 47 = .ok (.iload_n 1, 1) := by decide +kernel
theorem dX2_countMadeByJob_48 : decode cX2_countMadeByJob 48 = .ok (.ireturn, 1) := by decide +kernel
set_option maxRecDepth 20000 in
theorem ggX2_aboutGroup_X2_isGroup : GoodIn wsX2_aboutGroup wsX2_isGroup := goodIn_r _ [11] (by decide +kernel) (by decide +kernel)
set_option maxRecDepth 20000 in
theorem gX2_aboutGroup_X2_isGroup : GoodIn wsX2_aboutGroup (wsV RX2 42 RX2 yX2_isGroup wsX2_isGroup) := goodIn_app (goodIn_of _ (by decide +kernel)) ggX2_aboutGroup_X2_isGroup
set_option maxRecDepth 20000 in
theorem ggX2_aboutGroup_X0_countHoles : GoodIn wsX2_aboutGroup wsX0_countHoles := goodIn_r _ [16, 17, 18, 19, 20, 15, 21, 22, 23, 24, 25, 26, 27, 43, 44, 45, 46, 47, 48, 49, 50, 51, 52] (by decide +kernel) (by decide +kernel)
set_option maxRecDepth 20000 in
theorem gX2_aboutGroup_X0_countHoles : GoodIn wsX2_aboutGroup (wsV RX2 103 RX0 yX0_countHoles wsX0_countHoles) := goodIn_app (goodIn_of _ (by decide +kernel)) ggX2_aboutGroup_X0_countHoles
set_option maxRecDepth 20000 in
theorem ggX2_aboutGroup_X0_numberOf : GoodIn wsX2_aboutGroup wsX0_numberOf := goodIn_r _ [31] (by decide +kernel) (by decide +kernel)
set_option maxRecDepth 20000 in
theorem gX2_aboutGroup_X0_numberOf : GoodIn wsX2_aboutGroup (wsV RX2 67 RX0 yX0_numberOf wsX0_numberOf) := goodIn_app (goodIn_of _ (by decide +kernel)) ggX2_aboutGroup_X0_numberOf
set_option maxRecDepth 20000 in
theorem ggX2_aboutGroup_X0_sumOfData : GoodIn wsX2_aboutGroup wsX0_sumOfData := goodIn_r _ [35, 17, 27, 18, 19, 20, 15, 21, 22, 23, 24, 25, 26, 43, 44, 45, 46, 47, 48, 49, 50, 51, 52] (by decide +kernel) (by decide +kernel)
set_option maxRecDepth 20000 in
theorem gX2_aboutGroup_X0_sumOfData : GoodIn wsX2_aboutGroup (wsV RX2 112 RX0 yX0_sumOfData wsX0_sumOfData) := goodIn_app (goodIn_of _ (by decide +kernel)) ggX2_aboutGroup_X0_sumOfData
theorem dX2_aboutGroup_0 : decode cX2_aboutGroup 0 = .ok (.aload_n 0, 1) := by decide +kernel
theorem dX2_aboutGroup_1 : decode cX2_aboutGroup 1 = .ok (.iload_n 1, 1) := by decide +kernel
theorem dX2_aboutGroup_2 : decode cX2_aboutGroup 2 = .ok (.invokevirtual 42, 3) := by decide +kernel
theorem dX2_aboutGroup_5 : decode cX2_aboutGroup 5 = .ok (.ifCond .ne 5, 3) := by decide +kernel
theorem dX2_aboutGroup_8 : decode cX2_aboutGroup 8 = .ok (.iconst (-1), 1) := by decide +kernel
theorem dX2_aboutGroup_9 : decode cX2_aboutGroup 9 = .ok (.ireturn, 1) := by decide +kernel
theorem dX2_aboutGroup_10 : decode cX2_aboutGroup 10 = .ok (.aload_n 0, 1) := by decide +kernel
theorem dX2_aboutGroup_11 : decode cX2_aboutGroup 11 = .ok (.getfield 11, 3) := by decide +kernel
theorem dX2_aboutGroup_14 : decode cX2_aboutGroup 14 = .ok (.iload_n 1, 1) := by decide +kernel
theorem dX2_aboutGroup_15 : decode cX2_aboutGroup 15 = .ok (.aaload, 1) := by decide +kernel
theorem dX2_aboutGroup_16 : decode cX2_aboutGroup 16 = .ok (.astore_n 3, 1) := by decide +kernel
theorem dX2_aboutGroup_17 : decode cX2_aboutGroup 17 = .ok (.iload_n 2, 1) := by decide +kernel
theorem dX2_aboutGroup_18 : decode cX2_aboutGroup 18 = .ok (.tableswitch 81 0 6 #[42, 47, 52, 57, 66, 71, 76], 42) := by decide +kernel
theorem dX2_aboutGroup_60 : decode cX2_aboutGroup 60 = .ok (.aload_n 3, 1) := by decide +kernel
theorem dX2_aboutGroup_61 : decode cX2_aboutGroup 61 = .ok (.getfield 46, 3) := by decide +kernel
theorem dX2_aboutGroup_64 : decode cX2_aboutGroup 64 = .ok (.ireturn, 1) := by decide +kernel
theorem dX2_aboutGroup_65 : decode cX2_aboutGroup 65 = .ok (.aload_n 3, 1) := by decide +kernel
theorem dX2_aboutGroup_66 : decode cX2_aboutGroup 66 = .ok (.getfield 100, 3) := by decide +kernel
theorem dX2_aboutGroup_69 : decode cX2_aboutGroup 69 = .ok (.ireturn, 1) := by decide +kernel
theorem dX2_aboutGroup_70 : decode cX2_aboutGroup 70 = .ok (.aload_n 3, 1) := by decide +kernel
theorem dX2_aboutGroup_71 : decode cX2_aboutGroup 71 = .ok (.invokevirtual 103, 3) := by decide +kernel
theorem dX2_aboutGroup_74 : decode cX2_aboutGroup 74 = .ok (.ireturn, 1) := by decide +kernel
theorem dX2_aboutGroup_75 : decode cX2_aboutGroup 75 = .ok (.aload_n 3, 1) := by decide +kernel
theorem dX2_aboutGroup_76 : decode cX2_aboutGroup 76 = .ok (.aload_n 3, 1) := by decide +kernel
theorem dX2_aboutGroup_77 : decode cX2_aboutGroup 77 = .ok (.getfield 87, 3) := by decide +kernel
theorem dX2_aboutGroup_80 : decode cX2_aboutGroup 80 = .ok (.invokevirtual 67, 3) := by decide +kernel
theorem dX2_aboutGroup_83 : decode cX2_aboutGroup 83 = .ok (.ireturn, 1) := by decide +kernel
theorem dX2_aboutGroup_84 : decode cX2_aboutGroup 84 = .ok (.aload_n 3, 1) := by decide +kernel
theorem dX2_aboutGroup_85 : decode cX2_aboutGroup 85 = .ok (.getfield 106, 3) := by decide +kernel
theorem dX2_aboutGroup_88 : decode cX2_aboutGroup 88 = .ok (.ireturn, 1) := by decide +kernel
theorem dX2_aboutGroup_89 : decode cX2_aboutGroup 89 = .ok (.aload_n 3, 1) := by decide +kernel
theorem dX2_aboutGroup_90 : decode cX2_aboutGroup 90 = .ok (.getfield 109, 3) := by decide +kernel
theorem dX2_aboutGroup_93 : decode cX2_aboutGroup 93 = .ok (.ireturn, 1) := by decide +kernel
theorem dX2_aboutGroup_94 : decode cX2_aboutGroup 94 = .ok (.aload_n 3, 1) := by decide +kernel
theorem dX2_aboutGroup_95 : decode cX2_aboutGroup 95 = .ok (.invokevirtual 112, 3) := by decide +kernel
theorem dX2_aboutGroup_98 : decode cX2_aboutGroup 98 = .ok (.ireturn, 1) := by decide +kernel
theorem dX2_aboutGroup_99 : decode cX2_aboutGroup 99 = .ok (.bipush (-2), 2) := by decide +kernel
theorem dX2_aboutGroup_101 : decode cX2_aboutGroup 101 = .ok (.ireturn, 1) := by decide +kernel
set_option maxRecDepth 20000 in
theorem ggX2_aboutGeneration_X2_isGroup : GoodIn wsX2_aboutGeneration wsX2_isGroup := goodIn_r _ [12] (by decide +kernel) (by decide +kernel)
set_option maxRecDepth 20000 in
theorem gX2_aboutGeneration_X2_isGroup : GoodIn wsX2_aboutGeneration (wsV RX2 42 RX2 yX2_isGroup wsX2_isGroup) := goodIn_app (goodIn_of _ (by decide +kernel)) ggX2_aboutGeneration_X2_isGroup
set_option maxRecDepth 20000 in
theorem ggX2_aboutGeneration_X0_numberOf : GoodIn wsX2_aboutGeneration wsX0_numberOf := goodIn_r _ [17] (by decide +kernel) (by decide +kernel)
set_option maxRecDepth 20000 in
theorem gX2_aboutGeneration_X0_numberOf : GoodIn wsX2_aboutGeneration (wsV RX2 67 RX0 yX0_numberOf wsX0_numberOf) := goodIn_app (goodIn_of _ (by decide +kernel)) ggX2_aboutGeneration_X0_numberOf
set_option maxRecDepth 20000 in
theorem ggX2_aboutGeneration_X0_isHole : GoodIn wsX2_aboutGeneration wsX0_isHole := goodIn_r _ [21, 22, 36, 37, 38, 39, 40, 41, 42, 43, 44, 45] (by decide +kernel) (by decide +kernel)
set_option maxRecDepth 20000 in
theorem gX2_aboutGeneration_X0_isHole : GoodIn wsX2_aboutGeneration (wsV RX2 115 RX0 yX0_isHole wsX0_isHole) := goodIn_app (goodIn_of _ (by decide +kernel)) ggX2_aboutGeneration_X0_isHole
set_option maxRecDepth 20000 in
theorem ggX2_aboutGeneration_X0_nameForJob : GoodIn wsX2_aboutGeneration wsX0_nameForJob := goodIn_r _ [26, 27, 28, 36, 37, 38, 39, 40, 41, 42, 43, 44, 45] (by decide +kernel) (by decide +kernel)
set_option maxRecDepth 20000 in
theorem gX2_aboutGeneration_X0_nameForJob : GoodIn wsX2_aboutGeneration (wsV RX2 121 RX0 yX0_nameForJob wsX0_nameForJob) := goodIn_app (goodIn_of _ (by decide +kernel)) ggX2_aboutGeneration_X0_nameForJob
theorem dX2_aboutGeneration_0 : decode cX2_aboutGeneration 0 = .ok (.aload_n 0, 1) := by decide +kernel
theorem dX2_aboutGeneration_1 : decode cX2_aboutGeneration 1 = .ok (.iload_n 1, 1) := by decide +kernel
theorem dX2_aboutGeneration_2 : decode cX2_aboutGeneration 2 = .ok (.invokevirtual 42, 3) := by decide +kernel
theorem dX2_aboutGeneration_5 : decode cX2_aboutGeneration 5 = .ok (.ifCond .eq 20, 3) := by decide +kernel
theorem dX2_aboutGeneration_8 : decode cX2_aboutGeneration 8 = .ok (.iload_n 2, 1) := by decide +kernel
theorem dX2_aboutGeneration_9 : decode cX2_aboutGeneration 9 = .ok (.ifCond .lt 16, 3) := by decide +kernel
theorem dX2_aboutGeneration_12 : decode cX2_aboutGeneration 12 = .ok (.iload_n 2, 1) := by decide +kernel
theorem dX2_aboutGeneration_13 : decode cX2_aboutGeneration 13 = .ok (.aload_n 0, 1) := by decide +kernel
theorem dX2_aboutGeneration_14 : decode cX2_aboutGeneration 14 = .ok (.getfield 11, 3) := by decide +kernel
theorem dX2_aboutGeneration_17 : decode cX2_aboutGeneration 17 = .ok (.iload_n 1, 1) := by decide +kernel
theorem dX2_aboutGeneration_18 : decode cX2_aboutGeneration 18 = .ok (.aaload, 1) := by decide +kernel
theorem dX2_aboutGeneration_19 : decode cX2_aboutGeneration 19 = .ok (.getfield 100, 3) := by decide +kernel
theorem dX2_aboutGeneration_22 : decode cX2_aboutGeneration 22 = .ok (.if_icmp .lt 5, 3) := by decide +kernel
theorem dX2_aboutGeneration_25 : decode cX2_aboutGeneration 25 = .ok (.iconst (-1), 1) := by decide +kernel
theorem dX2_aboutGeneration_26 : decode cX2_aboutGeneration 26 = .ok (.ireturn, 1) := by decide +kernel
theorem dX2_aboutGeneration_27 : decode cX2_aboutGeneration 27 = .ok (.aload_n 0, 1) := by decide +kernel
theorem dX2_aboutGeneration_28 : decode cX2_aboutGeneration 28 = .ok (.getfield 11, 3) := by decide +kernel
theorem dX2_aboutGeneration_31 : decode cX2_aboutGeneration 31 = .ok (.iload_n 1, 1) := by decide +kernel
theorem dX2_aboutGeneration_32 : decode cX2_aboutGeneration 32 = .ok (.aaload, 1) := by decide +kernel
theorem dX2_aboutGeneration_33 : decode cX2_aboutGeneration 33 = .ok (.astore 4, 2) := by decide +kernel
theorem dX2_aboutGeneration_35 : decode cX2_aboutGeneration 35 = .ok (.aload 4, 2) := by decide +kernel
theorem dX2_aboutGeneration_37 : decode cX2_aboutGeneration 37 = .ok (.getfield 87, 3) := by decide +kernel
theorem dX2_aboutGeneration_40 : decode cX2_aboutGeneration 40 = .ok (.iload_n 2, 1) := by decide +kernel
theorem dX2_aboutGeneration_41 : decode cX2_aboutGeneration 41 = .ok (.isub, 1) := by decide +kernel
theorem dX2_aboutGeneration_42 : decode cX2_aboutGeneration 42 = .ok (.istore 5, 2) := by decide +kernel
theorem dX2_aboutGeneration_44 : decode cX2_aboutGeneration 44 = .ok (.iload 5, 2) := by decide +kernel
theorem dX2_aboutGeneration_46 : decode cX2_aboutGeneration 46 = .ok (.bipush 7, 2) := by decide +kernel
theorem dX2_aboutGeneration_48 : decode cX2_aboutGeneration 48 = .ok (.iand, 1) := by decide +kernel
theorem dX2_aboutGeneration_49 : decode cX2_aboutGeneration 49 = .ok (.istore 6, 2) := by decide +kernel
theorem dX2_aboutGeneration_51 : decode cX2_aboutGeneration 51 = .ok (.iload_n 3, 1) := by decide +kernel
theorem dX2_aboutGeneration_52 : decode cX2_aboutGeneration 52 = .ok (.tableswitch 121 0 5 #[40, 48, 57, 73, 82, 91], 40) := by decide +kernel
theorem dX2_aboutGeneration_92 : decode cX2_aboutGeneration 92 = .ok (.aload 4, 2) := by decide +kernel
theorem dX2_aboutGeneration_94 : decode cX2_aboutGeneration 94 = .ok (.iload 5, 2) := by decide +kernel
theorem dX2_aboutGeneration_96 : decode cX2_aboutGeneration 96 = .ok (.invokevirtual 67, 3) := by decide +kernel
theorem dX2_aboutGeneration_99 : decode cX2_aboutGeneration 99 = .ok (.ireturn, 1) := by decide +kernel
theorem dX2_aboutGeneration_100 : decode cX2_aboutGeneration 100 = .ok (.aload 4, 2) := by decide +kernel
theorem dX2_aboutGeneration_102 : decode cX2_aboutGeneration 102 = .ok (.getfield 78, 3) := by decide +kernel
theorem dX2_aboutGeneration_105 : decode cX2_aboutGeneration 105 = .ok (.iload 6, 2) := by decide +kernel
theorem dX2_aboutGeneration_107 : decode cX2_aboutGeneration 107 = .ok (.iaload, 1) := by decide +kernel
theorem dX2_aboutGeneration_108 : decode cX2_aboutGeneration 108 = .ok (.ireturn, 1) := by decide +kernel
theorem dX2_aboutGeneration_109 : decode cX2_aboutGeneration 109 = .ok (.aload 4, 2) := by decide +kernel
theorem dX2_aboutGeneration_111 : decode cX2_aboutGeneration 111 = .ok (.iload 5, 2) := by decide +kernel
theorem dX2_aboutGeneration_113 : decode cX2_aboutGeneration 113 = .ok (.invokevirtual 115, 3) := by decide +kernel
theorem dX2_aboutGeneration_116 : decode cX2_aboutGeneration 116 = .ok (.ifCond .eq 7, 3) := by decide +kernel
theorem dX2_aboutGeneration_119 : decode cX2_aboutGeneration 119 = .ok (.iconst 1, 1) := by decide +kernel
theorem dX2_aboutGeneration_120 : decode cX2_aboutGeneration 120 = .ok (.goto 4, 3) := by decide +kernel
theorem dX2_aboutGeneration_123 : decode cX2_aboutGeneration 123 = .ok (.iconst 0, 1) := by decide +kernel
theorem dX2_aboutGeneration_124 : decode cX2_aboutGeneration 124 = .ok (.ireturn, 1) := by decide +kernel
theorem dX2_aboutGeneration_125 : decode cX2_aboutGeneration 125 = .ok (.aload 4, 2) := by decide +kernel
theorem dX2_aboutGeneration_127 : decode cX2_aboutGeneration 127 = .ok (.getfield 82, 3) := by decide +kernel
theorem dX2_aboutGeneration_130 : decode cX2_aboutGeneration 130 = .ok (.iload 6, 2) := by decide +kernel
theorem dX2_aboutGeneration_132 : decode cX2_aboutGeneration 132 = .ok (.iaload, 1) := by decide +kernel
theorem dX2_aboutGeneration_133 : decode cX2_aboutGeneration 133 = .ok (.ireturn, 1) := by decide +kernel
theorem dX2_aboutGeneration_134 : decode cX2_aboutGeneration 134 = .ok (.aload 4, 2) := by decide +kernel
theorem dX2_aboutGeneration_136 : decode cX2_aboutGeneration 136 = .ok (.getfield 118, 3) := by decide +kernel
theorem dX2_aboutGeneration_139 : decode cX2_aboutGeneration 139 = .ok (.iload 6, 2) := by decide +kernel
theorem dX2_aboutGeneration_141 : decode cX2_aboutGeneration 141 = .ok (.iaload, 1) := by decide +kernel
theorem dX2_aboutGeneration_142 : decode cX2_aboutGeneration 142 = .ok (.ireturn, 1) := by decide +kernel
theorem dX2_aboutGeneration_143 : decode cX2_aboutGeneration 143 = .ok (.aload_n 0, 1) := by decide +kernel
theorem dX2_aboutGeneration_144 : decode cX2_aboutGeneration 144 = .ok (.getfield 21, 3) := by decide +kernel
theorem dX2_aboutGeneration_147 : decode cX2_aboutGeneration 147 = .ok (.ifCond .eq 23, 3) := by decide +kernel
theorem dX2_aboutGeneration_150 : decode cX2_aboutGeneration 150 = .ok (.aload 4, 2) := by decide +kernel
theorem dX2_aboutGeneration_152 : decode cX2_aboutGeneration 152 = .ok (.iload 5, 2) := by decide +kernel
theorem dX2_aboutGeneration_154 : decode cX2_aboutGeneration 154 = .ok (.invokevirtual 115, 3) := by decide +kernel
theorem dX2_aboutGeneration_157 : decode cX2_aboutGeneration 157 = .ok (.ifCond .ne 13, 3) := by decide +kernel
theorem dX2_aboutGeneration_160 : decode cX2_aboutGeneration 160 = .ok (.aload 4, 2) := by decide +kernel
theorem dX2_aboutGeneration_162 : decode cX2_aboutGeneration 162 = .ok (.iload 5, 2) := by decide +kernel
theorem dX2_aboutGeneration_164 : decode cX2_aboutGeneration 164 = .ok (.invokevirtual 121, 3) := by decide +kernel
theorem dX2_aboutGeneration_167 : decode cX2_aboutGeneration 167 = .ok (.goto 5, 3) := by decide +kernel
theorem dX2_aboutGeneration_170 : decode cX2_aboutGeneration 170 = .ok (.bipush (-6), 2) := by decide +kernel
theorem dX2_aboutGeneration_172 : decode cX2_aboutGeneration 172 = .ok (.ireturn, 1) := by decide +kernel
theorem dX2_aboutGeneration_173 : decode cX2_aboutGeneration 173 = .ok (.bipush (-2), 2) := by decide +kernel
theorem dX2_aboutGeneration_175 : decode cX2_aboutGeneration 175 = .ok (.ireturn, 1) := by decide +kernel
set_option maxRecDepth 20000 in
theorem ggX2_numberByName_X2_isGroup : GoodIn wsX2_numberByName wsX2_isGroup := goodIn_r _ [7] (by decide +kernel) (by decide +kernel)
set_option maxRecDepth 20000 in
theorem gX2_numberByName_X2_isGroup : GoodIn wsX2_numberByName (wsV RX2 42 RX2 yX2_isGroup wsX2_isGroup) := goodIn_app (goodIn_of _ (by decide +kernel)) ggX2_numberByName_X2_isGroup
set_option maxRecDepth 20000 in
theorem ggX2_numberByName_X2_isName : GoodIn wsX2_numberByName wsX2_isName := goodIn_r _ [11] (by decide +kernel) (by decide +kernel)
set_option maxRecDepth 20000 in
theorem gX2_numberByName_X2_isName : GoodIn wsX2_numberByName (wsV RX2 56 RX2 yX2_isName wsX2_isName) := goodIn_app (goodIn_of _ (by decide +kernel)) ggX2_numberByName_X2_isName
set_option maxRecDepth 20000 in
theorem ggX2_numberByName_X0_serialOf : GoodIn wsX2_numberByName wsX0_serialOf := goodIn_r _ [16, 17, 18, 19, 49, 50, 51, 52, 53, 54, 55, 56, 57, 58] (by decide +kernel) (by decide +kernel)
set_option maxRecDepth 20000 in
theorem gX2_numberByName_X0_serialOf : GoodIn wsX2_numberByName (wsV RX2 71 RX0 yX0_serialOf wsX0_serialOf) := goodIn_app (goodIn_of _ (by decide +kernel)) ggX2_numberByName_X0_serialOf
set_option maxRecDepth 20000 in
theorem ggX2_numberByName_X0_numberIfThere : GoodIn wsX2_numberByName wsX0_numberIfThere := goodIn_r _ [23, 24, 25, 26, 15, 27, 19, 28, 29, 30, 31, 32, 33, 34, 35, 36, 37, 38, 39, 40, 41, 49, 50, 51, 52, 53, 54, 55, 56, 57, 58] (by decide +kernel) (by decide +kernel)
set_option maxRecDepth 20000 in
theorem gX2_numberByName_X0_numberIfThere : GoodIn wsX2_numberByName (wsV RX2 124 RX0 yX0_numberIfThere wsX0_numberIfThere) := goodIn_app (goodIn_of _ (by decide +kernel)) ggX2_numberByName_X0_numberIfThere
theorem dX2_numberByName_0 : decode cX2_numberByName 0 = .ok (.aload_n 0, 1) := by decide +kernel
theorem dX2_numberByName_1 : decode cX2_numberByName 1 = .ok (.iload_n 1, 1) := by decide +kernel
theorem dX2_numberByName_2 : decode cX2_numberByName 2 = .ok (.invokevirtual 42, 3) := by decide +kernel
theorem dX2_numberByName_5 : decode cX2_numberByName 5 = .ok (.ifCond .ne 5, 3) := by decide +kernel
theorem dX2_numberByName_8 : decode cX2_numberByName 8 = .ok (.iconst (-1), 1) := by decide +kernel
theorem dX2_numberByName_9 : decode cX2_numberByName 9 = .ok (.ireturn, 1) := by decide +kernel
theorem dX2_numberByName_10 : decode cX2_numberByName 10 = .ok (.aload_n 0, 1) := by decide +kernel
theorem dX2_numberByName_11 : decode cX2_numberByName 11 = .ok (.iload_n 2, 1) := by decide +kernel
theorem dX2_numberByName_12 : decode cX2_numberByName 12 = .ok (.invokevirtual 56, 3) := by decide +kernel
theorem dX2_numberByName_15 : decode cX2_numberByName 15 = .ok (.ifCond .ne 6, 3) := by decide +kernel
theorem dX2_numberByName_18 : decode cX2_numberByName 18 = .ok (.bipush (-2), 2) := by decide +kernel
theorem dX2_numberByName_20 : decode cX2_numberByName 20 = .ok (.ireturn, 1) := by decide +kernel
theorem dX2_numberByName_21 : decode cX2_numberByName 21 = .ok (.aload_n 0, 1) := by decide +kernel
theorem dX2_numberByName_22 : decode cX2_numberByName 22 = .ok (.getfield 11, 3) := by decide +kernel
theorem dX2_numberByName_25 : decode cX2_numberByName 25 = .ok (.iload_n 1, 1) := by decide +kernel
theorem dX2_numberByName_26 : decode cX2_numberByName 26 = .ok (.aaload, 1) := by decide +kernel
theorem dX2_numberByName_27 : decode cX2_numberByName 27 = .ok (.astore_n 3, 1) := by decide +kernel
theorem dX2_numberByName_28 : decode cX2_numberByName 28 = .ok (.aload_n 3, 1) := by decide +kernel
theorem dX2_numberByName_29 : decode cX2_numberByName 29 = .ok (.aload_n 3, 1) := by decide +kernel
theorem dX2_numberByName_30 : decode cX2_numberByName 30 = .ok (.iload_n 2, 1) := by decide +kernel
theorem dX2_numberByName_31 : decode cX2_numberByName 31 = .ok (.aload_n 0, 1) := by decide +kernel
theorem dX2_numberByName_32 : decode cX2_numberByName 32 = .ok (.getfield 21, 3) := by decide +kernel
theorem dX2_numberByName_35 : decode cX2_numberByName 35 = .ok (.invokevirtual 71, 3) := by decide +kernel
theorem dX2_numberByName_38 : decode cX2_numberByName 38 = .ok (.invokevirtual 124, 3) := by decide +kernel
theorem dX2_numberByName_41 : decode cX2_numberByName 41 = .ok (.ireturn, 1) := by decide +kernel
set_option maxRecDepth 20000 in
theorem ggX2_counted_X2_countThere : GoodIn wsX2_counted wsX2_countThere := goodIn_r _ [10, 11, 12, 13, 14, 15, 16, 17, 18, 19, 20, 21, 22, 23, 24, 25, 26, 27, 28, 42, 43, 44, 45, 46, 47, 48, 49, 50, 51, 52, 53, 54, 55, 56, 57, 58] (by decide +kernel) (by decide +kernel)
set_option maxRecDepth 20000 in
theorem gX2_counted_X2_countThere : GoodIn wsX2_counted (wsV RX2 127 RX2 yX2_countThere wsX2_countThere) := goodIn_app (goodIn_of _ (by decide +kernel)) ggX2_counted_X2_countThere
set_option maxRecDepth 20000 in
theorem ggX2_counted_X2_countHoles : GoodIn wsX2_counted wsX2_countHoles := goodIn_r _ [32, 11, 13, 14, 15, 16, 17, 18, 19, 20, 21, 22, 23, 24, 25, 26, 27, 28, 42, 43, 44, 45, 46, 47, 48, 49, 50, 51, 52, 53, 54, 55, 56, 57, 58] (by decide +kernel) (by decide +kernel)
set_option maxRecDepth 20000 in
theorem gX2_counted_X2_countHoles : GoodIn wsX2_counted (wsV RX2 130 RX2 yX2_countHoles wsX2_countHoles) := goodIn_app (goodIn_of _ (by decide +kernel)) ggX2_counted_X2_countHoles
set_option maxRecDepth 20000 in
theorem ggX2_counted_X2_countMadeByJob : GoodIn wsX2_counted wsX2_countMadeByJob := goodIn_r _ [36, 2, 11, 37, 38, 39, 40, 16, 41, 18, 19, 20, 21, 22, 23, 24, 25, 26, 27, 28, 42, 43, 44, 45, 46, 47, 48, 49, 50, 51, 52, 53, 54, 55, 56, 57, 58] (by decide +kernel) (by decide +kernel)
set_option maxRecDepth 20000 in
theorem gX2_counted_X2_countMadeByJob : GoodIn wsX2_counted (wsV RX2 97 RX2 yX2_countMadeByJob wsX2_countMadeByJob) := goodIn_app (goodIn_of _ (by decide +kernel)) ggX2_counted_X2_countMadeByJob
theorem dX2_counted_0 : decode cX2_counted 0 = .ok (.iload_n 1, 1) := by decide +kernel
theorem dX2_counted_1 : decode cX2_counted 1 = .ok (.tableswitch 95 0 7 #[47, 52, 65, 70, 75, 80, 85, 90], 47) := by decide +kernel
theorem dX2_counted_48 : decode cX2_counted 48 = .ok (.aload_n 0, 1) := by decide +kernel
theorem dX2_counted_49 : decode cX2_counted 49 = .ok (.getfield 17, 3) := by decide +kernel
theorem dX2_counted_52 : decode cX2_counted 52 = .ok (.ireturn, 1) := by decide +kernel
theorem dX2_counted_53 : decode cX2_counted 53 = .ok (.aload_n 0, 1) := by decide +kernel
theorem dX2_counted_54 : decode cX2_counted 54 = .ok (.getfield 21, 3) := by decide +kernel
theorem dX2_counted_57 : decode cX2_counted 57 = .ok (.ifCond .eq 7, 3) := by decide +kernel
theorem dX2_counted_60 : decode cX2_counted 60 = .ok (.iconst 1, 1) := by decide +kernel
theorem dX2_counted_61 : decode cX2_counted 61 = .ok (.goto 4, 3) := by decide +kernel
theorem dX2_counted_64 : decode cX2_counted 64 = .ok (.iconst 0, 1) := by decide +kernel
theorem dX2_counted_65 : decode cX2_counted 65 = .ok (.ireturn, 1) := by decide +kernel
theorem dX2_counted_66 : decode cX2_counted 66 = .ok (.aload_n 0, 1) := by decide +kernel
theorem dX2_counted_67 : decode cX2_counted 67 = .ok (.getfield 28, 3) := by decide +kernel
theorem dX2_counted_70 : decode cX2_counted 70 = .ok (.ireturn, 1) := by decide +kernel
theorem dX2_counted_71 : decode cX2_counted 71 = .ok (.aload_n 0, 1) := by decide +kernel
theorem dX2_counted_72 : decode cX2_counted 72 = .ok (.invokevirtual 127, 3) := by decide +kernel
theorem dX2_counted_75 : decode cX2_counted 75 = .ok (.ireturn, 1) := by decide +kernel
theorem dX2_counted_76 : decode cX2_counted 76 = .ok (.aload_n 0, 1) := by decide +kernel
theorem dX2_counted_77 : decode cX2_counted 77 = .ok (.invokevirtual 130, 3) := by decide +kernel
theorem dX2_counted_80 : decode cX2_counted 80 = .ok (.ireturn, 1) := by decide +kernel
theorem dX2_counted_81 : decode cX2_counted 81 = .ok (.aload_n 0, 1) := by decide +kernel
theorem dX2_counted_82 : decode cX2_counted 82 = .ok (.getfield 31, 3) := by decide +kernel
theorem dX2_counted_85 : decode cX2_counted 85 = .ok (.ireturn, 1) := by decide +kernel
theorem dX2_counted_86 : decode cX2_counted 86 = .ok (.aload_n 0, 1) := by decide +kernel
theorem dX2_counted_87 : decode cX2_counted 87 = .ok (.getfield 34, 3) := by decide +kernel
theorem dX2_counted_90 : decode cX2_counted 90 = .ok (.ireturn, 1) := by decide +kernel
theorem dX2_counted_91 : decode cX2_counted 91 = .ok (.aload_n 0, 1) := by decide +kernel
theorem dX2_counted_92 : decode cX2_counted 92 = .ok (.invokevirtual 97, 3) := by decide +kernel
theorem dX2_counted_95 : decode cX2_counted 95 = .ok (.ireturn, 1) := by decide +kernel
theorem dX2_counted_96 : decode cX2_counted 96 = .ok (.bipush (-2), 2) := by decide +kernel
theorem dX2_counted_98 : decode cX2_counted 98 = .ok (.ireturn, 1) := by decide +kernel
set_option maxRecDepth 20000 in
theorem ggX2_countHoles_X0_countHoles : GoodIn wsX2_countHoles wsX0_countHoles := goodIn_r _ [6, 7, 8, 9, 10, 5, 11, 12, 13, 14, 15, 16, 17, 25, 26, 27, 28, 29, 30, 31, 32, 33, 34] (by decide +kernel) (by decide +kernel)
set_option maxRecDepth 20000 in
theorem gX2_countHoles_X0_countHoles : GoodIn wsX2_countHoles (wsV RX2 103 RX0 yX0_countHoles wsX0_countHoles) := goodIn_app (goodIn_of _ (by decide +kernel)) ggX2_countHoles_X0_countHoles
theorem dX2_countHoles_0 : decode cX2_countHoles 0 = .ok (.iconst 0, 1) := by decide +kernel
theorem dX2_countHoles_1 : decode cX2_countHoles 1 = .ok (.istore_n 1, 1) := by decide +kernel
theorem dX2_countHoles_2 : decode cX2_countHoles 2 = .ok (.iconst 0, 1) := by decide +kernel
theorem dX2_countHoles_3 : decode cX2_countHoles 3 = .ok (.istore_n 2, 1) := by decide +kernel
theorem dX2_countHoles_4 : decode cX2_countHoles 4 = .ok (.iload_n 2, 1) := by decide +kernel
theorem dX2_countHoles_5 : decode cX2_countHoles 5 = .ok (.bipush 6, 2) := by decide +kernel
theorem dX2_countHoles_7 : decode cX2_countHoles 7 = .ok (.if_icmp .ge 21, 3) := by decide +kernel
theorem dX2_countHoles_10 : decode cX2_countHoles 10 = .ok (.iload_n 1, 1) := by decide +kernel
theorem dX2_countHoles_11 : decode cX2_countHoles 11 = .ok (.aload_n 0, 1) := by decide +kernel
theorem dX2_countHoles_12 : decode cX2_countHoles 12 = .ok (.getfield 11, 3) := by decide +kernel
theorem dX2_countHoles_15 : decode cX2_countHoles 15 = .ok (.iload_n 2, 1) := by decide +kernel
theorem dX2_countHoles_16 : decode cX2_countHoles 16 = .ok (.aaload, 1) := by decide +kernel
theorem dX2_countHoles_17 : decode cX2_countHoles 17 = .ok (.invokevirtual 103, 3) := by decide +kernel
theorem dX2_countHoles_20 : decode cX2_countHoles 20 = .ok (.iadd, 1) := by decide +kernel
theorem dX2_countHoles_21 : decode cX2_countHoles 21 = .ok (.istore_n 1, 1) := by decide +kernel
theorem dX2_countHoles_22 : decode cX2_countHoles 22 = .ok (.iinc 2 1, 3) := by decide +kernel
theorem dX2_countHoles_25 : decode cX2_countHoles 25 = .ok (.goto (-21), 3) := by decide +kernel
theorem dX2_countHoles_28 : decode cX2_countHoles 28 = .ok (.iload_n 1, 1) := by decide +kernel
theorem dX2_countHoles_29 : decode cX2_countHoles 29 = .ok (.ireturn, 1) := by decide +kernel
set_option maxRecDepth 20000 in
theorem ggX2_countThere_X0_countHoles : GoodIn wsX2_countThere wsX0_countHoles := goodIn_r _ [7, 8, 9, 10, 11, 6, 12, 13, 14, 15, 16, 17, 18, 26, 27, 28, 29, 30, 31, 32, 33, 34, 35] (by decide +kernel) (by decide +kernel)
set_option maxRecDepth 20000 in
theorem gX2_countThere_X0_countHoles : GoodIn wsX2_countThere (wsV RX2 103 RX0 yX0_countHoles wsX0_countHoles) := goodIn_app (goodIn_of _ (by decide +kernel)) ggX2_countThere_X0_countHoles
theorem dX2_countThere_0 : decode cX2_countThere 0 = .ok (.iconst 0, 1) := by decide +kernel
theorem dX2_countThere_1 : decode cX2_countThere 1 = .ok (.istore_n 1, 1) := by decide +kernel
theorem dX2_countThere_2 : decode cX2_countThere 2 = .ok (.iconst 0, 1) := by decide +kernel
theorem dX2_countThere_3 : decode cX2_countThere 3 = .ok (.istore_n 2, 1) := by decide +kernel
theorem dX2_countThere_4 : decode cX2_countThere 4 = .ok (.iload_n 2, 1) := by decide +kernel
theorem dX2_countThere_5 : decode cX2_countThere 5 = .ok (.bipush 6, 2) := by decide +kernel
theorem dX2_countThere_7 : decode cX2_countThere 7 = .ok (.if_icmp .ge 31, 3) := by decide +kernel
theorem dX2_countThere_10 : decode cX2_countThere 10 = .ok (.iload_n 1, 1) := by decide +kernel
theorem dX2_countThere_11 : decode cX2_countThere 11 = .ok (.aload_n 0, 1) := by decide +kernel
theorem dX2_countThere_12 : decode cX2_countThere 12 = .ok (.getfield 11, 3) := by decide +kernel
theorem dX2_countThere_15 : decode cX2_countThere 15 = .ok (.iload_n 2, 1) := by decide +kernel
theorem dX2_countThere_16 : decode cX2_countThere 16 = .ok (.aaload, 1) := by decide +kernel
theorem dX2_countThere_17 : decode cX2_countThere 17 = .ok (.getfield 100, 3) := by decide +kernel
theorem dX2_countThere_20 : decode cX2_countThere 20 = .ok (.aload_n 0, 1) := by decide +kernel
theorem dX2_countThere_21 : decode cX2_countThere 21 = .ok (.getfield 11, 3) := by decide +kernel
theorem dX2_countThere_24 : decode cX2_countThere 24 = .ok (.iload_n 2, 1) := by decide +kernel
theorem dX2_countThere_25 : decode cX2_countThere 25 = .ok (.aaload, 1) := by decide +kernel
theorem dX2_countThere_26 : decode cX2_countThere 26 = .ok (.invokevirtual 103, 3) := by decide +kernel
theorem dX2_countThere_29 : decode cX2_countThere 29 = .ok (.isub, 1) := by decide +kernel
theorem dX2_countThere_30 : decode cX2_countThere 30 = .ok (.iadd, 1) := by decide +kernel
theorem dX2_countThere_31 : decode cX2_countThere 31 = .ok (.istore_n 1, 1) := by decide +kernel
theorem dX2_countThere_32 : decode cX2_countThere 32 = .ok (.iinc 2 1, 3) := by decide +kernel
theorem dX2_countThere_35 : decode cX2_countThere 35 = .ok (.goto (-31), 3) := by decide +kernel
theorem dX2_countThere_38 : decode cX2_countThere 38 = .ok (.iload_n 1, 1) := by decide +kernel
theorem dX2_countThere_39 : decode cX2_countThere 39 = .ok (.ireturn, 1) := by decide +kernel
set_option maxRecDepth 20000 in
theorem ggX2_groupsThatAre_X2_isSo : GoodIn wsX2_groupsThatAre wsX2_isSo := goodIn_r _ [6, 7, 8, 9, 10, 11, 12, 13, 14, 15, 16, 17, 18, 19, 20, 21, 22, 23, 24, 25, 26, 27, 5, 28, 29, 30, 31, 32, 33, 34, 35, 36, 37, 38, 39, 47, 48, 49, 50, 51, 52, 53, 54, 55, 56, 40, 41, 42, 43, 44, 45, 46] (by decide +kernel) (by decide +kernel)
set_option maxRecDepth 20000 in
theorem gX2_groupsThatAre_X2_isSo : GoodIn wsX2_groupsThatAre (wsV RX2 131 RX2 yX2_isSo wsX2_isSo) := goodIn_app (goodIn_of _ (by decide +kernel)) ggX2_groupsThatAre_X2_isSo
theorem dX2_groupsThatAre_0 : decode cX2_groupsThatAre 0 = .ok (.iload_n 1, 1) := by decide +kernel
theorem dX2_groupsThatAre_1 : decode cX2_groupsThatAre 1 = .ok (.ifCond .lt 8, 3) := by decide +kernel
theorem dX2_groupsThatAre_4 : decode cX2_groupsThatAre 4 = .ok (.iload_n 1, 1) := by decide +kernel
theorem dX2_groupsThatAre_5 : decode cX2_groupsThatAre 5 = .ok (.iconst 2, 1) := by decide +kernel
theorem dX2_groupsThatAre_6 : decode cX2_groupsThatAre 6 = .ok (.if_icmp .le 6, 3) := by decide +kernel
theorem dX2_groupsThatAre_9 : decode cX2_groupsThatAre 9 = .ok (.bipush (-2), 2) := by decide +kernel
theorem dX2_groupsThatAre_11 : decode cX2_groupsThatAre 11 = .ok (.ireturn, 1) := by decide +kernel
theorem dX2_groupsThatAre_12 : decode cX2_groupsThatAre 12 = .ok (.iconst 0, 1) := by decide +kernel
theorem dX2_groupsThatAre_13 : decode cX2_groupsThatAre 13 = .ok (.istore_n 2, 1) := by decide +kernel
theorem dX2_groupsThatAre_14 : decode cX2_groupsThatAre 14 = .ok (.iconst 0, 1) := by decide +kernel
theorem dX2_groupsThatAre_15 : decode cX2_groupsThatAre 15 = .ok (.istore_n 3, 1) := by decide +kernel
theorem dX2_groupsThatAre_16 : decode cX2_groupsThatAre 16 = .ok (.iload_n 3, 1) := by decide +kernel
theorem dX2_groupsThatAre_17 : decode cX2_groupsThatAre 17 = .ok (.bipush 6, 2) := by decide +kernel
theorem dX2_groupsThatAre_19 : decode cX2_groupsThatAre 19 = .ok (.if_icmp .ge 29, 3) := by decide +kernel
theorem dX2_groupsThatAre_22 : decode cX2_groupsThatAre 22 = .ok (.aload_n 0, 1) := by decide +kernel
theorem dX2_groupsThatAre_23 : decode cX2_groupsThatAre 23 = .ok (.aload_n 0, 1) := by decide +kernel
theorem dX2_groupsThatAre_24 : decode cX2_groupsThatAre 24 = .ok (.getfield 11, 3) := by decide +kernel
theorem dX2_groupsThatAre_27 : decode cX2_groupsThatAre 27 = .ok (.iload_n 3, 1) := by decide +kernel
theorem dX2_groupsThatAre_28 : decode cX2_groupsThatAre 28 = .ok (.aaload, 1) := by decide +kernel
theorem dX2_groupsThatAre_29 : decode cX2_groupsThatAre 29 = .ok (.iload_n 1, 1) := by decide +kernel
theorem dX2_groupsThatAre_30 : decode cX2_groupsThatAre 30 = .ok (.invokevirtual 131, 3) := by decide +kernel
theorem dX2_groupsThatAre_33 : decode cX2_groupsThatAre 33 = .ok (.ifCond .eq 9, 3) := by decide +kernel
theorem dX2_groupsThatAre_36 : decode cX2_groupsThatAre 36 = .ok (.iload_n 2, 1) := by decide +kernel
theorem dX2_groupsThatAre_37 : decode cX2_groupsThatAre 37 = .ok (.iconst 1, 1) := by decide +kernel
theorem dX2_groupsThatAre_38 : decode cX2_groupsThatAre 38 = .ok (.iload_n 3, 1) := by decide +kernel
theorem dX2_groupsThatAre_39 : decode cX2_groupsThatAre 39 = .ok (.ishl, 1) := by decide +kernel
theorem dX2_groupsThatAre_40 : decode cX2_groupsThatAre 40 = .ok (.ior, 1) := by decide +kernel
theorem dX2_groupsThatAre_41 : decode cX2_groupsThatAre 41 = .ok (.istore_n 2, 1) := by decide +kernel
theorem dX2_groupsThatAre_42 : decode cX2_groupsThatAre 42 = .ok (.iinc 3 1, 3) := by decide +kernel
theorem dX2_groupsThatAre_45 : decode cX2_groupsThatAre 45 = .ok (.goto (-29), 3) := by decide +kernel
theorem dX2_groupsThatAre_48 : decode cX2_groupsThatAre 48 = .ok (.iload_n 2, 1) := by decide +kernel
theorem dX2_groupsThatAre_49 : decode cX2_groupsThatAre 49 = .ok (.ireturn, 1) := by decide +kernel
set_option maxRecDepth 20000 in
theorem ggX2_isSo_X0_countHoles : GoodIn wsX2_isSo wsX0_countHoles := goodIn_r _ [7, 8, 9, 10, 11, 6, 12, 13, 14, 15, 16, 17, 18, 35, 36, 37, 38, 39, 40, 41, 42, 43, 44] (by decide +kernel) (by decide +kernel)
set_option maxRecDepth 20000 in
theorem gX2_isSo_X0_countHoles : GoodIn wsX2_isSo (wsV RX2 103 RX0 yX0_countHoles wsX0_countHoles) := goodIn_app (goodIn_of _ (by decide +kernel)) ggX2_isSo_X0_countHoles
set_option maxRecDepth 20000 in
theorem ggX2_isSo_X2_hasNewestOfJob : GoodIn wsX2_isSo wsX2_hasNewestOfJob := goodIn_r _ [23, 2, 24, 45, 46, 47, 48, 49, 50, 51, 35, 36, 37, 38, 39, 40, 41, 42, 43, 44] (by decide +kernel) (by decide +kernel)
set_option maxRecDepth 20000 in
theorem gX2_isSo_X2_hasNewestOfJob : GoodIn wsX2_isSo (wsV RX2 59 RX2 yX2_hasNewestOfJob wsX2_hasNewestOfJob) := goodIn_app (goodIn_of _ (by decide +kernel)) ggX2_isSo_X2_hasNewestOfJob
set_option maxRecDepth 20000 in
theorem ggX2_isSo_X0_serialOf : GoodIn wsX2_isSo wsX0_serialOf := goodIn_r _ [28, 29, 30, 8, 35, 36, 37, 38, 39, 40, 41, 42, 43, 44] (by decide +kernel) (by decide +kernel)
set_option maxRecDepth 20000 in
theorem gX2_isSo_X0_serialOf : GoodIn wsX2_isSo (wsV RX2 71 RX0 yX0_serialOf wsX0_serialOf) := goodIn_app (goodIn_of _ (by decide +kernel)) ggX2_isSo_X0_serialOf
set_option maxRecDepth 20000 in
theorem ggX2_isSo_X0_isThere : GoodIn wsX2_isSo wsX0_isThere := goodIn_r _ [34, 8, 9, 10, 11, 6, 12, 13, 14, 15, 16, 17, 18, 35, 36, 37, 38, 39, 40, 41, 42, 43, 44] (by decide +kernel) (by decide +kernel)
set_option maxRecDepth 20000 in
theorem gX2_isSo_X0_isThere : GoodIn wsX2_isSo (wsV RX2 75 RX0 yX0_isThere wsX0_isThere) := goodIn_app (goodIn_of _ (by decide +kernel)) ggX2_isSo_X0_isThere
theorem dX2_isSo_0 : decode cX2_isSo 0 = .ok (.iload_n 2, 1) := by decide +kernel
theorem dX2_isSo_1 : decode cX2_isSo 1 = .ok (.lookupswitch 61 #[(0, 27), (1, 40)], 27) := by decide +kernel
theorem dX2_isSo_28 : decode cX2_isSo 28 = .ok (.aload_n 1, 1) := by decide +kernel
theorem dX2_isSo_29 : decode cX2_isSo 29 = .ok (.invokevirtual 103, 3) := by decide +kernel
theorem dX2_isSo_32 : decode cX2_isSo 32 = .ok (.ifCond .le 7, 3) := by decide +kernel
theorem dX2_isSo_35 : decode cX2_isSo 35 = .ok (.iconst 1, 1) := by decide +kernel
theorem dX2_isSo_36 : decode cX2_isSo 36 = .ok (.goto 4, 3) := by decide +kernel
theorem dX2_isSo_39 : decode cX2_isSo 39 = .ok (.iconst 0, 1) := by decide +kernel
theorem dX2_isSo_40 : decode cX2_isSo 40 = .ok (.ireturn, 1) := by decide +kernel
theorem dX2_isSo_41 : decode cX2_isSo 41 = .ok (.aload_n 0, 1) := by decide +kernel
theorem dX2_isSo_42 : decode cX2_isSo 42 = .ok (.aload_n 1, 1) := by decide +kernel
theorem dX2_isSo_43 : decode cX2_isSo 43 = .ok (.invokevirtual 59, 3) := by decide +kernel
theorem dX2_isSo_46 : decode cX2_isSo 46 = .ok (.ifCond .eq 14, 3) := by decide +kernel
theorem dX2_isSo_49 : decode cX2_isSo 49 = .ok (.aload_n 1, 1) := by decide +kernel
theorem dX2_isSo_50 : decode cX2_isSo 50 = .ok (.getfield 100, 3) := by decide +kernel
theorem dX2_isSo_53 : decode cX2_isSo 53 = .ok (.ifCond .le 7, 3) := by decide +kernel
theorem dX2_isSo_56 : decode cX2_isSo 56 = .ok (.iconst 1, 1) := by decide +kernel
theorem dX2_isSo_57 : decode cX2_isSo 57 = .ok (.goto 4, 3) := by decide +kernel
theorem dX2_isSo_60 : decode cX2_isSo 60 = .ok (.iconst 0, 1) := by decide +kernel
theorem dX2_isSo_61 : decode cX2_isSo 61 = .ok (.ireturn, 1) := by decide +kernel
theorem dX2_isSo_62 : decode cX2_isSo 62 = .ok (.aload_n 1, 1) := by decide +kernel
theorem dX2_isSo_63 : decode cX2_isSo 63 = .ok (.aload_n 1, 1) := by decide +kernel
theorem dX2_isSo_64 : decode cX2_isSo 64 = .ok (.iconst 0, 1) := by decide +kernel
theorem dX2_isSo_65 : decode cX2_isSo 65 = .ok (.aload_n 0, 1) := by decide +kernel
theorem dX2_isSo_66 : decode cX2_isSo 66 = .ok (.getfield 21, 3) := by decide +kernel
theorem dX2_isSo_69 : decode cX2_isSo 69 = .ok (.invokevirtual 71, 3) := by decide +kernel
theorem dX2_isSo_72 : decode cX2_isSo 72 = .ok (.invokevirtual 75, 3) := by decide +kernel
theorem dX2_isSo_75 : decode cX2_isSo 75 = .ok (.ifCond .ne 7, 3) := by decide +kernel
theorem dX2_isSo_78 : decode cX2_isSo 78 = .ok (.iconst 1, 1) := by decide +kernel
theorem dX2_isSo_79 : decode cX2_isSo 79 = .ok (.goto 4, 3) := by decide +kernel
theorem dX2_isSo_82 : decode cX2_isSo 82 = .ok (.iconst 0, 1) := by decide +kernel
theorem dX2_isSo_83 : decode cX2_isSo 83 = .ok (.ireturn, 1) := by decide +kernel
set_option maxRecDepth 20000 in
theorem ggX2_numberThatRolls_X2_isGroup : GoodIn wsX2_numberThatRolls wsX2_isGroup := goodIn_r _ [8] (by decide +kernel) (by decide +kernel)
set_option maxRecDepth 20000 in
theorem gX2_numberThatRolls_X2_isGroup : GoodIn wsX2_numberThatRolls (wsV RX2 42 RX2 yX2_isGroup wsX2_isGroup) := goodIn_app (goodIn_of _ (by decide +kernel)) ggX2_numberThatRolls_X2_isGroup
set_option maxRecDepth 20000 in
theorem ggX2_numberThatRolls_X0_oldest : GoodIn wsX2_numberThatRolls wsX0_oldest := goodIn_r _ [13, 14, 15, 41, 42, 43, 44, 45, 46, 47, 48, 49, 50] (by decide +kernel) (by decide +kernel)
set_option maxRecDepth 20000 in
theorem gX2_numberThatRolls_X0_oldest : GoodIn wsX2_numberThatRolls (wsV RX2 135 RX0 yX0_oldest wsX0_oldest) := goodIn_app (goodIn_of _ (by decide +kernel)) ggX2_numberThatRolls_X0_oldest
set_option maxRecDepth 20000 in
theorem ggX2_numberThatRolls_X0_numberIfThere : GoodIn wsX2_numberThatRolls wsX0_numberIfThere := goodIn_r _ [19, 20, 21, 22, 12, 23, 14, 24, 10, 11, 13, 15, 25, 26, 27, 28, 29, 30, 31, 32, 33, 41, 42, 43, 44, 45, 46, 47, 48, 49, 50] (by decide +kernel) (by decide +kernel)
set_option maxRecDepth 20000 in
theorem gX2_numberThatRolls_X0_numberIfThere : GoodIn wsX2_numberThatRolls (wsV RX2 124 RX0 yX0_numberIfThere wsX0_numberIfThere) := goodIn_app (goodIn_of _ (by decide +kernel)) ggX2_numberThatRolls_X0_numberIfThere
theorem dX2_numberThatRolls_0 : decode cX2_numberThatRolls 0 = .ok (.aload_n 0, 1) := by decide +kernel
theorem dX2_numberThatRolls_1 : decode cX2_numberThatRolls 1 = .ok (.iload_n 1, 1) := by decide +kernel
theorem dX2_numberThatRolls_2 : decode cX2_numberThatRolls 2 = .ok (.invokevirtual 42, 3) := by decide +kernel
theorem dX2_numberThatRolls_5 : decode cX2_numberThatRolls 5 = .ok (.ifCond .ne 5, 3) := by decide +kernel
theorem dX2_numberThatRolls_8 : decode cX2_numberThatRolls 8 = .ok (.iconst (-1), 1) := by decide +kernel
theorem dX2_numberThatRolls_9 : decode cX2_numberThatRolls 9 = .ok (.ireturn, 1) := by decide +kernel
theorem dX2_numberThatRolls_10 : decode cX2_numberThatRolls 10 = .ok (.aload_n 0, 1) := by decide +kernel
theorem dX2_numberThatRolls_11 : decode cX2_numberThatRolls 11 = .ok (.getfield 11, 3) := by decide +kernel
theorem dX2_numberThatRolls_14 : decode cX2_numberThatRolls 14 = .ok (.iload_n 1, 1) := by decide +kernel
theorem dX2_numberThatRolls_15 : decode cX2_numberThatRolls 15 = .ok (.aaload, 1) := by decide +kernel
theorem dX2_numberThatRolls_16 : decode cX2_numberThatRolls 16 = .ok (.astore_n 2, 1) := by decide +kernel
theorem dX2_numberThatRolls_17 : decode cX2_numberThatRolls 17 = .ok (.aload_n 2, 1) := by decide +kernel
theorem dX2_numberThatRolls_18 : decode cX2_numberThatRolls 18 = .ok (.getfield 100, 3) := by decide +kernel
theorem dX2_numberThatRolls_21 : decode cX2_numberThatRolls 21 = .ok (.aload_n 2, 1) := by decide +kernel
theorem dX2_numberThatRolls_22 : decode cX2_numberThatRolls 22 = .ok (.getfield 46, 3) := by decide +kernel
theorem dX2_numberThatRolls_25 : decode cX2_numberThatRolls 25 = .ok (.if_icmp .lt 14, 3) := by decide +kernel
theorem dX2_numberThatRolls_28 : decode cX2_numberThatRolls 28 = .ok (.aload_n 2, 1) := by decide +kernel
theorem dX2_numberThatRolls_29 : decode cX2_numberThatRolls 29 = .ok (.aload_n 2, 1) := by decide +kernel
theorem dX2_numberThatRolls_30 : decode cX2_numberThatRolls 30 = .ok (.invokevirtual 135, 3) := by decide +kernel
theorem dX2_numberThatRolls_33 : decode cX2_numberThatRolls 33 = .ok (.invokevirtual 124, 3) := by decide +kernel
theorem dX2_numberThatRolls_36 : decode cX2_numberThatRolls 36 = .ok (.goto 5, 3) := by decide +kernel
theorem dX2_numberThatRolls_39 : decode cX2_numberThatRolls 39 = .ok (.bipush (-6), 2) := by decide +kernel
theorem dX2_numberThatRolls_41 : decode cX2_numberThatRolls 41 = .ok (.ireturn, 1) := by decide +kernel
set_option maxRecDepth 20000 in
theorem ggX2_newestIfFailed_X2_isGroup : GoodIn wsX2_newestIfFailed wsX2_isGroup := goodIn_r _ [7] (by decide +kernel) (by decide +kernel)
set_option maxRecDepth 20000 in
theorem gX2_newestIfFailed_X2_isGroup : GoodIn wsX2_newestIfFailed (wsV RX2 42 RX2 yX2_isGroup wsX2_isGroup) := goodIn_app (goodIn_of _ (by decide +kernel)) ggX2_newestIfFailed_X2_isGroup
set_option maxRecDepth 20000 in
theorem ggX2_newestIfFailed_X2_hasNewestOfJob : GoodIn wsX2_newestIfFailed wsX2_hasNewestOfJob := goodIn_r _ [11, 12, 13, 38, 39, 40, 41, 42, 43, 44, 45, 46, 47, 48, 49, 50, 51, 52, 53, 54] (by decide +kernel) (by decide +kernel)
set_option maxRecDepth 20000 in
theorem gX2_newestIfFailed_X2_hasNewestOfJob : GoodIn wsX2_newestIfFailed (wsV RX2 59 RX2 yX2_hasNewestOfJob wsX2_hasNewestOfJob) := goodIn_app (goodIn_of _ (by decide +kernel)) ggX2_newestIfFailed_X2_hasNewestOfJob
set_option maxRecDepth 20000 in
theorem ggX2_newestIfFailed_X0_numberIfThere : GoodIn wsX2_newestIfFailed wsX0_numberIfThere := goodIn_r _ [18, 19, 20, 21, 17, 22, 23, 24, 25, 26, 27, 28, 29, 30, 31, 32, 33, 34, 35, 36, 37, 45, 46, 47, 48, 49, 50, 51, 52, 53, 54] (by decide +kernel) (by decide +kernel)
set_option maxRecDepth 20000 in
theorem gX2_newestIfFailed_X0_numberIfThere : GoodIn wsX2_newestIfFailed (wsV RX2 124 RX0 yX0_numberIfThere wsX0_numberIfThere) := goodIn_app (goodIn_of _ (by decide +kernel)) ggX2_newestIfFailed_X0_numberIfThere
theorem dX2_newestIfFailed_0 : decode cX2_newestIfFailed 0 = .ok (.aload_n 0, 1) := by decide +kernel
theorem dX2_newestIfFailed_1 : decode cX2_newestIfFailed 1 = .ok (.iload_n 1, 1) := by decide +kernel
theorem dX2_newestIfFailed_2 : decode cX2_newestIfFailed 2 = .ok (.invokevirtual 42, 3) := by decide +kernel
theorem dX2_newestIfFailed_5 : decode cX2_newestIfFailed 5 = .ok (.ifCond .ne 5, 3) := by decide +kernel
theorem dX2_newestIfFailed_8 : decode cX2_newestIfFailed 8 = .ok (.iconst (-1), 1) := by decide +kernel
theorem dX2_newestIfFailed_9 : decode cX2_newestIfFailed 9 = .ok (.ireturn, 1) := by decide +kernel
theorem dX2_newestIfFailed_10 : decode cX2_newestIfFailed 10 = .ok (.aload_n 0, 1) := by decide +kernel
theorem dX2_newestIfFailed_11 : decode cX2_newestIfFailed 11 = .ok (.getfield 11, 3) := by decide +kernel
theorem dX2_newestIfFailed_14 : decode cX2_newestIfFailed 14 = .ok (.iload_n 1, 1) := by decide +kernel
theorem dX2_newestIfFailed_15 : decode cX2_newestIfFailed 15 = .ok (.aaload, 1) := by decide +kernel
theorem dX2_newestIfFailed_16 : decode cX2_newestIfFailed 16 = .ok (.astore_n 2, 1) := by decide +kernel
theorem dX2_newestIfFailed_17 : decode cX2_newestIfFailed 17 = .ok (.aload_n 0, 1) := by decide +kernel
theorem dX2_newestIfFailed_18 : decode cX2_newestIfFailed 18 = .ok (.aload_n 2, 1) := by decide +kernel
theorem dX2_newestIfFailed_19 : decode cX2_newestIfFailed 19 = .ok (.invokevirtual 59, 3) := by decide +kernel
theorem dX2_newestIfFailed_22 : decode cX2_newestIfFailed 22 = .ok (.ifCond .eq 8, 3) := by decide +kernel
theorem dX2_newestIfFailed_25 : decode cX2_newestIfFailed 25 = .ok (.bipush (-6), 2) := by decide +kernel
theorem dX2_newestIfFailed_27 : decode cX2_newestIfFailed 27 = .ok (.goto 11, 3) := by decide +kernel
theorem dX2_newestIfFailed_30 : decode cX2_newestIfFailed 30 = .ok (.aload_n 2, 1) := by decide +kernel
theorem dX2_newestIfFailed_31 : decode cX2_newestIfFailed 31 = .ok (.aload_n 2, 1) := by decide +kernel
theorem dX2_newestIfFailed_32 : decode cX2_newestIfFailed 32 = .ok (.getfield 87, 3) := by decide +kernel
theorem dX2_newestIfFailed_35 : decode cX2_newestIfFailed 35 = .ok (.invokevirtual 124, 3) := by decide +kernel
theorem dX2_newestIfFailed_38 : decode cX2_newestIfFailed 38 = .ok (.ireturn, 1) := by decide +kernel
set_option maxRecDepth 20000 in
theorem ggX2_leastKeepOf_X2_isGroup : GoodIn wsX2_leastKeepOf wsX2_isGroup := goodIn_r _ [11] (by decide +kernel) (by decide +kernel)
set_option maxRecDepth 20000 in
theorem gX2_leastKeepOf_X2_isGroup : GoodIn wsX2_leastKeepOf (wsV RX2 42 RX2 yX2_isGroup wsX2_isGroup) := goodIn_app (goodIn_of _ (by decide +kernel)) ggX2_leastKeepOf_X2_isGroup
theorem dX2_leastKeepOf_0 : decode cX2_leastKeepOf 0 = .ok (.aload_n 0, 1) := by decide +kernel
theorem dX2_leastKeepOf_1 : decode cX2_leastKeepOf 1 = .ok (.iload_n 1, 1) := by decide +kernel
theorem dX2_leastKeepOf_2 : decode cX2_leastKeepOf 2 = .ok (.invokevirtual 42, 3) := by decide +kernel
theorem dX2_leastKeepOf_5 : decode cX2_leastKeepOf 5 = .ok (.ifCond .ne 5, 3) := by decide +kernel
theorem dX2_leastKeepOf_8 : decode cX2_leastKeepOf 8 = .ok (.iconst (-1), 1) := by decide +kernel
theorem dX2_leastKeepOf_9 : decode cX2_leastKeepOf 9 = .ok (.ireturn, 1) := by decide +kernel
theorem dX2_leastKeepOf_10 : decode cX2_leastKeepOf 10 = .ok (.iconst 1, 1) := by decide +kernel
theorem dX2_leastKeepOf_11 : decode cX2_leastKeepOf 11 = .ok (.aload_n 0, 1) := by decide +kernel
theorem dX2_leastKeepOf_12 : decode cX2_leastKeepOf 12 = .ok (.getfield 11, 3) := by decide +kernel
theorem dX2_leastKeepOf_15 : decode cX2_leastKeepOf 15 = .ok (.iload_n 1, 1) := by decide +kernel
theorem dX2_leastKeepOf_16 : decode cX2_leastKeepOf 16 = .ok (.aaload, 1) := by decide +kernel
theorem dX2_leastKeepOf_17 : decode cX2_leastKeepOf 17 = .ok (.getfield 100, 3) := by decide +kernel
theorem dX2_leastKeepOf_20 : decode cX2_leastKeepOf 20 = .ok (.invokestatic 138, 3) := by decide +kernel
theorem dX2_leastKeepOf_23 : decode cX2_leastKeepOf 23 = .ok (.ireturn, 1) := by decide +kernel
theorem dJ9_max_7cf53_0 : decode cJ9_max_7cf53 0 = .ok (.iload_n 0, 1) := by decide +kernel
theorem dJ9_max_7cf53_1 : decode cJ9_max_7cf53 1 = .ok (.iload_n 1, 1) := by decide +kernel
theorem dJ9_max_7cf53_2 : decode cJ9_max_7cf53 2 = .ok (.if_icmp .lt 7, 3) := by decide +kernel
theorem dJ9_max_7cf53_5 : decode cJ9_max_7cf53 5 = .ok (.iload_n 0, 1) := by decide +kernel
theorem dJ9_max_7cf53_6 : decode cJ9_max_7cf53 6 = .ok (.goto 4, 3) := by decide +kernel
theorem dJ9_max_7cf53_9 : decode cJ9_max_7cf53 9 = .ok (.iload_n 1, 1) := by decide +kernel
theorem dJ9_max_7cf53_10 : decode cJ9_max_7cf53 10 = .ok (.ireturn, 1) := by decide +kernel
end
section
theorem dX4_init_0 : decode cX4_init 0 = .ok (.aload_n 0, 1) := by decide +kernel
theorem dX4_init_1 : decode cX4_init 1 = .ok (.invokespecial 1, 3) := by decide +kernel
theorem dX4_init_4 : decode cX4_init 4 = .ok (.aload_n 0, 1) := by decide +kernel
theorem dX4_init_5 : decode cX4_init 5 = .ok (.sipush 367, 3) := by decide +kernel
theorem dX4_init_8 : decode cX4_init 8 = .ok (.newarray .int, 2) := by decide +kernel
theorem dX4_init_10 : decode cX4_init 10 = .ok (.putfield 7, 3) := by decide +kernel
theorem dX4_init_13 : decode cX4_init 13 = .ok (.aload_n 0, 1) := by decide +kernel
theorem dX4_init_14 : decode cX4_init 14 = .ok (.sipush 2202, 3) := by decide +kernel
theorem dX4_init_17 : decode cX4_init 17 = .ok (.newarray .int, 2) := by decide +kernel
theorem dX4_init_19 : decode cX4_init 19 = .ok (.putfield 13, 3) := by decide +kernel
theorem dX4_init_22 : decode cX4_init 22 = .ok (.aload_n 0, 1) := by decide +kernel
theorem dX4_init_23 : decode cX4_init 23 = .ok (.sipush 734, 3) := by decide +kernel
theorem dX4_init_26 : decode cX4_init 26 = .ok (.newarray .int, 2) := by decide +kernel
theorem dX4_init_28 : decode cX4_init 28 = .ok (.putfield 16, 3) := by decide +kernel
theorem dX4_init_31 : decode cX4_init 31 = .ok (.aload_n 0, 1) := by decide +kernel
theorem dX4_init_32 : decode cX4_init 32 = .ok (.iconst 2, 1) := by decide +kernel
theorem dX4_init_33 : decode cX4_init 33 = .ok (.newarray .boolean, 2) := by decide +kernel
theorem dX4_init_35 : decode cX4_init 35 = .ok (.putfield 19, 3) := by decide +kernel
theorem dX4_init_38 : decode cX4_init 38 = .ok (.aload_n 0, 1) := by decide +kernel
theorem dX4_init_39 : decode cX4_init 39 = .ok (.sipush 367, 3) := by decide +kernel
theorem dX4_init_42 : decode cX4_init 42 = .ok (.newarray .int, 2) := by decide +kernel
theorem dX4_init_44 : decode cX4_init 44 = .ok (.putfield 23, 3) := by decide +kernel
theorem dX4_init_47 : decode cX4_init 47 = .ok (.aload_n 0, 1) := by decide +kernel
theorem dX4_init_48 : decode cX4_init 48 = .ok (.bipush 80, 2) := by decide +kernel
theorem dX4_init_50 : decode cX4_init 50 = .ok (.newarray .char, 2) := by decide +kernel
theorem dX4_init_52 : decode cX4_init 52 = .ok (.putfield 26, 3) := by decide +kernel
theorem dX4_init_55 : decode cX4_init 55 = .ok (.aload_n 0, 1) := by decide +kernel
theorem dX4_init_56 : decode cX4_init 56 = .ok (.sipush 164, 3) := by decide +kernel
theorem dX4_init_59 : decode cX4_init 59 = .ok (.newarray .int, 2) := by decide +kernel
theorem dX4_init_61 : decode cX4_init 61 = .ok (.putfield 30, 3) := by decide +kernel
theorem dX4_init_64 : decode cX4_init 64 = .ok (.iconst 0, 1) := by decide +kernel
theorem dX4_init_65 : decode cX4_init 65 = .ok (.istore_n 1, 1) := by decide +kernel
theorem dX4_init_66 : decode cX4_init 66 = .ok (.iload_n 1, 1) := by decide +kernel
theorem dX4_init_67 : decode cX4_init 67 = .ok (.bipush 6, 2) := by decide +kernel
theorem dX4_init_69 : decode cX4_init 69 = .ok (.if_icmp .ge 24, 3) := by decide +kernel
theorem dX4_init_72 : decode cX4_init 72 = .ok (.aload_n 0, 1) := by decide +kernel
theorem dX4_init_73 : decode cX4_init 73 = .ok (.getfield 7, 3) := by decide +kernel
theorem dX4_init_76 : decode cX4_init 76 = .ok (.bipush 7, 2) := by decide +kernel
theorem dX4_init_78 : decode cX4_init 78 = .ok (.bipush 60, 2) := by decide +kernel
theorem dX4_init_80 : decode cX4_init 80 = .ok (.iload_n 1, 1) := by decide +kernel
theorem dX4_init_81 : decode cX4_init 81 = .ok (.imul, 1) := by decide +kernel
theorem dX4_init_82 : decode cX4_init 82 = .ok (.iadd, 1) := by decide +kernel
theorem dX4_init_83 : decode cX4_init 83 = .ok (.iconst 0, 1) := by decide +kernel
theorem dX4_init_84 : decode cX4_init 84 = .ok (.iadd, 1) := by decide +kernel
theorem dX4_init_85 : decode cX4_init 85 = .ok (.iconst 3, 1) := by decide +kernel
theorem dX4_init_86 : decode cX4_init 86 = .ok (.iastore, 1) := by decide +kernel
theorem dX4_init_87 : decode cX4_init 87 = .ok (.iinc 1 1, 3) := by decide +kernel
theorem dX4_init_90 : decode cX4_init 90 = .ok (.goto (-24), 3) := by decide +kernel
theorem dX4_init_93 : decode cX4_init 93 = .ok (.return_, 1) := by decide +kernel
theorem dX4_in_0 : decode cX4_in 0 = .ok (.iload_n 0, 1) := by decide +kernel
theorem dX4_in_1 : decode cX4_in 1 = .ok (.iload_n 1, 1) := by decide +kernel
theorem dX4_in_2 : decode cX4_in 2 = .ok (.if_icmp .lt 12, 3) := by decide +kernel
theorem dX4_in_5 : decode cX4_in 5 = .ok (.iload_n 0, 1) := by decide +kernel
theorem dX4_in_6 : decode cX4_in 6 = .ok (.iload_n 2, 1) := by decide +kernel
theorem dX4_in_7 : decode cX4_in 7 = .ok (.if_icmp .gt 7, 3) := by decide +kernel
theorem dX4_in_10 : decode cX4_in 10 = .ok (.iconst 1, 1) := by decide +kernel
theorem dX4_in_11 : decode cX4_in 11 = .ok (.goto 4, 3) := by decide +kernel
theorem dX4_in_14 : decode cX4_in 14 = .ok (.iconst 0, 1) := by decide +kernel
theorem dX4_in_15 : decode cX4_in 15 = .ok (.ireturn, 1) := by decide +kernel
set_option maxRecDepth 20000 in
theorem ggX4_isGroup_X4_in : GoodIn wsX4_isGroup wsX4_in := goodIn_r _ [4] (by decide +kernel) (by decide +kernel)
set_option maxRecDepth 20000 in
theorem gX4_isGroup_X4_in : GoodIn wsX4_isGroup (va_wsS RX4 33 yX4_in wsX4_in) := goodIn_app (goodIn_of _ (by decide +kernel)) ggX4_isGroup_X4_in
theorem dX4_isGroup_0 : decode cX4_isGroup 0 = .ok (.iload_n 0, 1) := by decide +kernel
theorem dX4_isGroup_1 : decode cX4_isGroup 1 = .ok (.iconst 0, 1) := by decide +kernel
theorem dX4_isGroup_2 : decode cX4_isGroup 2 = .ok (.iconst 5, 1) := by decide +kernel
theorem dX4_isGroup_3 : decode cX4_isGroup 3 = .ok (.invokestatic 33, 3) := by decide +kernel
theorem dX4_isGroup_6 : decode cX4_isGroup 6 = .ok (.ireturn, 1) := by decide +kernel
theorem dX4_of_0 : decode cX4_of 0 = .ok (.aload_n 0, 1) := by decide +kernel
theorem dX4_of_1 : decode cX4_of 1 = .ok (.getfield 7, 3) := by decide +kernel
theorem dX4_of_4 : decode cX4_of 4 = .ok (.bipush 7, 2) := by decide +kernel
theorem dX4_of_6 : decode cX4_of 6 = .ok (.bipush 60, 2) := by decide +kernel
theorem dX4_of_8 : decode cX4_of 8 = .ok (.iload_n 1, 1) := by decide +kernel
theorem dX4_of_9 : decode cX4_of 9 = .ok (.imul, 1) := by decide +kernel
theorem dX4_of_10 : decode cX4_of 10 = .ok (.iadd, 1) := by decide +kernel
theorem dX4_of_11 : decode cX4_of 11 = .ok (.iload_n 2, 1) := by decide +kernel
theorem dX4_of_12 : decode cX4_of 12 = .ok (.iadd, 1) := by decide +kernel
theorem dX4_of_13 : decode cX4_of 13 = .ok (.iaload, 1) := by decide +kernel
theorem dX4_of_14 : decode cX4_of 14 = .ok (.ireturn, 1) := by decide +kernel
theorem dX4_lay_0 : decode cX4_lay 0 = .ok (.aload_n 0, 1) := by decide +kernel
theorem dX4_lay_1 : decode cX4_lay 1 = .ok (.getfield 7, 3) := by decide +kernel
theorem dX4_lay_4 : decode cX4_lay 4 = .ok (.bipush 7, 2) := by decide +kernel
theorem dX4_lay_6 : decode cX4_lay 6 = .ok (.bipush 60, 2) := by decide +kernel
theorem dX4_lay_8 : decode cX4_lay 8 = .ok (.iload_n 1, 1) := by decide +kernel
theorem dX4_lay_9 : decode cX4_lay 9 = .ok (.imul, 1) := by decide +kernel
theorem dX4_lay_10 : decode cX4_lay 10 = .ok (.iadd, 1) := by decide +kernel
theorem dX4_lay_11 : decode cX4_lay 11 = .ok (.iload_n 2, 1) := by decide +kernel
theorem dX4_lay_12 : decode cX4_lay 12 = .ok (.iadd, 1) := by decide +kernel
theorem dX4_lay_13 : decode cX4_lay 13 = .ok (.iload_n 3, 1) := by decide +kernel
theorem dX4_lay_14 : decode cX4_lay 14 = .ok (.iastore, 1) := by decide +kernel
theorem dX4_lay_15 : decode cX4_lay 15 = .ok (.return_, 1) := by decide +kernel
set_option maxRecDepth 20000 in
theorem ggX4_many_X4_of : GoodIn wsX4_many wsX4_of := goodIn_r _ [5, 6, 7, 8, 9, 10, 11, 12, 13, 14, 15, 16, 17, 18] (by decide +kernel) (by decide +kernel)
set_option maxRecDepth 20000 in
theorem gX4_many_X4_of : GoodIn wsX4_many (wsV RX4 37 RX4 yX4_of wsX4_of) := goodIn_app (goodIn_of _ (by decide +kernel)) ggX4_many_X4_of
theorem dX4_many_0 : decode cX4_many 0 = .ok (.aload_n 0, 1) := by decide +kernel
theorem dX4_many_1 : decode cX4_many 1 = .ok (.iload_n 1, 1) := by decide +kernel
theorem dX4_many_2 : decode cX4_many 2 = .ok (.iconst 1, 1) := by decide +kernel
theorem dX4_many_3 : decode cX4_many 3 = .ok (.invokevirtual 37, 3) := by decide +kernel
theorem dX4_many_6 : decode cX4_many 6 = .ok (.ireturn, 1) := by decide +kernel
set_option maxRecDepth 20000 in
theorem ggX4_gen_X4_of : GoodIn wsX4_gen wsX4_of := goodIn_r _ [5, 6, 7, 8, 9, 10, 11, 12, 13, 14, 15, 16, 17, 18] (by decide +kernel) (by decide +kernel)
set_option maxRecDepth 20000 in
theorem gX4_gen_X4_of : GoodIn wsX4_gen (wsV RX4 37 RX4 yX4_of wsX4_of) := goodIn_app (goodIn_of _ (by decide +kernel)) ggX4_gen_X4_of
theorem dX4_gen_0 : decode cX4_gen 0 = .ok (.aload_n 0, 1) := by decide +kernel
theorem dX4_gen_1 : decode cX4_gen 1 = .ok (.iload_n 1, 1) := by decide +kernel
theorem dX4_gen_2 : decode cX4_gen 2 = .ok (.bipush 15, 2) := by decide +kernel
theorem dX4_gen_4 : decode cX4_gen 4 = .ok (.iconst 5, 1) := by decide +kernel
theorem dX4_gen_5 : decode cX4_gen 5 = .ok (.iload_n 2, 1) := by decide +kernel
theorem dX4_gen_6 : decode cX4_gen 6 = .ok (.imul, 1) := by decide +kernel
theorem dX4_gen_7 : decode cX4_gen 7 = .ok (.iadd, 1) := by decide +kernel
theorem dX4_gen_8 : decode cX4_gen 8 = .ok (.iload_n 3, 1) := by decide +kernel
theorem dX4_gen_9 : decode cX4_gen 9 = .ok (.iadd, 1) := by decide +kernel
theorem dX4_gen_10 : decode cX4_gen 10 = .ok (.invokevirtual 37, 3) := by decide +kernel
theorem dX4_gen_13 : decode cX4_gen 13 = .ok (.ireturn, 1) := by decide +kernel
set_option maxRecDepth 20000 in
theorem ggX4_layGen_X4_lay : GoodIn wsX4_layGen wsX4_lay := goodIn_r _ [5, 6, 7, 8, 9, 10, 11, 12, 13, 14, 15, 16, 17, 18] (by decide +kernel) (by decide +kernel)
set_option maxRecDepth 20000 in
theorem gX4_layGen_X4_lay : GoodIn wsX4_layGen (wsV RX4 41 RX4 yX4_lay wsX4_lay) := goodIn_app (goodIn_of _ (by decide +kernel)) ggX4_layGen_X4_lay
theorem dX4_layGen_0 : decode cX4_layGen 0 = .ok (.aload_n 0, 1) := by decide +kernel
theorem dX4_layGen_1 : decode cX4_layGen 1 = .ok (.iload_n 1, 1) := by decide +kernel
theorem dX4_layGen_2 : decode cX4_layGen 2 = .ok (.bipush 15, 2) := by decide +kernel
theorem dX4_layGen_4 : decode cX4_layGen 4 = .ok (.iconst 5, 1) := by decide +kernel
theorem dX4_layGen_5 : decode cX4_layGen 5 = .ok (.iload_n 2, 1) := by decide +kernel
theorem dX4_layGen_6 : decode cX4_layGen 6 = .ok (.imul, 1) := by decide +kernel
theorem dX4_layGen_7 : decode cX4_layGen 7 = .ok (.iadd, 1) := by decide +kernel
theorem dX4_layGen_8 : decode cX4_layGen 8 = .ok (.iload_n 3, 1) := by decide +kernel
theorem dX4_layGen_9 : decode cX4_layGen 9 = .ok (.iadd, 1) := by decide +kernel
theorem dX4_layGen_10 : decode cX4_layGen 10 = .ok (.iload 4, 2) := by decide +kernel
theorem dX4_layGen_12 : decode cX4_layGen 12 = .ok (.invokevirtual 41, 3) := by decide +kernel
theorem dX4_layGen_15 : decode cX4_layGen 15 = .ok (.return_, 1) := by decide +kernel
set_option maxRecDepth 20000 in
theorem ggX4_isHole_X4_gen : GoodIn wsX4_isHole wsX4_gen := goodIn_r _ [5, 6, 7, 8, 4, 9, 10, 11, 12, 13, 14, 15, 16, 17, 18, 19, 20, 21, 22] (by decide +kernel) (by decide +kernel)
set_option maxRecDepth 20000 in
theorem gX4_isHole_X4_gen : GoodIn wsX4_isHole (wsV RX4 45 RX4 yX4_gen wsX4_gen) := goodIn_app (goodIn_of _ (by decide +kernel)) ggX4_isHole_X4_gen
theorem dX4_isHole_0 : decode cX4_isHole 0 = .ok (.aload_n 0, 1) := by decide +kernel
theorem dX4_isHole_1 : decode cX4_isHole 1 = .ok (.iload_n 1, 1) := by decide +kernel
theorem dX4_isHole_2 : decode cX4_isHole 2 = .ok (.iload_n 2, 1) := by decide +kernel
theorem dX4_isHole_3 : decode cX4_isHole 3 = .ok (.iconst 2, 1) := by decide +kernel
theorem dX4_isHole_4 : decode cX4_isHole 4 = .ok (.invokevirtual 45, 3) := by decide +kernel
theorem dX4_isHole_7 : decode cX4_isHole 7 = .ok (.bipush (-6), 2) := by decide +kernel
theorem dX4_isHole_9 : decode cX4_isHole 9 = .ok (.if_icmp .ne 7, 3) := by decide +kernel
theorem dX4_isHole_12 : decode cX4_isHole 12 = .ok (.iconst 1, 1) := by decide +kernel
theorem dX4_isHole_13 : decode cX4_isHole 13 = .ok (.goto 4, 3) := by decide +kernel
theorem dX4_isHole_16 : decode cX4_isHole 16 = .ok (.iconst 0, 1) := by decide +kernel
theorem dX4_isHole_17 : decode cX4_isHole 17 = .ok (.ireturn, 1) := by decide +kernel
theorem dX4_runs_0 : decode cX4_runs 0 = .ok (.aload_n 0, 1) := by decide +kernel
theorem dX4_runs_1 : decode cX4_runs 1 = .ok (.getfield 7, 3) := by decide +kernel
theorem dX4_runs_4 : decode cX4_runs 4 = .ok (.iconst 1, 1) := by decide +kernel
theorem dX4_runs_5 : decode cX4_runs 5 = .ok (.iaload, 1) := by decide +kernel
theorem dX4_runs_6 : decode cX4_runs 6 = .ok (.iconst 1, 1) := by decide +kernel
theorem dX4_runs_7 : decode cX4_runs 7 = .ok (.if_icmp .ne 7, 3) := by decide +kernel
theorem dX4_runs_10 : decode cX4_runs 10 = .ok (.iconst 1, 1) := by decide +kernel
theorem dX4_runs_11 : decode cX4_runs 11 = .ok (.goto 4, 3) := by decide +kernel
theorem dX4_runs_14 : decode cX4_runs 14 = .ok (.iconst 0, 1) := by decide +kernel
theorem dX4_runs_15 : decode cX4_runs 15 = .ok (.ireturn, 1) := by decide +kernel
theorem dX4_record_0 : decode cX4_record 0 = .ok (.aload_n 0, 1) := by decide +kernel
theorem dX4_record_1 : decode cX4_record 1 = .ok (.getfield 49, 3) := by decide +kernel
theorem dX4_record_4 : decode cX4_record 4 = .ok (.bipush 6, 2) := by decide +kernel
theorem dX4_record_6 : decode cX4_record 6 = .ok (.if_icmp .ne 44, 3) := by decide +kernel
theorem dX4_record_9 : decode cX4_record 9 = .ok (.iconst 0, 1) := by decide +kernel
theorem dX4_record_10 : decode cX4_record 10 = .ok (.istore_n 1, 1) := by decide +kernel
theorem dX4_record_11 : decode cX4_record 11 = .ok (.iload_n 1, 1) := by decide +kernel
theorem dX4_record_12 : decode cX4_record 12 = .ok (.sipush 1835, 3) := by decide +kernel
theorem dX4_record_15 : decode cX4_record 15 = .ok (.if_icmp .ge 25, 3) := by decide +kernel
theorem dX4_record_18 : decode cX4_record 18 = .ok (.aload_n 0, 1) := by decide +kernel
theorem dX4_record_19 : decode cX4_record 19 = .ok (.getfield 13, 3) := by decide +kernel
theorem dX4_record_22 : decode cX4_record 22 = .ok (.iload_n 1, 1) := by decide +kernel
theorem dX4_record_23 : decode cX4_record 23 = .ok (.aload_n 0, 1) := by decide +kernel
theorem dX4_record_24 : decode cX4_record 24 = .ok (.getfield 13, 3) := by decide +kernel
theorem dX4_record_27 : decode cX4_record 27 = .ok (.iload_n 1, 1) := by decide +kernel
theorem dX4_record_28 : decode cX4_record 28 = .ok (.sipush 367, 3) := by decide +kernel
theorem dX4_record_31 : decode cX4_record 31 = .ok (.iadd, 1) := by decide +kernel
theorem dX4_record_32 : decode cX4_record 32 = .ok (.iaload, 1) := by decide +kernel
theorem dX4_record_33 : decode cX4_record 33 = .ok (.iastore, 1) := by decide +kernel
theorem dX4_record_34 : decode cX4_record 34 = .ok (.iinc 1 1, 3) := by decide +kernel
theorem dX4_record_37 : decode cX4_record 37 = .ok (.goto (-26), 3) := by decide +kernel
theorem dX4_record_40 : decode cX4_record 40 = .ok (.aload_n 0, 1) := by decide +kernel
theorem dX4_record_41 : decode cX4_record 41 = .ok (.dup, 1) := by decide +kernel
theorem dX4_record_42 : decode cX4_record 42 = .ok (.getfield 49, 3) := by decide +kernel
theorem dX4_record_45 : decode cX4_record 45 = .ok (.iconst 1, 1) := by decide +kernel
theorem dX4_record_46 : decode cX4_record 46 = .ok (.isub, 1) := by decide +kernel
theorem dX4_record_47 : decode cX4_record 47 = .ok (.putfield 49, 3) := by decide +kernel
theorem dX4_record_50 : decode cX4_record 50 = .ok (.iconst 0, 1) := by decide +kernel
theorem dX4_record_51 : decode cX4_record 51 = .ok (.istore_n 1, 1) := by decide +kernel
theorem dX4_record_52 : decode cX4_record 52 = .ok (.iload_n 1, 1) := by decide +kernel
theorem dX4_record_53 : decode cX4_record 53 = .ok (.sipush 367, 3) := by decide +kernel
theorem dX4_record_56 : decode cX4_record 56 = .ok (.if_icmp .ge 30, 3) := by decide +kernel
theorem dX4_record_59 : decode cX4_record 59 = .ok (.aload_n 0, 1) := by decide +kernel
theorem dX4_record_60 : decode cX4_record 60 = .ok (.getfield 13, 3) := by decide +kernel
theorem dX4_record_63 : decode cX4_record 63 = .ok (.aload_n 0, 1) := by decide +kernel
theorem dX4_record_64 : decode cX4_record 64 = .ok (.getfield 49, 3) := by decide +kernel
theorem dX4_record_67 : decode cX4_record 67 = .ok (.sipush 367, 3) := by decide +kernel
theorem dX4_record_70 : decode cX4_record 70 = .ok (.imul, 1) := by decide +kernel
theorem dX4_record_71 : decode cX4_record 71 = .ok (.iload_n 1, 1) := by decide +kernel
theorem dX4_record_72 : decode cX4_record 72 = .ok (.iadd, 1) := by decide +kernel
theorem dX4_record_73 : decode cX4_record 73 = .ok (.aload_n 0, 1) := by decide +kernel
theorem dX4_record_74 : decode cX4_record 74 = .ok (.getfield 7, 3) := by decide +kernel
theorem dX4_record_77 : decode cX4_record 77 = .ok (.iload_n 1, 1) := by decide +kernel
theorem dX4_record_78 : decode cX4_record 78 = .ok (.iaload, 1) := by decide +kernel
theorem dX4_record_79 : decode cX4_record 79 = .ok (.iastore, 1) := by decide +kernel
theorem dX4_record_80 : decode cX4_record 80 = .ok (.iinc 1 1, 3) := by decide +kernel
theorem dX4_record_83 : decode cX4_record 83 = .ok (.goto (-31), 3) := by decide +kernel
theorem dX4_record_86 : decode cX4_record 86 = .ok (.aload_n 0, 1) := by decide +kernel
theorem dX4_record_87 : decode cX4_record 87 = .ok (.dup, 1) := by decide +kernel
theorem dX4_record_88 : decode cX4_record 88 = .ok (.getfield 49, 3) := by decide +kernel
theorem dX4_record_91 : decode cX4_record 91 = .ok (.iconst 1, 1) := by decide +kernel
theorem dX4_record_92 : decode cX4_record 92 = .ok (.iadd, 1) := by decide +kernel
theorem dX4_record_93 : decode cX4_record 93 = .ok (.putfield 49, 3) := by decide +kernel
theorem dX4_record_96 : decode cX4_record 96 = .ok (.return_, 1) := by decide +kernel
theorem dX4_undo_0 : decode cX4_undo 0 = .ok (.aload_n 0, 1) := by decide +kernel
theorem dX4_undo_1 : decode cX4_undo 1 = .ok (.getfield 49, 3) := by decide +kernel
theorem dX4_undo_4 : decode cX4_undo 4 = .ok (.ifCond .ne 6, 3) := by decide +kernel
theorem dX4_undo_7 : decode cX4_undo 7 = .ok (.bipush (-5), 2) := by decide +kernel
theorem dX4_undo_9 : decode cX4_undo 9 = .ok (.ireturn, 1) := by decide +kernel
theorem dX4_undo_10 : decode cX4_undo 10 = .ok (.aload_n 0, 1) := by decide +kernel
theorem dX4_undo_11 : decode cX4_undo 11 = .ok (.dup, 1) := by decide +kernel
theorem dX4_undo_12 : decode cX4_undo 12 = .ok (.getfield 49, 3) := by decide +kernel
theorem dX4_undo_15 : decode cX4_undo 15 = .ok (.iconst 1, 1) := by decide +kernel
theorem dX4_undo_16 : decode cX4_undo 16 = .ok (.isub, 1) := by decide +kernel
theorem dX4_undo_17 : decode cX4_undo 17 = .ok (.putfield 49, 3) := by decide +kernel
theorem dX4_undo_20 : decode cX4_undo 20 = .ok (.iconst 0, 1) := by decide +kernel
theorem dX4_undo_21 : decode cX4_undo 21 = .ok (.istore_n 1, 1) := by decide +kernel
theorem dX4_undo_22 : decode cX4_undo 22 = .ok (.iload_n 1, 1) := by decide +kernel
theorem dX4_undo_23 : decode cX4_undo 23 = .ok (.sipush 367, 3) := by decide +kernel
theorem dX4_undo_26 : decode cX4_undo 26 = .ok (.if_icmp .ge 30, 3) := by decide +kernel
theorem dX4_undo_29 : decode cX4_undo 29 = .ok (.aload_n 0, 1) := by decide +kernel
theorem dX4_undo_30 : decode cX4_undo 30 = .ok (.getfield 7, 3) := by decide +kernel
theorem dX4_undo_33 : decode cX4_undo 33 = .ok (.iload_n 1, 1) := by decide +kernel
theorem dX4_undo_34 : decode cX4_undo 34 = .ok (.aload_n 0, 1) := by decide +kernel
theorem dX4_undo_35 : decode cX4_undo 35 = .ok (.getfield 13, 3) := by decide +kernel
theorem dX4_undo_38 : decode cX4_undo 38 = .ok (.aload_n 0, 1) := by decide +kernel
theorem dX4_undo_39 : decode cX4_undo 39 = .ok (.getfield 49, 3) := by decide +kernel
theorem dX4_undo_42 : decode cX4_undo 42 = .ok (.sipush 367, 3) := by decide +kernel
theorem dX4_undo_45 : decode cX4_undo 45 = .ok (.imul, 1) := by decide +kernel
theorem dX4_undo_46 : decode cX4_undo 46 = .ok (.iload_n 1, 1) := by decide +kernel
theorem dX4_undo_47 : decode cX4_undo 47 = .ok (.iadd, 1) := by decide +kernel
theorem dX4_undo_48 : decode cX4_undo 48 = .ok (.iaload, 1) := by decide +kernel
theorem dX4_undo_49 : decode cX4_undo 49 = .ok (.iastore, 1) := by decide +kernel
theorem dX4_undo_50 : decode cX4_undo 50 = .ok (.iinc 1 1, 3) := by decide +kernel
theorem dX4_undo_53 : decode cX4_undo 53 = .ok (.goto (-31), 3) := by decide +kernel
theorem dX4_undo_56 : decode cX4_undo 56 = .ok (.aload_n 0, 1) := by decide +kernel
theorem dX4_undo_57 : decode cX4_undo 57 = .ok (.getfield 49, 3) := by decide +kernel
theorem dX4_undo_60 : decode cX4_undo 60 = .ok (.ireturn, 1) := by decide +kernel
set_option maxRecDepth 20000 in
theorem ggX4_save_X4_in : GoodIn wsX4_save wsX4_in := goodIn_r _ [7] (by decide +kernel) (by decide +kernel)
set_option maxRecDepth 20000 in
theorem gX4_save_X4_in : GoodIn wsX4_save (va_wsS RX4 33 yX4_in wsX4_in) := goodIn_app (goodIn_of _ (by decide +kernel)) ggX4_save_X4_in
set_option maxRecDepth 20000 in
theorem ggX4_save_X4_wholes : GoodIn wsX4_save wsX4_wholes := goodIn_r _ [11, 12, 13, 14, 6, 15, 16, 17, 18, 19, 3, 20, 21, 22, 23, 24, 25, 26, 27, 28, 29, 30, 31, 32, 33, 34, 35, 36, 37, 38, 39, 40, 41, 42, 43, 44, 45, 46, 47] (by decide +kernel) (by decide +kernel)
set_option maxRecDepth 20000 in
theorem gX4_save_X4_wholes : GoodIn wsX4_save (wsV RX4 53 RX4 yX4_wholes wsX4_wholes) := goodIn_app (goodIn_of _ (by decide +kernel)) ggX4_save_X4_wholes
theorem dX4_save_0 : decode cX4_save 0 = .ok (.iload_n 1, 1) := by decide +kernel
theorem dX4_save_1 : decode cX4_save 1 = .ok (.iconst 0, 1) := by decide +kernel
theorem dX4_save_2 : decode cX4_save 2 = .ok (.iconst 1, 1) := by decide +kernel
theorem dX4_save_3 : decode cX4_save 3 = .ok (.invokestatic 33, 3) := by decide +kernel
theorem dX4_save_6 : decode cX4_save 6 = .ok (.ifCond .ne 6, 3) := by decide +kernel
theorem dX4_save_9 : decode cX4_save 9 = .ok (.bipush (-2), 2) := by decide +kernel
theorem dX4_save_11 : decode cX4_save 11 = .ok (.ireturn, 1) := by decide +kernel
theorem dX4_save_12 : decode cX4_save 12 = .ok (.aload_n 0, 1) := by decide +kernel
theorem dX4_save_13 : decode cX4_save 13 = .ok (.getfield 19, 3) := by decide +kernel
theorem dX4_save_16 : decode cX4_save 16 = .ok (.iload_n 1, 1) := by decide +kernel
theorem dX4_save_17 : decode cX4_save 17 = .ok (.iconst 1, 1) := by decide +kernel
theorem dX4_save_18 : decode cX4_save 18 = .ok (.bastore, 1) := by decide +kernel
theorem dX4_save_19 : decode cX4_save 19 = .ok (.iconst 0, 1) := by decide +kernel
theorem dX4_save_20 : decode cX4_save 20 = .ok (.istore_n 2, 1) := by decide +kernel
theorem dX4_save_21 : decode cX4_save 21 = .ok (.iload_n 2, 1) := by decide +kernel
theorem dX4_save_22 : decode cX4_save 22 = .ok (.sipush 367, 3) := by decide +kernel
theorem dX4_save_25 : decode cX4_save 25 = .ok (.if_icmp .ge 27, 3) := by decide +kernel
theorem dX4_save_28 : decode cX4_save 28 = .ok (.aload_n 0, 1) := by decide +kernel
theorem dX4_save_29 : decode cX4_save 29 = .ok (.getfield 16, 3) := by decide +kernel
theorem dX4_save_32 : decode cX4_save 32 = .ok (.iload_n 1, 1) := by decide +kernel
theorem dX4_save_33 : decode cX4_save 33 = .ok (.sipush 367, 3) := by decide +kernel
theorem dX4_save_36 : decode cX4_save 36 = .ok (.imul, 1) := by decide +kernel
theorem dX4_save_37 : decode cX4_save 37 = .ok (.iload_n 2, 1) := by decide +kernel
theorem dX4_save_38 : decode cX4_save 38 = .ok (.iadd, 1) := by decide +kernel
theorem dX4_save_39 : decode cX4_save 39 = .ok (.aload_n 0, 1) := by decide +kernel
theorem dX4_save_40 : decode cX4_save 40 = .ok (.getfield 7, 3) := by decide +kernel
theorem dX4_save_43 : decode cX4_save 43 = .ok (.iload_n 2, 1) := by decide +kernel
theorem dX4_save_44 : decode cX4_save 44 = .ok (.iaload, 1) := by decide +kernel
theorem dX4_save_45 : decode cX4_save 45 = .ok (.iastore, 1) := by decide +kernel
theorem dX4_save_46 : decode cX4_save 46 = .ok (.iinc 2 1, 3) := by decide +kernel
theorem dX4_save_49 : decode cX4_save 49 = .ok (.goto (-28), 3) := by decide +kernel
theorem dX4_save_52 : decode cX4_save 52 = .ok (.aload_n 0, 1) := by decide +kernel
theorem dX4_save_53 : decode cX4_save 53 = .ok (.invokevirtual 53, 3) := by decide +kernel
theorem dX4_save_56 : decode cX4_save 56 = .ok (.ireturn, 1) := by decide +kernel
set_option maxRecDepth 20000 in
theorem ggX4_restore_X4_in : GoodIn wsX4_restore wsX4_in := goodIn_r _ [7] (by decide +kernel) (by decide +kernel)
set_option maxRecDepth 20000 in
theorem gX4_restore_X4_in : GoodIn wsX4_restore (va_wsS RX4 33 yX4_in wsX4_in) := goodIn_app (goodIn_of _ (by decide +kernel)) ggX4_restore_X4_in
set_option maxRecDepth 20000 in
theorem ggX4_restore_X4_record : GoodIn wsX4_restore wsX4_record := goodIn_r _ [11, 12, 13, 2, 42, 43, 44, 45, 46, 47, 48, 49, 50, 51, 52, 53] (by decide +kernel) (by decide +kernel)
set_option maxRecDepth 20000 in
theorem gX4_restore_X4_record : GoodIn wsX4_restore (wsV RX4 57 RX4 yX4_record wsX4_record) := goodIn_app (goodIn_of _ (by decide +kernel)) ggX4_restore_X4_record
set_option maxRecDepth 20000 in
theorem ggX4_restore_X4_wholes : GoodIn wsX4_restore wsX4_wholes := goodIn_r _ [17, 18, 19, 20, 6, 21, 22, 23, 24, 25, 2, 26, 27, 28, 29, 30, 31, 32, 33, 34, 35, 36, 37, 38, 39, 40, 41, 42, 43, 44, 45, 46, 47, 48, 49, 50, 51, 52, 53] (by decide +kernel) (by decide +kernel)
set_option maxRecDepth 20000 in
theorem gX4_restore_X4_wholes : GoodIn wsX4_restore (wsV RX4 53 RX4 yX4_wholes wsX4_wholes) := goodIn_app (goodIn_of _ (by decide +kernel)) ggX4_restore_X4_wholes
theorem dX4_restore_0 : decode cX4_restore 0 = .ok (.iload_n 1, 1) := by decide +kernel
theorem dX4_restore_1 : decode cX4_restore 1 = .ok (.iconst 0, 1) := by decide +kernel
theorem dX4_restore_2 : decode cX4_restore 2 = .ok (.iconst 1, 1) := by decide +kernel
theorem dX4_restore_3 : decode cX4_restore 3 = .ok (.invokestatic 33, 3) := by decide +kernel
theorem dX4_restore_6 : decode cX4_restore 6 = .ok (.ifCond .ne 6, 3) := by decide +kernel
theorem dX4_restore_9 : decode cX4_restore 9 = .ok (.bipush (-2), 2) := by decide +kernel
theorem dX4_restore_11 : decode cX4_restore 11 = .ok (.ireturn, 1) := by decide +kernel
theorem dX4_restore_12 : decode cX4_restore 12 = .ok (.aload_n 0, 1) := by decide +kernel
theorem dX4_restore_13 : decode cX4_restore 13 = .ok (.getfield 19, 3) := by decide +kernel
theorem dX4_restore_16 : decode cX4_restore 16 = .ok (.iload_n 1, 1) := by decide +kernel
theorem dX4_restore_17 : decode cX4_restore 17 = .ok (.baload, 1) := by decide +kernel
theorem dX4_restore_18 : decode cX4_restore 18 = .ok (.ifCond .ne 6, 3) := by decide +kernel
theorem dX4_restore_21 : decode cX4_restore 21 = .ok (.bipush (-5), 2) := by decide +kernel
theorem dX4_restore_23 : decode cX4_restore 23 = .ok (.ireturn, 1) := by decide +kernel
theorem dX4_restore_24 : decode cX4_restore 24 = .ok (.aload_n 0, 1) := by decide +kernel
theorem dX4_restore_25 : decode cX4_restore 25 = .ok (.invokevirtual 57, 3) := by decide +kernel
theorem dX4_restore_28 : decode cX4_restore 28 = .ok (.iconst 0, 1) := by decide +kernel
theorem dX4_restore_29 : decode cX4_restore 29 = .ok (.istore_n 2, 1) := by decide +kernel
theorem dX4_restore_30 : decode cX4_restore 30 = .ok (.iload_n 2, 1) := by decide +kernel
theorem dX4_restore_31 : decode cX4_restore 31 = .ok (.sipush 367, 3) := by decide +kernel
theorem dX4_restore_34 : decode cX4_restore 34 = .ok (.if_icmp .ge 27, 3) := by decide +kernel
theorem dX4_restore_37 : decode cX4_restore 37 = .ok (.aload_n 0, 1) := by decide +kernel
theorem dX4_restore_38 : decode cX4_restore 38 = .ok (.getfield 7, 3) := by decide +kernel
theorem dX4_restore_41 : decode cX4_restore 41 = .ok (.iload_n 2, 1) := by decide +kernel
theorem dX4_restore_42 : decode cX4_restore 42 = .ok (.aload_n 0, 1) := by decide +kernel
theorem dX4_restore_43 : decode cX4_restore 43 = .ok (.getfield 16, 3) := by decide +kernel
theorem dX4_restore_46 : decode cX4_restore 46 = .ok (.iload_n 1, 1) := by decide +kernel
theorem dX4_restore_47 : decode cX4_restore 47 = .ok (.sipush 367, 3) := by decide +kernel
theorem dX4_restore_50 : decode cX4_restore 50 = .ok (.imul, 1) := by decide +kernel
theorem dX4_restore_51 : decode cX4_restore 51 = .ok (.iload_n 2, 1) := by decide +kernel
theorem dX4_restore_52 : decode cX4_restore 52 = .ok (.iadd, 1) := by decide +kernel
theorem dX4_restore_53 : decode cX4_restore 53 = .ok (.iaload, 1) := by decide +kernel
theorem dX4_restore_54 : decode cX4_restore 54 = .ok (.iastore, 1) := by decide +kernel
theorem dX4_restore_55 : decode cX4_restore 55 = .ok (.iinc 2 1, 3) := by decide +kernel
theorem dX4_restore_58 : decode cX4_restore 58 = .ok (.goto (-28), 3) := by decide +kernel
theorem dX4_restore_61 : decode cX4_restore 61 = .ok (.aload_n 0, 1) := by decide +kernel
theorem dX4_restore_62 : decode cX4_restore 62 = .ok (.invokevirtual 53, 3) := by decide +kernel
theorem dX4_restore_65 : decode cX4_restore 65 = .ok (.ireturn, 1) := by decide +kernel
set_option maxRecDepth 20000 in
theorem ggX4_trim_X4_many : GoodIn wsX4_trim wsX4_many := goodIn_r _ [5, 6, 7, 8, 4, 9, 10, 23, 24, 25, 26, 27, 28, 29, 30, 31, 32, 33, 34] (by decide +kernel) (by decide +kernel)
set_option maxRecDepth 20000 in
theorem gX4_trim_X4_many : GoodIn wsX4_trim (wsV RX4 60 RX4 yX4_many wsX4_many) := goodIn_app (goodIn_of _ (by decide +kernel)) ggX4_trim_X4_many
set_option maxRecDepth 20000 in
theorem ggX4_trim_X4_isHole : GoodIn wsX4_trim wsX4_isHole := goodIn_r _ [14, 15, 16, 17, 4, 18, 6, 7, 8, 9, 10, 23, 24, 25, 26, 27, 28, 29, 30, 31, 32, 33, 34] (by decide +kernel) (by decide +kernel)
set_option maxRecDepth 20000 in
theorem gX4_trim_X4_isHole : GoodIn wsX4_trim (wsV RX4 64 RX4 yX4_isHole wsX4_isHole) := goodIn_app (goodIn_of _ (by decide +kernel)) ggX4_trim_X4_isHole
set_option maxRecDepth 20000 in
theorem ggX4_trim_X4_lay : GoodIn wsX4_trim wsX4_lay := goodIn_r _ [22, 10, 23, 24, 25, 26, 27, 28, 29, 30, 31, 32, 33, 34] (by decide +kernel) (by decide +kernel)
set_option maxRecDepth 20000 in
theorem gX4_trim_X4_lay : GoodIn wsX4_trim (wsV RX4 41 RX4 yX4_lay wsX4_lay) := goodIn_app (goodIn_of _ (by decide +kernel)) ggX4_trim_X4_lay
theorem dX4_trim_0 : decode cX4_trim 0 = .ok (.aload_n 0, 1) := by decide +kernel
theorem dX4_trim_1 : decode cX4_trim 1 = .ok (.iload_n 1, 1) := by decide +kernel
theorem dX4_trim_2 : decode cX4_trim 2 = .ok (.invokevirtual 60, 3) := by decide +kernel
theorem dX4_trim_5 : decode cX4_trim 5 = .ok (.ifCond .le 34, 3) := by decide +kernel
theorem dX4_trim_8 : decode cX4_trim 8 = .ok (.aload_n 0, 1) := by decide +kernel
theorem dX4_trim_9 : decode cX4_trim 9 = .ok (.iload_n 1, 1) := by decide +kernel
theorem dX4_trim_10 : decode cX4_trim 10 = .ok (.aload_n 0, 1) := by decide +kernel
theorem dX4_trim_11 : decode cX4_trim 11 = .ok (.iload_n 1, 1) := by decide +kernel
theorem dX4_trim_12 : decode cX4_trim 12 = .ok (.invokevirtual 60, 3) := by decide +kernel
theorem dX4_trim_15 : decode cX4_trim 15 = .ok (.iconst 1, 1) := by decide +kernel
theorem dX4_trim_16 : decode cX4_trim 16 = .ok (.isub, 1) := by decide +kernel
theorem dX4_trim_17 : decode cX4_trim 17 = .ok (.invokevirtual 64, 3) := by decide +kernel
theorem dX4_trim_20 : decode cX4_trim 20 = .ok (.ifCond .eq 19, 3) := by decide +kernel
theorem dX4_trim_23 : decode cX4_trim 23 = .ok (.aload_n 0, 1) := by decide +kernel
theorem dX4_trim_24 : decode cX4_trim 24 = .ok (.iload_n 1, 1) := by decide +kernel
theorem dX4_trim_25 : decode cX4_trim 25 = .ok (.iconst 1, 1) := by decide +kernel
theorem dX4_trim_26 : decode cX4_trim 26 = .ok (.aload_n 0, 1) := by decide +kernel
theorem dX4_trim_27 : decode cX4_trim 27 = .ok (.iload_n 1, 1) := by decide +kernel
theorem dX4_trim_28 : decode cX4_trim 28 = .ok (.invokevirtual 60, 3) := by decide +kernel
theorem dX4_trim_31 : decode cX4_trim 31 = .ok (.iconst 1, 1) := by decide +kernel
theorem dX4_trim_32 : decode cX4_trim 32 = .ok (.isub, 1) := by decide +kernel
theorem dX4_trim_33 : decode cX4_trim 33 = .ok (.invokevirtual 41, 3) := by decide +kernel
theorem dX4_trim_36 : decode cX4_trim 36 = .ok (.goto (-36), 3) := by decide +kernel
theorem dX4_trim_39 : decode cX4_trim 39 = .ok (.return_, 1) := by decide +kernel
set_option maxRecDepth 20000 in
theorem ggX4_roll_X4_many : GoodIn wsX4_roll wsX4_many := goodIn_r _ [5, 6, 7, 8, 4, 9, 10, 27, 28, 29, 30, 31, 32, 33, 34, 35, 36, 37, 38] (by decide +kernel) (by decide +kernel)
set_option maxRecDepth 20000 in
theorem gX4_roll_X4_many : GoodIn wsX4_roll (wsV RX4 60 RX4 yX4_many wsX4_many) := goodIn_app (goodIn_of _ (by decide +kernel)) ggX4_roll_X4_many
set_option maxRecDepth 20000 in
theorem ggX4_roll_X4_of : GoodIn wsX4_roll wsX4_of := goodIn_r _ [9, 10, 27, 28, 29, 30, 31, 32, 33, 34, 35, 36, 37, 38] (by decide +kernel) (by decide +kernel)
set_option maxRecDepth 20000 in
theorem gX4_roll_X4_of : GoodIn wsX4_roll (wsV RX4 37 RX4 yX4_of wsX4_of) := goodIn_app (goodIn_of _ (by decide +kernel)) ggX4_roll_X4_of
set_option maxRecDepth 20000 in
theorem ggX4_roll_X4_isHole : GoodIn wsX4_roll wsX4_isHole := goodIn_r _ [14, 15, 16, 17, 4, 18, 6, 7, 8, 9, 10, 27, 28, 29, 30, 31, 32, 33, 34, 35, 36, 37, 38] (by decide +kernel) (by decide +kernel)
set_option maxRecDepth 20000 in
theorem gX4_roll_X4_isHole : GoodIn wsX4_roll (wsV RX4 64 RX4 yX4_isHole wsX4_isHole) := goodIn_app (goodIn_of _ (by decide +kernel)) ggX4_roll_X4_isHole
set_option maxRecDepth 20000 in
theorem ggX4_roll_X4_lay : GoodIn wsX4_roll wsX4_lay := goodIn_r _ [22, 10, 27, 28, 29, 30, 31, 32, 33, 34, 35, 36, 37, 38] (by decide +kernel) (by decide +kernel)
set_option maxRecDepth 20000 in
theorem gX4_roll_X4_lay : GoodIn wsX4_roll (wsV RX4 41 RX4 yX4_lay wsX4_lay) := goodIn_app (goodIn_of _ (by decide +kernel)) ggX4_roll_X4_lay
set_option maxRecDepth 20000 in
theorem ggX4_roll_X4_trim : GoodIn wsX4_roll wsX4_trim := goodIn_r _ [26, 1, 2, 3, 4, 5, 6, 7, 8, 9, 10, 11, 12, 13, 14, 15, 16, 17, 18, 19, 20, 21, 22, 27, 28, 29, 30, 31, 32, 33, 34, 35, 36, 37, 38] (by decide +kernel) (by decide +kernel)
set_option maxRecDepth 20000 in
theorem gX4_roll_X4_trim : GoodIn wsX4_roll (wsV RX4 68 RX4 yX4_trim wsX4_trim) := goodIn_app (goodIn_of _ (by decide +kernel)) ggX4_roll_X4_trim
theorem dX4_roll_0 : decode cX4_roll 0 = .ok (.aload_n 0, 1) := by decide +kernel
theorem dX4_roll_1 : decode cX4_roll 1 = .ok (.iload_n 1, 1) := by decide +kernel
theorem dX4_roll_2 : decode cX4_roll 2 = .ok (.invokevirtual 60, 3) := by decide +kernel
theorem dX4_roll_5 : decode cX4_roll 5 = .ok (.aload_n 0, 1) := by decide +kernel
theorem dX4_roll_6 : decode cX4_roll 6 = .ok (.iload_n 1, 1) := by decide +kernel
theorem dX4_roll_7 : decode cX4_roll 7 = .ok (.iconst 0, 1) := by decide +kernel
theorem dX4_roll_8 : decode cX4_roll 8 = .ok (.invokevirtual 37, 3) := by decide +kernel
theorem dX4_roll_11 : decode cX4_roll 11 = .ok (.if_icmp .le 52, 3) := by decide +kernel
theorem dX4_roll_14 : decode cX4_roll 14 = .ok (.aload_n 0, 1) := by decide +kernel
theorem dX4_roll_15 : decode cX4_roll 15 = .ok (.iload_n 1, 1) := by decide +kernel
theorem dX4_roll_16 : decode cX4_roll 16 = .ok (.iconst 3, 1) := by decide +kernel
theorem dX4_roll_17 : decode cX4_roll 17 = .ok (.aload_n 0, 1) := by decide +kernel
theorem dX4_roll_18 : decode cX4_roll 18 = .ok (.iload_n 1, 1) := by decide +kernel
theorem dX4_roll_19 : decode cX4_roll 19 = .ok (.iconst 3, 1) := by decide +kernel
theorem dX4_roll_20 : decode cX4_roll 20 = .ok (.invokevirtual 37, 3) := by decide +kernel
theorem dX4_roll_23 : decode cX4_roll 23 = .ok (.aload_n 0, 1) := by decide +kernel
theorem dX4_roll_24 : decode cX4_roll 24 = .ok (.iload_n 1, 1) := by decide +kernel
theorem dX4_roll_25 : decode cX4_roll 25 = .ok (.aload_n 0, 1) := by decide +kernel
theorem dX4_roll_26 : decode cX4_roll 26 = .ok (.iload_n 1, 1) := by decide +kernel
theorem dX4_roll_27 : decode cX4_roll 27 = .ok (.invokevirtual 60, 3) := by decide +kernel
theorem dX4_roll_30 : decode cX4_roll 30 = .ok (.iconst 1, 1) := by decide +kernel
theorem dX4_roll_31 : decode cX4_roll 31 = .ok (.isub, 1) := by decide +kernel
theorem dX4_roll_32 : decode cX4_roll 32 = .ok (.invokevirtual 64, 3) := by decide +kernel
theorem dX4_roll_35 : decode cX4_roll 35 = .ok (.ifCond .eq 7, 3) := by decide +kernel
theorem dX4_roll_38 : decode cX4_roll 38 = .ok (.iconst 0, 1) := by decide +kernel
theorem dX4_roll_39 : decode cX4_roll 39 = .ok (.goto 4, 3) := by decide +kernel
theorem dX4_roll_42 : decode cX4_roll 42 = .ok (.iconst 1, 1) := by decide +kernel
theorem dX4_roll_43 : decode cX4_roll 43 = .ok (.iadd, 1) := by decide +kernel
theorem dX4_roll_44 : decode cX4_roll 44 = .ok (.invokevirtual 41, 3) := by decide +kernel
theorem dX4_roll_47 : decode cX4_roll 47 = .ok (.aload_n 0, 1) := by decide +kernel
theorem dX4_roll_48 : decode cX4_roll 48 = .ok (.iload_n 1, 1) := by decide +kernel
theorem dX4_roll_49 : decode cX4_roll 49 = .ok (.iconst 1, 1) := by decide +kernel
theorem dX4_roll_50 : decode cX4_roll 50 = .ok (.aload_n 0, 1) := by decide +kernel
theorem dX4_roll_51 : decode cX4_roll 51 = .ok (.iload_n 1, 1) := by decide +kernel
theorem dX4_roll_52 : decode cX4_roll 52 = .ok (.invokevirtual 60, 3) := by decide +kernel
theorem dX4_roll_55 : decode cX4_roll 55 = .ok (.iconst 1, 1) := by decide +kernel
theorem dX4_roll_56 : decode cX4_roll 56 = .ok (.isub, 1) := by decide +kernel
theorem dX4_roll_57 : decode cX4_roll 57 = .ok (.invokevirtual 41, 3) := by decide +kernel
theorem dX4_roll_60 : decode cX4_roll 60 = .ok (.goto (-60), 3) := by decide +kernel
theorem dX4_roll_63 : decode cX4_roll 63 = .ok (.aload_n 0, 1) := by decide +kernel
theorem dX4_roll_64 : decode cX4_roll 64 = .ok (.iload_n 1, 1) := by decide +kernel
theorem dX4_roll_65 : decode cX4_roll 65 = .ok (.invokevirtual 68, 3) := by decide +kernel
theorem dX4_roll_68 : decode cX4_roll 68 = .ok (.return_, 1) := by decide +kernel
theorem dX4_numberBehind_0 : decode cX4_numberBehind 0 = .ok (.iload_n 0, 1) := by decide +kernel
theorem dX4_numberBehind_1 : decode cX4_numberBehind 1 = .ok (.bipush 99, 2) := by decide +kernel
theorem dX4_numberBehind_3 : decode cX4_numberBehind 3 = .ok (.irem, 1) := by decide +kernel
theorem dX4_numberBehind_4 : decode cX4_numberBehind 4 = .ok (.iconst 1, 1) := by decide +kernel
theorem dX4_numberBehind_5 : decode cX4_numberBehind 5 = .ok (.iadd, 1) := by decide +kernel
theorem dX4_numberBehind_6 : decode cX4_numberBehind 6 = .ok (.ireturn, 1) := by decide +kernel
set_option maxRecDepth 20000 in
theorem ggX4_make_X4_many : GoodIn wsX4_make wsX4_many := goodIn_r _ [6, 7, 8, 9, 5, 10, 1, 42, 43, 44, 45, 46, 47, 48, 49, 50, 51, 52, 53] (by decide +kernel) (by decide +kernel)
set_option maxRecDepth 20000 in
theorem gX4_make_X4_many : GoodIn wsX4_make (wsV RX4 60 RX4 yX4_many wsX4_many) := goodIn_app (goodIn_of _ (by decide +kernel)) ggX4_make_X4_many
set_option maxRecDepth 20000 in
theorem ggX4_make_X4_gen : GoodIn wsX4_make wsX4_gen := goodIn_r _ [14, 7, 8, 9, 5, 10, 1, 42, 43, 44, 45, 46, 47, 48, 49, 50, 51, 52, 53] (by decide +kernel) (by decide +kernel)
set_option maxRecDepth 20000 in
theorem gX4_make_X4_gen : GoodIn wsX4_make (wsV RX4 45 RX4 yX4_gen wsX4_gen) := goodIn_app (goodIn_of _ (by decide +kernel)) ggX4_make_X4_gen
set_option maxRecDepth 20000 in
theorem ggX4_make_X4_layGen : GoodIn wsX4_make wsX4_layGen := goodIn_r _ [18, 19, 20, 21, 5, 22, 1, 42, 43, 44, 45, 46, 47, 48, 49, 50, 51, 52, 53] (by decide +kernel) (by decide +kernel)
set_option maxRecDepth 20000 in
theorem gX4_make_X4_layGen : GoodIn wsX4_make (wsV RX4 72 RX4 yX4_layGen wsX4_layGen) := goodIn_app (goodIn_of _ (by decide +kernel)) ggX4_make_X4_layGen
set_option maxRecDepth 20000 in
theorem ggX4_make_X4_of : GoodIn wsX4_make wsX4_of := goodIn_r _ [10, 1, 42, 43, 44, 45, 46, 47, 48, 49, 50, 51, 52, 53] (by decide +kernel) (by decide +kernel)
set_option maxRecDepth 20000 in
theorem gX4_make_X4_of : GoodIn wsX4_make (wsV RX4 37 RX4 yX4_of wsX4_of) := goodIn_app (goodIn_of _ (by decide +kernel)) ggX4_make_X4_of
set_option maxRecDepth 20000 in
theorem ggX4_make_X4_numberBehind : GoodIn wsX4_make wsX4_numberBehind := goodIn_r _ [25] (by decide +kernel) (by decide +kernel)
set_option maxRecDepth 20000 in
theorem gX4_make_X4_numberBehind : GoodIn wsX4_make (va_wsS RX4 76 yX4_numberBehind wsX4_numberBehind) := goodIn_app (goodIn_of _ (by decide +kernel)) ggX4_make_X4_numberBehind
set_option maxRecDepth 20000 in
theorem ggX4_make_X4_lay : GoodIn wsX4_make wsX4_lay := goodIn_r _ [22, 1, 42, 43, 44, 45, 46, 47, 48, 49, 50, 51, 52, 53] (by decide +kernel) (by decide +kernel)
set_option maxRecDepth 20000 in
theorem gX4_make_X4_lay : GoodIn wsX4_make (wsV RX4 41 RX4 yX4_lay wsX4_lay) := goodIn_app (goodIn_of _ (by decide +kernel)) ggX4_make_X4_lay
set_option maxRecDepth 20000 in
theorem ggX4_make_X4_runs : GoodIn wsX4_make wsX4_runs := goodIn_r _ [29, 1, 42, 43, 44, 45, 46, 47, 48, 49, 50, 51, 52, 53] (by decide +kernel) (by decide +kernel)
set_option maxRecDepth 20000 in
theorem gX4_make_X4_runs : GoodIn wsX4_make (wsV RX4 79 RX4 yX4_runs wsX4_runs) := goodIn_app (goodIn_of _ (by decide +kernel)) ggX4_make_X4_runs
set_option maxRecDepth 20000 in
theorem ggX4_make_X4_roll : GoodIn wsX4_make wsX4_roll := goodIn_r _ [33, 2, 3, 4, 5, 6, 7, 8, 9, 10, 1, 34, 35, 36, 37, 11, 12, 13, 14, 19, 20, 21, 22, 38, 39, 40, 41, 42, 43, 44, 45, 46, 47, 48, 49, 50, 51, 52, 53] (by decide +kernel) (by decide +kernel)
set_option maxRecDepth 20000 in
theorem gX4_make_X4_roll : GoodIn wsX4_make (wsV RX4 83 RX4 yX4_roll wsX4_roll) := goodIn_app (goodIn_of _ (by decide +kernel)) ggX4_make_X4_roll
theorem dX4_make_0 : decode cX4_make 0 = .ok (.aload_n 0, 1) := by decide +kernel
theorem dX4_make_1 : decode cX4_make 1 = .ok (.iload_n 1, 1) := by decide +kernel
theorem dX4_make_2 : decode cX4_make 2 = .ok (.invokevirtual 60, 3) := by decide +kernel
theorem dX4_make_5 : decode cX4_make 5 = .ok (.istore_n 3, 1) := by decide +kernel
theorem dX4_make_6 : decode cX4_make 6 = .ok (.iload_n 3, 1) := by decide +kernel
theorem dX4_make_7 : decode cX4_make 7 = .ok (.ifCond .le 42, 3) := by decide +kernel
theorem dX4_make_10 : decode cX4_make 10 = .ok (.iconst 0, 1) := by decide +kernel
theorem dX4_make_11 : decode cX4_make 11 = .ok (.istore 4, 2) := by decide +kernel
theorem dX4_make_13 : decode cX4_make 13 = .ok (.iload 4, 2) := by decide +kernel
theorem dX4_make_15 : decode cX4_make 15 = .ok (.iconst 5, 1) := by decide +kernel
theorem dX4_make_16 : decode cX4_make 16 = .ok (.if_icmp .ge 27, 3) := by decide +kernel
theorem dX4_make_19 : decode cX4_make 19 = .ok (.aload_n 0, 1) := by decide +kernel
theorem dX4_make_20 : decode cX4_make 20 = .ok (.iload_n 1, 1) := by decide +kernel
theorem dX4_make_21 : decode cX4_make 21 = .ok (.iload_n 3, 1) := by decide +kernel
theorem dX4_make_22 : decode cX4_make 22 = .ok (.iload 4, 2) := by decide +kernel
theorem dX4_make_24 : decode cX4_make 24 = .ok (.aload_n 0, 1) := by decide +kernel
theorem dX4_make_25 : decode cX4_make 25 = .ok (.iload_n 1, 1) := by decide +kernel
theorem dX4_make_26 : decode cX4_make 26 = .ok (.iload_n 3, 1) := by decide +kernel
theorem dX4_make_27 : decode cX4_make 27 = .ok (.iconst 1, 1) := by decide +kernel
theorem dX4_make_28 : decode cX4_make 28 = .ok (.isub, 1) := by decide +kernel
theorem dX4_make_29 : decode cX4_make 29 = .ok (.iload 4, 2) := by decide +kernel
theorem dX4_make_31 : decode cX4_make 31 = .ok (.invokevirtual 45, 3) := by decide +kernel
theorem dX4_make_34 : decode cX4_make 34 = .ok (.invokevirtual 72, 3) := by decide +kernel
theorem dX4_make_37 : decode cX4_make 37 = .ok (.iinc 4 1, 3) := by decide +kernel
theorem dX4_make_40 : decode cX4_make 40 = .ok (.goto (-27), 3) := by decide +kernel
theorem dX4_make_43 : decode cX4_make 43 = .ok (.iinc 3 (-1), 3) := by decide +kernel
theorem dX4_make_46 : decode cX4_make 46 = .ok (.goto (-40), 3) := by decide +kernel
theorem dX4_make_49 : decode cX4_make 49 = .ok (.aload_n 0, 1) := by decide +kernel
theorem dX4_make_50 : decode cX4_make 50 = .ok (.getfield 7, 3) := by decide +kernel
theorem dX4_make_53 : decode cX4_make 53 = .ok (.bipush 6, 2) := by decide +kernel
theorem dX4_make_55 : decode cX4_make 55 = .ok (.dup2, 1) := by decide +kernel
theorem dX4_make_56 : decode cX4_make 56 = .ok (.iaload, 1) := by decide +kernel
theorem dX4_make_57 : decode cX4_make 57 = .ok (.iconst 1, 1) := by decide +kernel
theorem dX4_make_58 : decode cX4_make 58 = .ok (.iadd, 1) := by decide +kernel
theorem dX4_make_59 : decode cX4_make 59 = .ok (.iastore, 1) := by decide +kernel
theorem dX4_make_60 : decode cX4_make 60 = .ok (.aload_n 0, 1) := by decide +kernel
theorem dX4_make_61 : decode cX4_make 61 = .ok (.iload_n 1, 1) := by decide +kernel
theorem dX4_make_62 : decode cX4_make 62 = .ok (.iconst 2, 1) := by decide +kernel
theorem dX4_make_63 : decode cX4_make 63 = .ok (.aload_n 0, 1) := by decide +kernel
theorem dX4_make_64 : decode cX4_make 64 = .ok (.iload_n 1, 1) := by decide +kernel
theorem dX4_make_65 : decode cX4_make 65 = .ok (.iconst 2, 1) := by decide +kernel
theorem dX4_make_66 : decode cX4_make 66 = .ok (.invokevirtual 37, 3) := by decide +kernel
theorem dX4_make_69 : decode cX4_make 69 = .ok (.invokestatic 76, 3) := by decide +kernel
theorem dX4_make_72 : decode cX4_make 72 = .ok (.invokevirtual 41, 3) := by decide +kernel
theorem dX4_make_75 : decode cX4_make 75 = .ok (.aload_n 0, 1) := by decide +kernel
theorem dX4_make_76 : decode cX4_make 76 = .ok (.iload_n 1, 1) := by decide +kernel
theorem dX4_make_77 : decode cX4_make 77 = .ok (.iconst 0, 1) := by decide +kernel
theorem dX4_make_78 : decode cX4_make 78 = .ok (.iconst 0, 1) := by decide +kernel
theorem dX4_make_79 : decode cX4_make 79 = .ok (.aload_n 0, 1) := by decide +kernel
theorem dX4_make_80 : decode cX4_make 80 = .ok (.getfield 7, 3) := by decide +kernel
theorem dX4_make_83 : decode cX4_make 83 = .ok (.bipush 6, 2) := by decide +kernel
theorem dX4_make_85 : decode cX4_make 85 = .ok (.iaload, 1) := by decide +kernel
theorem dX4_make_86 : decode cX4_make 86 = .ok (.invokevirtual 72, 3) := by decide +kernel
theorem dX4_make_89 : decode cX4_make 89 = .ok (.aload_n 0, 1) := by decide +kernel
theorem dX4_make_90 : decode cX4_make 90 = .ok (.iload_n 1, 1) := by decide +kernel
theorem dX4_make_91 : decode cX4_make 91 = .ok (.iconst 0, 1) := by decide +kernel
theorem dX4_make_92 : decode cX4_make 92 = .ok (.iconst 1, 1) := by decide +kernel
theorem dX4_make_93 : decode cX4_make 93 = .ok (.aload_n 0, 1) := by decide +kernel
theorem dX4_make_94 : decode cX4_make 94 = .ok (.iload_n 1, 1) := by decide +kernel
theorem dX4_make_95 : decode cX4_make 95 = .ok (.iconst 2, 1) := by decide +kernel
theorem dX4_make_96 : decode cX4_make 96 = .ok (.invokevirtual 37, 3) := by decide +kernel
theorem dX4_make_99 : decode cX4_make 99 = .ok (.invokevirtual 72, 3) := by decide +kernel
theorem dX4_make_102 : decode cX4_make 102 = .ok (.aload_n 0, 1) := by decide +kernel
theorem dX4_make_103 : decode cX4_make 103 = .ok (.iload_n 1, 1) := by decide +kernel
theorem dX4_make_104 : decode cX4_make 104 = .ok (.iconst 0, 1) := by decide +kernel
theorem dX4_make_105 : decode cX4_make 105 = .ok (.iconst 2, 1) := by decide +kernel
theorem dX4_make_106 : decode cX4_make 106 = .ok (.iload_n 2, 1) := by decide +kernel
theorem dX4_make_107 : decode cX4_make 107 = .ok (.invokevirtual 72, 3) := by decide +kernel
theorem dX4_make_110 : decode cX4_make 110 = .ok (.aload_n 0, 1) := by decide +kernel
theorem dX4_make_111 : decode cX4_make 111 = .ok (.iload_n 1, 1) := by decide +kernel
theorem dX4_make_112 : decode cX4_make 112 = .ok (.iconst 0, 1) := by decide +kernel
theorem dX4_make_113 : decode cX4_make 113 = .ok (.iconst 3, 1) := by decide +kernel
theorem dX4_make_114 : decode cX4_make 114 = .ok (.iconst 0, 1) := by decide +kernel
theorem dX4_make_115 : decode cX4_make 115 = .ok (.invokevirtual 72, 3) := by decide +kernel
theorem dX4_make_118 : decode cX4_make 118 = .ok (.aload_n 0, 1) := by decide +kernel
theorem dX4_make_119 : decode cX4_make 119 = .ok (.iload_n 1, 1) := by decide +kernel
theorem dX4_make_120 : decode cX4_make 120 = .ok (.iconst 0, 1) := by decide +kernel
theorem dX4_make_121 : decode cX4_make 121 = .ok (.iconst 4, 1) := by decide +kernel
theorem dX4_make_122 : decode cX4_make 122 = .ok (.aload_n 0, 1) := by decide +kernel
theorem dX4_make_123 : decode cX4_make 123 = .ok (.invokevirtual 79, 3) := by decide +kernel
theorem dX4_make_126 : decode cX4_make 126 = .ok (.ifCond .eq 12, 3) := by decide +kernel
theorem dX4_make_129 : decode cX4_make 129 = .ok (.aload_n 0, 1) := by decide +kernel
theorem dX4_make_130 : decode cX4_make 130 = .ok (.getfield 7, 3) := by decide +kernel
theorem dX4_make_133 : decode cX4_make 133 = .ok (.iconst 0, 1) := by decide +kernel
theorem dX4_make_134 : decode cX4_make 134 = .ok (.iaload, 1) := by decide +kernel
theorem dX4_make_135 : decode cX4_make 135 = .ok (.goto 4, 3) := by decide +kernel
theorem dX4_make_138 : decode cX4_make 138 = .ok (.iconst 0, 1) := by decide +kernel
theorem dX4_make_139 : decode cX4_make 139 = .ok (.invokevirtual 72, 3) := by decide +kernel
theorem dX4_make_142 : decode cX4_make 142 = .ok (.aload_n 0, 1) := by decide +kernel
theorem dX4_make_143 : decode cX4_make 143 = .ok (.iload_n 1, 1) := by decide +kernel
theorem dX4_make_144 : decode cX4_make 144 = .ok (.iconst 1, 1) := by decide +kernel
theorem dX4_make_145 : decode cX4_make 145 = .ok (.aload_n 0, 1) := by decide +kernel
theorem dX4_make_146 : decode cX4_make 146 = .ok (.iload_n 1, 1) := by decide +kernel
theorem dX4_make_147 : decode cX4_make 147 = .ok (.invokevirtual 60, 3) := by decide +kernel
theorem dX4_make_150 : decode cX4_make 150 = .ok (.iconst 1, 1) := by decide +kernel
theorem dX4_make_151 : decode cX4_make 151 = .ok (.iadd, 1) := by decide +kernel
theorem dX4_make_152 : decode cX4_make 152 = .ok (.invokevirtual 41, 3) := by decide +kernel
theorem dX4_make_155 : decode cX4_make 155 = .ok (.aload_n 0, 1) := by decide +kernel
theorem dX4_make_156 : decode cX4_make 156 = .ok (.iload_n 1, 1) := by decide +kernel
theorem dX4_make_157 : decode cX4_make 157 = .ok (.invokevirtual 83, 3) := by decide +kernel
theorem dX4_make_160 : decode cX4_make 160 = .ok (.aload_n 0, 1) := by decide +kernel
theorem dX4_make_161 : decode cX4_make 161 = .ok (.getfield 7, 3) := by decide +kernel
theorem dX4_make_164 : decode cX4_make 164 = .ok (.bipush 6, 2) := by decide +kernel
theorem dX4_make_166 : decode cX4_make 166 = .ok (.iaload, 1) := by decide +kernel
theorem dX4_make_167 : decode cX4_make 167 = .ok (.ireturn, 1) := by decide +kernel
set_option maxRecDepth 20000 in
theorem ggX4_deleteAt_X4_layGen : GoodIn wsX4_deleteAt wsX4_layGen := goodIn_r _ [5, 6, 7, 8, 4, 9, 10, 31, 32, 33, 34, 35, 36, 37, 38, 39, 40, 41, 42] (by decide +kernel) (by decide +kernel)
set_option maxRecDepth 20000 in
theorem gX4_deleteAt_X4_layGen : GoodIn wsX4_deleteAt (wsV RX4 72 RX4 yX4_layGen wsX4_layGen) := goodIn_app (goodIn_of _ (by decide +kernel)) ggX4_deleteAt_X4_layGen
set_option maxRecDepth 20000 in
theorem ggX4_deleteAt_X4_of : GoodIn wsX4_deleteAt wsX4_of := goodIn_r _ [14, 10, 31, 32, 33, 34, 35, 36, 37, 38, 39, 40, 41, 42] (by decide +kernel) (by decide +kernel)
set_option maxRecDepth 20000 in
theorem gX4_deleteAt_X4_of : GoodIn wsX4_deleteAt (wsV RX4 37 RX4 yX4_of wsX4_of) := goodIn_app (goodIn_of _ (by decide +kernel)) ggX4_deleteAt_X4_of
set_option maxRecDepth 20000 in
theorem ggX4_deleteAt_X4_lay : GoodIn wsX4_deleteAt wsX4_lay := goodIn_r _ [9, 10, 31, 32, 33, 34, 35, 36, 37, 38, 39, 40, 41, 42] (by decide +kernel) (by decide +kernel)
set_option maxRecDepth 20000 in
theorem gX4_deleteAt_X4_lay : GoodIn wsX4_deleteAt (wsV RX4 41 RX4 yX4_lay wsX4_lay) := goodIn_app (goodIn_of _ (by decide +kernel)) ggX4_deleteAt_X4_lay
set_option maxRecDepth 20000 in
theorem ggX4_deleteAt_X4_trim : GoodIn wsX4_deleteAt wsX4_trim := goodIn_r _ [18, 19, 20, 21, 4, 22, 11, 12, 13, 14, 10, 23, 24, 25, 26, 27, 28, 29, 30, 6, 7, 8, 9, 31, 32, 33, 34, 35, 36, 37, 38, 39, 40, 41, 42] (by decide +kernel) (by decide +kernel)
set_option maxRecDepth 20000 in
theorem gX4_deleteAt_X4_trim : GoodIn wsX4_deleteAt (wsV RX4 68 RX4 yX4_trim wsX4_trim) := goodIn_app (goodIn_of _ (by decide +kernel)) ggX4_deleteAt_X4_trim
theorem dX4_deleteAt_0 : decode cX4_deleteAt 0 = .ok (.aload_n 0, 1) := by decide +kernel
theorem dX4_deleteAt_1 : decode cX4_deleteAt 1 = .ok (.iload_n 1, 1) := by decide +kernel
theorem dX4_deleteAt_2 : decode cX4_deleteAt 2 = .ok (.iload_n 2, 1) := by decide +kernel
theorem dX4_deleteAt_3 : decode cX4_deleteAt 3 = .ok (.iconst 2, 1) := by decide +kernel
theorem dX4_deleteAt_4 : decode cX4_deleteAt 4 = .ok (.bipush (-6), 2) := by decide +kernel
theorem dX4_deleteAt_6 : decode cX4_deleteAt 6 = .ok (.invokevirtual 72, 3) := by decide +kernel
theorem dX4_deleteAt_9 : decode cX4_deleteAt 9 = .ok (.aload_n 0, 1) := by decide +kernel
theorem dX4_deleteAt_10 : decode cX4_deleteAt 10 = .ok (.iload_n 1, 1) := by decide +kernel
theorem dX4_deleteAt_11 : decode cX4_deleteAt 11 = .ok (.iconst 4, 1) := by decide +kernel
theorem dX4_deleteAt_12 : decode cX4_deleteAt 12 = .ok (.aload_n 0, 1) := by decide +kernel
theorem dX4_deleteAt_13 : decode cX4_deleteAt 13 = .ok (.iload_n 1, 1) := by decide +kernel
theorem dX4_deleteAt_14 : decode cX4_deleteAt 14 = .ok (.iconst 4, 1) := by decide +kernel
theorem dX4_deleteAt_15 : decode cX4_deleteAt 15 = .ok (.invokevirtual 37, 3) := by decide +kernel
theorem dX4_deleteAt_18 : decode cX4_deleteAt 18 = .ok (.iconst 1, 1) := by decide +kernel
theorem dX4_deleteAt_19 : decode cX4_deleteAt 19 = .ok (.iadd, 1) := by decide +kernel
theorem dX4_deleteAt_20 : decode cX4_deleteAt 20 = .ok (.invokevirtual 41, 3) := by decide +kernel
theorem dX4_deleteAt_23 : decode cX4_deleteAt 23 = .ok (.aload_n 0, 1) := by decide +kernel
theorem dX4_deleteAt_24 : decode cX4_deleteAt 24 = .ok (.iload_n 1, 1) := by decide +kernel
theorem dX4_deleteAt_25 : decode cX4_deleteAt 25 = .ok (.invokevirtual 68, 3) := by decide +kernel
theorem dX4_deleteAt_28 : decode cX4_deleteAt 28 = .ok (.return_, 1) := by decide +kernel
set_option maxRecDepth 20000 in
theorem ggX4_placeOf_X4_many : GoodIn wsX4_placeOf wsX4_many := goodIn_r _ [5, 6, 7, 8, 4, 9, 10, 15, 16, 17, 18, 19, 20, 21, 22, 23, 24, 25, 26] (by decide +kernel) (by decide +kernel)
set_option maxRecDepth 20000 in
theorem gX4_placeOf_X4_many : GoodIn wsX4_placeOf (wsV RX4 60 RX4 yX4_many wsX4_many) := goodIn_app (goodIn_of _ (by decide +kernel)) ggX4_placeOf_X4_many
set_option maxRecDepth 20000 in
theorem ggX4_placeOf_X4_gen : GoodIn wsX4_placeOf wsX4_gen := goodIn_r _ [14, 6, 7, 8, 4, 9, 10, 15, 16, 17, 18, 19, 20, 21, 22, 23, 24, 25, 26] (by decide +kernel) (by decide +kernel)
set_option maxRecDepth 20000 in
theorem gX4_placeOf_X4_gen : GoodIn wsX4_placeOf (wsV RX4 45 RX4 yX4_gen wsX4_gen) := goodIn_app (goodIn_of _ (by decide +kernel)) ggX4_placeOf_X4_gen
theorem dX4_placeOf_0 : decode cX4_placeOf 0 = .ok (.bipush (-6), 2) := by decide +kernel
theorem dX4_placeOf_2 : decode cX4_placeOf 2 = .ok (.istore_n 3, 1) := by decide +kernel
theorem dX4_placeOf_3 : decode cX4_placeOf 3 = .ok (.iconst 0, 1) := by decide +kernel
theorem dX4_placeOf_4 : decode cX4_placeOf 4 = .ok (.istore 4, 2) := by decide +kernel
theorem dX4_placeOf_6 : decode cX4_placeOf 6 = .ok (.iload 4, 2) := by decide +kernel
theorem dX4_placeOf_8 : decode cX4_placeOf 8 = .ok (.aload_n 0, 1) := by decide +kernel
theorem dX4_placeOf_9 : decode cX4_placeOf 9 = .ok (.iload_n 1, 1) := by decide +kernel
theorem dX4_placeOf_10 : decode cX4_placeOf 10 = .ok (.invokevirtual 60, 3) := by decide +kernel
theorem dX4_placeOf_13 : decode cX4_placeOf 13 = .ok (.if_icmp .ge 28, 3) := by decide +kernel
theorem dX4_placeOf_16 : decode cX4_placeOf 16 = .ok (.aload_n 0, 1) := by decide +kernel
theorem dX4_placeOf_17 : decode cX4_placeOf 17 = .ok (.iload_n 1, 1) := by decide +kernel
theorem dX4_placeOf_18 : decode cX4_placeOf 18 = .ok (.iload 4, 2) := by decide +kernel
theorem dX4_placeOf_20 : decode cX4_placeOf 20 = .ok (.iconst 0, 1) := by decide +kernel
theorem dX4_placeOf_21 : decode cX4_placeOf 21 = .ok (.invokevirtual 45, 3) := by decide +kernel
theorem dX4_placeOf_24 : decode cX4_placeOf 24 = .ok (.iload_n 2, 1) := by decide +kernel
theorem dX4_placeOf_25 : decode cX4_placeOf 25 = .ok (.if_icmp .ne 8, 3) := by decide +kernel
theorem dX4_placeOf_28 : decode cX4_placeOf 28 = .ok (.iload 4, 2) := by decide +kernel
theorem dX4_placeOf_30 : decode cX4_placeOf 30 = .ok (.goto 4, 3) := by decide +kernel
theorem dX4_placeOf_33 : decode cX4_placeOf 33 = .ok (.iload_n 3, 1) := by decide +kernel
theorem dX4_placeOf_34 : decode cX4_placeOf 34 = .ok (.istore_n 3, 1) := by decide +kernel
theorem dX4_placeOf_35 : decode cX4_placeOf 35 = .ok (.iinc 4 1, 3) := by decide +kernel
theorem dX4_placeOf_38 : decode cX4_placeOf 38 = .ok (.goto (-32), 3) := by decide +kernel
theorem dX4_placeOf_41 : decode cX4_placeOf 41 = .ok (.iload_n 3, 1) := by decide +kernel
theorem dX4_placeOf_42 : decode cX4_placeOf 42 = .ok (.ireturn, 1) := by decide +kernel
set_option maxRecDepth 20000 in
theorem ggX4_isName_X4_in : GoodIn wsX4_isName wsX4_in := goodIn_r _ [4] (by decide +kernel) (by decide +kernel)
set_option maxRecDepth 20000 in
theorem gX4_isName_X4_in : GoodIn wsX4_isName (va_wsS RX4 33 yX4_in wsX4_in) := goodIn_app (goodIn_of _ (by decide +kernel)) ggX4_isName_X4_in
theorem dX4_isName_0 : decode cX4_isName 0 = .ok (.iload_n 0, 1) := by decide +kernel
theorem dX4_isName_1 : decode cX4_isName 1 = .ok (.bipush (-7), 2) := by decide +kernel
theorem dX4_isName_3 : decode cX4_isName 3 = .ok (.iconst 1, 1) := by decide +kernel
theorem dX4_isName_4 : decode cX4_isName 4 = .ok (.invokestatic 33, 3) := by decide +kernel
theorem dX4_isName_7 : decode cX4_isName 7 = .ok (.ireturn, 1) := by decide +kernel
set_option maxRecDepth 20000 in
theorem ggX4_markOf_X4_of : GoodIn wsX4_markOf wsX4_of := goodIn_r _ [5, 6, 7, 8, 9, 10, 11, 12, 13, 14, 15, 16, 17, 18] (by decide +kernel) (by decide +kernel)
set_option maxRecDepth 20000 in
theorem gX4_markOf_X4_of : GoodIn wsX4_markOf (wsV RX4 37 RX4 yX4_of wsX4_of) := goodIn_app (goodIn_of _ (by decide +kernel)) ggX4_markOf_X4_of
theorem dX4_markOf_0 : decode cX4_markOf 0 = .ok (.iload_n 2, 1) := by decide +kernel
theorem dX4_markOf_1 : decode cX4_markOf 1 = .ok (.iconst 1, 1) := by decide +kernel
theorem dX4_markOf_2 : decode cX4_markOf 2 = .ok (.if_icmp .ne 12, 3) := by decide +kernel
theorem dX4_markOf_5 : decode cX4_markOf 5 = .ok (.aload_n 0, 1) := by decide +kernel
theorem dX4_markOf_6 : decode cX4_markOf 6 = .ok (.iload_n 1, 1) := by decide +kernel
theorem dX4_markOf_7 : decode cX4_markOf 7 = .ok (.iconst 5, 1) := by decide +kernel
theorem dX4_markOf_8 : decode cX4_markOf 8 = .ok (.invokevirtual 37, 3) := by decide +kernel
theorem dX4_markOf_11 : decode cX4_markOf 11 = .ok (.goto 12, 3) := by decide +kernel
theorem dX4_markOf_14 : decode cX4_markOf 14 = .ok (.aload_n 0, 1) := by decide +kernel
theorem dX4_markOf_15 : decode cX4_markOf 15 = .ok (.iload_n 1, 1) := by decide +kernel
theorem dX4_markOf_16 : decode cX4_markOf 16 = .ok (.bipush 7, 2) := by decide +kernel
theorem dX4_markOf_18 : decode cX4_markOf 18 = .ok (.iload_n 2, 1) := by decide +kernel
theorem dX4_markOf_19 : decode cX4_markOf 19 = .ok (.isub, 1) := by decide +kernel
theorem dX4_markOf_20 : decode cX4_markOf 20 = .ok (.invokevirtual 37, 3) := by decide +kernel
theorem dX4_markOf_23 : decode cX4_markOf 23 = .ok (.ireturn, 1) := by decide +kernel
set_option maxRecDepth 20000 in
theorem ggX4_told_X4_runs : GoodIn wsX4_told wsX4_runs := goodIn_r _ [5, 6, 31, 32, 33, 34, 35, 36, 37, 38, 39, 40, 41, 42] (by decide +kernel) (by decide +kernel)
set_option maxRecDepth 20000 in
theorem gX4_told_X4_runs : GoodIn wsX4_told (wsV RX4 79 RX4 yX4_runs wsX4_runs) := goodIn_app (goodIn_of _ (by decide +kernel)) ggX4_told_X4_runs
set_option maxRecDepth 20000 in
theorem ggX4_told_X4_markOf : GoodIn wsX4_told wsX4_markOf := goodIn_r _ [10, 11, 12, 13, 4, 14, 6, 31, 32, 33, 34, 35, 36, 37, 38, 39, 40, 41, 42] (by decide +kernel) (by decide +kernel)
set_option maxRecDepth 20000 in
theorem gX4_told_X4_markOf : GoodIn wsX4_told (wsV RX4 86 RX4 yX4_markOf wsX4_markOf) := goodIn_app (goodIn_of _ (by decide +kernel)) ggX4_told_X4_markOf
set_option maxRecDepth 20000 in
theorem ggX4_told_X4_placeOf : GoodIn wsX4_told wsX4_placeOf := goodIn_r _ [18, 19, 20, 21, 4, 22, 11, 12, 13, 14, 6, 23, 24, 25, 26, 31, 32, 33, 34, 35, 36, 37, 38, 39, 40, 41, 42] (by decide +kernel) (by decide +kernel)
set_option maxRecDepth 20000 in
theorem gX4_told_X4_placeOf : GoodIn wsX4_told (wsV RX4 89 RX4 yX4_placeOf wsX4_placeOf) := goodIn_app (goodIn_of _ (by decide +kernel)) ggX4_told_X4_placeOf
set_option maxRecDepth 20000 in
theorem ggX4_told_X4_many : GoodIn wsX4_told wsX4_many := goodIn_r _ [22, 11, 12, 13, 4, 14, 6, 31, 32, 33, 34, 35, 36, 37, 38, 39, 40, 41, 42] (by decide +kernel) (by decide +kernel)
set_option maxRecDepth 20000 in
theorem gX4_told_X4_many : GoodIn wsX4_told (wsV RX4 60 RX4 yX4_many wsX4_many) := goodIn_app (goodIn_of _ (by decide +kernel)) ggX4_told_X4_many
set_option maxRecDepth 20000 in
theorem ggX4_told_X4_isHole : GoodIn wsX4_told wsX4_isHole := goodIn_r _ [30, 23, 24, 25, 4, 26, 11, 12, 13, 14, 6, 31, 32, 33, 34, 35, 36, 37, 38, 39, 40, 41, 42] (by decide +kernel) (by decide +kernel)
set_option maxRecDepth 20000 in
theorem gX4_told_X4_isHole : GoodIn wsX4_told (wsV RX4 64 RX4 yX4_isHole wsX4_isHole) := goodIn_app (goodIn_of _ (by decide +kernel)) ggX4_told_X4_isHole
theorem dX4_told_0 : decode cX4_told 0 = .ok (.bipush (-6), 2) := by decide +kernel
theorem dX4_told_2 : decode cX4_told 2 = .ok (.istore_n 3, 1) := by decide +kernel
theorem dX4_told_3 : decode cX4_told 3 = .ok (.aload_n 0, 1) := by decide +kernel
theorem dX4_told_4 : decode cX4_told 4 = .ok (.invokevirtual 79, 3) := by decide +kernel
theorem dX4_told_7 : decode cX4_told 7 = .ok (.ifCond .eq 32, 3) := by decide +kernel
theorem dX4_told_10 : decode cX4_told 10 = .ok (.aload_n 0, 1) := by decide +kernel
theorem dX4_told_11 : decode cX4_told 11 = .ok (.iload_n 1, 1) := by decide +kernel
theorem dX4_told_12 : decode cX4_told 12 = .ok (.iload_n 2, 1) := by decide +kernel
theorem dX4_told_13 : decode cX4_told 13 = .ok (.invokevirtual 86, 3) := by decide +kernel
theorem dX4_told_16 : decode cX4_told 16 = .ok (.ifCond .ne 8, 3) := by decide +kernel
theorem dX4_told_19 : decode cX4_told 19 = .ok (.bipush (-6), 2) := by decide +kernel
theorem dX4_told_21 : decode cX4_told 21 = .ok (.goto 14, 3) := by decide +kernel
theorem dX4_told_24 : decode cX4_told 24 = .ok (.aload_n 0, 1) := by decide +kernel
theorem dX4_told_25 : decode cX4_told 25 = .ok (.iload_n 1, 1) := by decide +kernel
theorem dX4_told_26 : decode cX4_told 26 = .ok (.aload_n 0, 1) := by decide +kernel
theorem dX4_told_27 : decode cX4_told 27 = .ok (.iload_n 1, 1) := by decide +kernel
theorem dX4_told_28 : decode cX4_told 28 = .ok (.iload_n 2, 1) := by decide +kernel
theorem dX4_told_29 : decode cX4_told 29 = .ok (.invokevirtual 86, 3) := by decide +kernel
theorem dX4_told_32 : decode cX4_told 32 = .ok (.invokevirtual 89, 3) := by decide +kernel
theorem dX4_told_35 : decode cX4_told 35 = .ok (.istore_n 3, 1) := by decide +kernel
theorem dX4_told_36 : decode cX4_told 36 = .ok (.goto 21, 3) := by decide +kernel
theorem dX4_told_39 : decode cX4_told 39 = .ok (.iload_n 2, 1) := by decide +kernel
theorem dX4_told_40 : decode cX4_told 40 = .ok (.iconst 1, 1) := by decide +kernel
theorem dX4_told_41 : decode cX4_told 41 = .ok (.if_icmp .ge 16, 3) := by decide +kernel
theorem dX4_told_44 : decode cX4_told 44 = .ok (.iload_n 2, 1) := by decide +kernel
theorem dX4_told_45 : decode cX4_told 45 = .ok (.ineg, 1) := by decide +kernel
theorem dX4_told_46 : decode cX4_told 46 = .ok (.aload_n 0, 1) := by decide +kernel
theorem dX4_told_47 : decode cX4_told 47 = .ok (.iload_n 1, 1) := by decide +kernel
theorem dX4_told_48 : decode cX4_told 48 = .ok (.invokevirtual 60, 3) := by decide +kernel
theorem dX4_told_51 : decode cX4_told 51 = .ok (.if_icmp .ge 6, 3) := by decide +kernel
theorem dX4_told_54 : decode cX4_told 54 = .ok (.iload_n 2, 1) := by decide +kernel
theorem dX4_told_55 : decode cX4_told 55 = .ok (.ineg, 1) := by decide +kernel
theorem dX4_told_56 : decode cX4_told 56 = .ok (.istore_n 3, 1) := by decide +kernel
theorem dX4_told_57 : decode cX4_told 57 = .ok (.iload_n 3, 1) := by decide +kernel
theorem dX4_told_58 : decode cX4_told 58 = .ok (.bipush (-6), 2) := by decide +kernel
theorem dX4_told_60 : decode cX4_told 60 = .ok (.if_icmp .eq 12, 3) := by decide +kernel
theorem dX4_told_63 : decode cX4_told 63 = .ok (.aload_n 0, 1) := by decide +kernel
theorem dX4_told_64 : decode cX4_told 64 = .ok (.iload_n 1, 1) := by decide +kernel
theorem dX4_told_65 : decode cX4_told 65 = .ok (.iload_n 3, 1) := by decide +kernel
theorem dX4_told_66 : decode cX4_told 66 = .ok (.invokevirtual 64, 3) := by decide +kernel
theorem dX4_told_69 : decode cX4_told 69 = .ok (.ifCond .eq 8, 3) := by decide +kernel
theorem dX4_told_72 : decode cX4_told 72 = .ok (.bipush (-6), 2) := by decide +kernel
theorem dX4_told_74 : decode cX4_told 74 = .ok (.goto 4, 3) := by decide +kernel
theorem dX4_told_77 : decode cX4_told 77 = .ok (.iload_n 3, 1) := by decide +kernel
theorem dX4_told_78 : decode cX4_told 78 = .ok (.ireturn, 1) := by decide +kernel
set_option maxRecDepth 20000 in
theorem ggX4_keep_X4_isGroup : GoodIn wsX4_keep wsX4_isGroup := goodIn_r _ [4, 5, 6, 3, 7] (by decide +kernel) (by decide +kernel)
set_option maxRecDepth 20000 in
theorem gX4_keep_X4_isGroup : GoodIn wsX4_keep (va_wsS RX4 92 yX4_isGroup wsX4_isGroup) := goodIn_app (goodIn_of _ (by decide +kernel)) ggX4_keep_X4_isGroup
set_option maxRecDepth 20000 in
theorem ggX4_keep_X4_in : GoodIn wsX4_keep wsX4_in := goodIn_r _ [7] (by decide +kernel) (by decide +kernel)
set_option maxRecDepth 20000 in
theorem gX4_keep_X4_in : GoodIn wsX4_keep (va_wsS RX4 33 yX4_in wsX4_in) := goodIn_app (goodIn_of _ (by decide +kernel)) ggX4_keep_X4_in
set_option maxRecDepth 20000 in
theorem ggX4_keep_X4_record : GoodIn wsX4_keep wsX4_record := goodIn_r _ [11, 12, 13, 14, 43, 44, 45, 46, 47, 48, 49, 50, 51, 52, 53, 54] (by decide +kernel) (by decide +kernel)
set_option maxRecDepth 20000 in
theorem gX4_keep_X4_record : GoodIn wsX4_keep (wsV RX4 57 RX4 yX4_record wsX4_record) := goodIn_app (goodIn_of _ (by decide +kernel)) ggX4_keep_X4_record
set_option maxRecDepth 20000 in
theorem ggX4_keep_X4_of : GoodIn wsX4_keep wsX4_of := goodIn_r _ [18, 14, 43, 44, 45, 46, 47, 48, 49, 50, 51, 52, 53, 54] (by decide +kernel) (by decide +kernel)
set_option maxRecDepth 20000 in
theorem gX4_keep_X4_of : GoodIn wsX4_keep (wsV RX4 37 RX4 yX4_of wsX4_of) := goodIn_app (goodIn_of _ (by decide +kernel)) ggX4_keep_X4_of
set_option maxRecDepth 20000 in
theorem ggX4_keep_X4_lay : GoodIn wsX4_keep wsX4_lay := goodIn_r _ [22, 14, 43, 44, 45, 46, 47, 48, 49, 50, 51, 52, 53, 54] (by decide +kernel) (by decide +kernel)
set_option maxRecDepth 20000 in
theorem gX4_keep_X4_lay : GoodIn wsX4_keep (wsV RX4 41 RX4 yX4_lay wsX4_lay) := goodIn_app (goodIn_of _ (by decide +kernel)) ggX4_keep_X4_lay
set_option maxRecDepth 20000 in
theorem ggX4_keep_X4_roll : GoodIn wsX4_keep wsX4_roll := goodIn_r _ [26, 27, 28, 29, 3, 30, 15, 16, 17, 18, 14, 31, 32, 33, 34, 35, 36, 37, 38, 19, 20, 21, 22, 39, 40, 41, 42, 43, 44, 45, 46, 47, 48, 49, 50, 51, 52, 53, 54] (by decide +kernel) (by decide +kernel)
set_option maxRecDepth 20000 in
theorem gX4_keep_X4_roll : GoodIn wsX4_keep (wsV RX4 83 RX4 yX4_roll wsX4_roll) := goodIn_app (goodIn_of _ (by decide +kernel)) ggX4_keep_X4_roll
theorem dX4_keep_0 : decode cX4_keep 0 = .ok (.iload_n 1, 1) := by decide +kernel
theorem dX4_keep_1 : decode cX4_keep 1 = .ok (.invokestatic 92, 3) := by decide +kernel
theorem dX4_keep_4 : decode cX4_keep 4 = .ok (.ifCond .ne 5, 3) := by decide +kernel
theorem dX4_keep_7 : decode cX4_keep 7 = .ok (.iconst (-1), 1) := by decide +kernel
theorem dX4_keep_8 : decode cX4_keep 8 = .ok (.ireturn, 1) := by decide +kernel
theorem dX4_keep_9 : decode cX4_keep 9 = .ok (.iload_n 2, 1) := by decide +kernel
theorem dX4_keep_10 : decode cX4_keep 10 = .ok (.iconst 1, 1) := by decide +kernel
theorem dX4_keep_11 : decode cX4_keep 11 = .ok (.bipush 8, 2) := by decide +kernel
theorem dX4_keep_13 : decode cX4_keep 13 = .ok (.invokestatic 33, 3) := by decide +kernel
theorem dX4_keep_16 : decode cX4_keep 16 = .ok (.ifCond .ne 6, 3) := by decide +kernel
theorem dX4_keep_19 : decode cX4_keep 19 = .ok (.bipush (-2), 2) := by decide +kernel
theorem dX4_keep_21 : decode cX4_keep 21 = .ok (.ireturn, 1) := by decide +kernel
theorem dX4_keep_22 : decode cX4_keep 22 = .ok (.aload_n 0, 1) := by decide +kernel
theorem dX4_keep_23 : decode cX4_keep 23 = .ok (.invokevirtual 57, 3) := by decide +kernel
theorem dX4_keep_26 : decode cX4_keep 26 = .ok (.aload_n 0, 1) := by decide +kernel
theorem dX4_keep_27 : decode cX4_keep 27 = .ok (.iload_n 1, 1) := by decide +kernel
theorem dX4_keep_28 : decode cX4_keep 28 = .ok (.iconst 0, 1) := by decide +kernel
theorem dX4_keep_29 : decode cX4_keep 29 = .ok (.invokevirtual 37, 3) := by decide +kernel
theorem dX4_keep_32 : decode cX4_keep 32 = .ok (.istore_n 3, 1) := by decide +kernel
theorem dX4_keep_33 : decode cX4_keep 33 = .ok (.aload_n 0, 1) := by decide +kernel
theorem dX4_keep_34 : decode cX4_keep 34 = .ok (.iload_n 1, 1) := by decide +kernel
theorem dX4_keep_35 : decode cX4_keep 35 = .ok (.iconst 0, 1) := by decide +kernel
theorem dX4_keep_36 : decode cX4_keep 36 = .ok (.iload_n 2, 1) := by decide +kernel
theorem dX4_keep_37 : decode cX4_keep 37 = .ok (.invokevirtual 41, 3) := by decide +kernel
theorem dX4_keep_40 : decode cX4_keep 40 = .ok (.aload_n 0, 1) := by decide +kernel
theorem dX4_keep_41 : decode cX4_keep 41 = .ok (.iload_n 1, 1) := by decide +kernel
theorem dX4_keep_42 : decode cX4_keep 42 = .ok (.invokevirtual 83, 3) := by decide +kernel
theorem dX4_keep_45 : decode cX4_keep 45 = .ok (.iload_n 3, 1) := by decide +kernel
theorem dX4_keep_46 : decode cX4_keep 46 = .ok (.ireturn, 1) := by decide +kernel
set_option maxRecDepth 20000 in
theorem ggX4_canWrite_X4_runs : GoodIn wsX4_canWrite wsX4_runs := goodIn_r _ [5, 6, 35, 36, 37, 38, 39, 40, 41, 42, 43, 44, 45, 46] (by decide +kernel) (by decide +kernel)
set_option maxRecDepth 20000 in
theorem gX4_canWrite_X4_runs : GoodIn wsX4_canWrite (wsV RX4 79 RX4 yX4_runs wsX4_runs) := goodIn_app (goodIn_of _ (by decide +kernel)) ggX4_canWrite_X4_runs
set_option maxRecDepth 20000 in
theorem ggX4_canWrite_X4_of : GoodIn wsX4_canWrite wsX4_of := goodIn_r _ [10, 6, 35, 36, 37, 38, 39, 40, 41, 42, 43, 44, 45, 46] (by decide +kernel) (by decide +kernel)
set_option maxRecDepth 20000 in
theorem gX4_canWrite_X4_of : GoodIn wsX4_canWrite (wsV RX4 37 RX4 yX4_of wsX4_of) := goodIn_app (goodIn_of _ (by decide +kernel)) ggX4_canWrite_X4_of
set_option maxRecDepth 20000 in
theorem ggX4_canWrite_X4_told : GoodIn wsX4_canWrite wsX4_told := goodIn_r _ [14, 1, 2, 3, 4, 5, 6, 15, 16, 17, 18, 7, 8, 9, 10, 19, 20, 21, 22, 23, 24, 25, 26, 27, 28, 29, 30, 31, 32, 33, 34, 35, 36, 37, 38, 39, 40, 41, 42, 43, 44, 45, 46] (by decide +kernel) (by decide +kernel)
set_option maxRecDepth 20000 in
theorem gX4_canWrite_X4_told : GoodIn wsX4_canWrite (wsV RX4 96 RX4 yX4_told wsX4_told) := goodIn_app (goodIn_of _ (by decide +kernel)) ggX4_canWrite_X4_told
theorem dX4_canWrite_0 : decode cX4_canWrite 0 = .ok (.iload_n 2, 1) := by decide +kernel
theorem dX4_canWrite_1 : decode cX4_canWrite 1 = .ok (.iconst 1, 1) := by decide +kernel
theorem dX4_canWrite_2 : decode cX4_canWrite 2 = .ok (.if_icmp .ne 23, 3) := by decide +kernel
theorem dX4_canWrite_5 : decode cX4_canWrite 5 = .ok (.aload_n 0, 1) := by decide +kernel
theorem dX4_canWrite_6 : decode cX4_canWrite 6 = .ok (.invokevirtual 79, 3) := by decide +kernel
theorem dX4_canWrite_9 : decode cX4_canWrite 9 = .ok (.ifCond .eq 12, 3) := by decide +kernel
theorem dX4_canWrite_12 : decode cX4_canWrite 12 = .ok (.aload_n 0, 1) := by decide +kernel
theorem dX4_canWrite_13 : decode cX4_canWrite 13 = .ok (.iload_n 1, 1) := by decide +kernel
theorem dX4_canWrite_14 : decode cX4_canWrite 14 = .ok (.iconst 5, 1) := by decide +kernel
theorem dX4_canWrite_15 : decode cX4_canWrite 15 = .ok (.invokevirtual 37, 3) := by decide +kernel
theorem dX4_canWrite_18 : decode cX4_canWrite 18 = .ok (.ifCond .ne 7, 3) := by decide +kernel
theorem dX4_canWrite_21 : decode cX4_canWrite 21 = .ok (.iconst 1, 1) := by decide +kernel
theorem dX4_canWrite_22 : decode cX4_canWrite 22 = .ok (.goto 4, 3) := by decide +kernel
theorem dX4_canWrite_25 : decode cX4_canWrite 25 = .ok (.iconst 0, 1) := by decide +kernel
theorem dX4_canWrite_26 : decode cX4_canWrite 26 = .ok (.istore_n 3, 1) := by decide +kernel
theorem dX4_canWrite_27 : decode cX4_canWrite 27 = .ok (.iload_n 3, 1) := by decide +kernel
theorem dX4_canWrite_28 : decode cX4_canWrite 28 = .ok (.ifCond .ne 14, 3) := by decide +kernel
theorem dX4_canWrite_31 : decode cX4_canWrite 31 = .ok (.aload_n 0, 1) := by decide +kernel
theorem dX4_canWrite_32 : decode cX4_canWrite 32 = .ok (.iload_n 1, 1) := by decide +kernel
theorem dX4_canWrite_33 : decode cX4_canWrite 33 = .ok (.iload_n 2, 1) := by decide +kernel
theorem dX4_canWrite_34 : decode cX4_canWrite 34 = .ok (.invokevirtual 96, 3) := by decide +kernel
theorem dX4_canWrite_37 : decode cX4_canWrite 37 = .ok (.bipush (-6), 2) := by decide +kernel
theorem dX4_canWrite_39 : decode cX4_canWrite 39 = .ok (.if_icmp .eq 7, 3) := by decide +kernel
theorem dX4_canWrite_42 : decode cX4_canWrite 42 = .ok (.iconst 1, 1) := by decide +kernel
theorem dX4_canWrite_43 : decode cX4_canWrite 43 = .ok (.goto 4, 3) := by decide +kernel
theorem dX4_canWrite_46 : decode cX4_canWrite 46 = .ok (.iconst 0, 1) := by decide +kernel
theorem dX4_canWrite_47 : decode cX4_canWrite 47 = .ok (.ireturn, 1) := by decide +kernel
set_option maxRecDepth 20000 in
theorem ggX4_writeIt_X4_runs : GoodIn wsX4_writeIt wsX4_runs := goodIn_r _ [5, 6, 58, 59, 60, 61, 62, 63, 64, 65, 66, 67, 68, 69] (by decide +kernel) (by decide +kernel)
set_option maxRecDepth 20000 in
theorem gX4_writeIt_X4_runs : GoodIn wsX4_writeIt (wsV RX4 79 RX4 yX4_runs wsX4_runs) := goodIn_app (goodIn_of _ (by decide +kernel)) ggX4_writeIt_X4_runs
set_option maxRecDepth 20000 in
theorem ggX4_writeIt_X4_of : GoodIn wsX4_writeIt wsX4_of := goodIn_r _ [10, 6, 58, 59, 60, 61, 62, 63, 64, 65, 66, 67, 68, 69] (by decide +kernel) (by decide +kernel)
set_option maxRecDepth 20000 in
theorem gX4_writeIt_X4_of : GoodIn wsX4_writeIt (wsV RX4 37 RX4 yX4_of wsX4_of) := goodIn_app (goodIn_of _ (by decide +kernel)) ggX4_writeIt_X4_of
set_option maxRecDepth 20000 in
theorem ggX4_writeIt_X4_make : GoodIn wsX4_writeIt wsX4_make := goodIn_r _ [14, 6, 15, 16, 17, 4, 18, 7, 8, 9, 10, 19, 20, 21, 22, 23, 24, 25, 26, 27, 28, 29, 30, 31, 32, 33, 1, 2, 3, 5, 34, 35, 36, 37, 38, 39, 40, 41, 42, 43, 44, 45, 58, 59, 60, 61, 62, 63, 64, 65, 66, 67, 68, 69] (by decide +kernel) (by decide +kernel)
set_option maxRecDepth 20000 in
theorem gX4_writeIt_X4_make : GoodIn wsX4_writeIt (wsV RX4 99 RX4 yX4_make wsX4_make) := goodIn_app (goodIn_of _ (by decide +kernel)) ggX4_writeIt_X4_make
set_option maxRecDepth 20000 in
theorem ggX4_writeIt_X4_lay : GoodIn wsX4_writeIt wsX4_lay := goodIn_r _ [30, 6, 58, 59, 60, 61, 62, 63, 64, 65, 66, 67, 68, 69] (by decide +kernel) (by decide +kernel)
set_option maxRecDepth 20000 in
theorem gX4_writeIt_X4_lay : GoodIn wsX4_writeIt (wsV RX4 41 RX4 yX4_lay wsX4_lay) := goodIn_app (goodIn_of _ (by decide +kernel)) ggX4_writeIt_X4_lay
set_option maxRecDepth 20000 in
theorem ggX4_writeIt_X4_told : GoodIn wsX4_writeIt wsX4_told := goodIn_r _ [49, 1, 2, 3, 4, 5, 6, 50, 51, 52, 53, 7, 8, 9, 10, 54, 55, 56, 57, 15, 16, 17, 18, 19, 20, 21, 22, 38, 39, 40, 41, 58, 59, 60, 61, 62, 63, 64, 65, 66, 67, 68, 69] (by decide +kernel) (by decide +kernel)
set_option maxRecDepth 20000 in
theorem gX4_writeIt_X4_told : GoodIn wsX4_writeIt (wsV RX4 96 RX4 yX4_told wsX4_told) := goodIn_app (goodIn_of _ (by decide +kernel)) ggX4_writeIt_X4_told
set_option maxRecDepth 20000 in
theorem ggX4_writeIt_X4_layGen : GoodIn wsX4_writeIt wsX4_layGen := goodIn_r _ [26, 27, 28, 29, 4, 30, 6, 58, 59, 60, 61, 62, 63, 64, 65, 66, 67, 68, 69] (by decide +kernel) (by decide +kernel)
set_option maxRecDepth 20000 in
theorem gX4_writeIt_X4_layGen : GoodIn wsX4_writeIt (wsV RX4 72 RX4 yX4_layGen wsX4_layGen) := goodIn_app (goodIn_of _ (by decide +kernel)) ggX4_writeIt_X4_layGen
set_option maxRecDepth 20000 in
theorem ggX4_writeIt_X4_gen : GoodIn wsX4_writeIt wsX4_gen := goodIn_r _ [22, 7, 8, 9, 4, 10, 6, 58, 59, 60, 61, 62, 63, 64, 65, 66, 67, 68, 69] (by decide +kernel) (by decide +kernel)
set_option maxRecDepth 20000 in
theorem gX4_writeIt_X4_gen : GoodIn wsX4_writeIt (wsV RX4 45 RX4 yX4_gen wsX4_gen) := goodIn_app (goodIn_of _ (by decide +kernel)) ggX4_writeIt_X4_gen
theorem dX4_writeIt_0 : decode cX4_writeIt 0 = .ok (.iload_n 2, 1) := by decide +kernel
theorem dX4_writeIt_1 : decode cX4_writeIt 1 = .ok (.iconst 1, 1) := by decide +kernel
theorem dX4_writeIt_2 : decode cX4_writeIt 2 = .ok (.if_icmp .ne 49, 3) := by decide +kernel
theorem dX4_writeIt_5 : decode cX4_writeIt 5 = .ok (.aload_n 0, 1) := by decide +kernel
theorem dX4_writeIt_6 : decode cX4_writeIt 6 = .ok (.invokevirtual 79, 3) := by decide +kernel
theorem dX4_writeIt_9 : decode cX4_writeIt 9 = .ok (.ifCond .eq 12, 3) := by decide +kernel
theorem dX4_writeIt_12 : decode cX4_writeIt 12 = .ok (.aload_n 0, 1) := by decide +kernel
theorem dX4_writeIt_13 : decode cX4_writeIt 13 = .ok (.iload_n 1, 1) := by decide +kernel
theorem dX4_writeIt_14 : decode cX4_writeIt 14 = .ok (.iconst 5, 1) := by decide +kernel
theorem dX4_writeIt_15 : decode cX4_writeIt 15 = .ok (.invokevirtual 37, 3) := by decide +kernel
theorem dX4_writeIt_18 : decode cX4_writeIt 18 = .ok (.ifCond .ne 33, 3) := by decide +kernel
theorem dX4_writeIt_21 : decode cX4_writeIt 21 = .ok (.aload_n 0, 1) := by decide +kernel
theorem dX4_writeIt_22 : decode cX4_writeIt 22 = .ok (.iload_n 1, 1) := by decide +kernel
theorem dX4_writeIt_23 : decode cX4_writeIt 23 = .ok (.iload_n 3, 1) := by decide +kernel
theorem dX4_writeIt_24 : decode cX4_writeIt 24 = .ok (.invokevirtual 99, 3) := by decide +kernel
theorem dX4_writeIt_27 : decode cX4_writeIt 27 = .ok (.istore 4, 2) := by decide +kernel
theorem dX4_writeIt_29 : decode cX4_writeIt 29 = .ok (.aload_n 0, 1) := by decide +kernel
theorem dX4_writeIt_30 : decode cX4_writeIt 30 = .ok (.invokevirtual 79, 3) := by decide +kernel
theorem dX4_writeIt_33 : decode cX4_writeIt 33 = .ok (.ifCond .eq 11, 3) := by decide +kernel
theorem dX4_writeIt_36 : decode cX4_writeIt 36 = .ok (.aload_n 0, 1) := by decide +kernel
theorem dX4_writeIt_37 : decode cX4_writeIt 37 = .ok (.iload_n 1, 1) := by decide +kernel
theorem dX4_writeIt_38 : decode cX4_writeIt 38 = .ok (.iconst 5, 1) := by decide +kernel
theorem dX4_writeIt_39 : decode cX4_writeIt 39 = .ok (.iload 4, 2) := by decide +kernel
theorem dX4_writeIt_41 : decode cX4_writeIt 41 = .ok (.invokevirtual 41, 3) := by decide +kernel
theorem dX4_writeIt_44 : decode cX4_writeIt 44 = .ok (.aload_n 0, 1) := by decide +kernel
theorem dX4_writeIt_45 : decode cX4_writeIt 45 = .ok (.iload_n 1, 1) := by decide +kernel
theorem dX4_writeIt_46 : decode cX4_writeIt 46 = .ok (.iconst 2, 1) := by decide +kernel
theorem dX4_writeIt_47 : decode cX4_writeIt 47 = .ok (.invokevirtual 37, 3) := by decide +kernel
theorem dX4_writeIt_50 : decode cX4_writeIt 50 = .ok (.ireturn, 1) := by decide +kernel
theorem dX4_writeIt_51 : decode cX4_writeIt 51 = .ok (.aload_n 0, 1) := by decide +kernel
theorem dX4_writeIt_52 : decode cX4_writeIt 52 = .ok (.iload_n 1, 1) := by decide +kernel
theorem dX4_writeIt_53 : decode cX4_writeIt 53 = .ok (.iload_n 2, 1) := by decide +kernel
theorem dX4_writeIt_54 : decode cX4_writeIt 54 = .ok (.invokevirtual 96, 3) := by decide +kernel
theorem dX4_writeIt_57 : decode cX4_writeIt 57 = .ok (.istore 4, 2) := by decide +kernel
theorem dX4_writeIt_59 : decode cX4_writeIt 59 = .ok (.aload_n 0, 1) := by decide +kernel
theorem dX4_writeIt_60 : decode cX4_writeIt 60 = .ok (.iload_n 1, 1) := by decide +kernel
theorem dX4_writeIt_61 : decode cX4_writeIt 61 = .ok (.iload 4, 2) := by decide +kernel
theorem dX4_writeIt_63 : decode cX4_writeIt 63 = .ok (.iconst 2, 1) := by decide +kernel
theorem dX4_writeIt_64 : decode cX4_writeIt 64 = .ok (.iload_n 3, 1) := by decide +kernel
theorem dX4_writeIt_65 : decode cX4_writeIt 65 = .ok (.invokevirtual 72, 3) := by decide +kernel
theorem dX4_writeIt_68 : decode cX4_writeIt 68 = .ok (.aload_n 0, 1) := by decide +kernel
theorem dX4_writeIt_69 : decode cX4_writeIt 69 = .ok (.iload_n 1, 1) := by decide +kernel
theorem dX4_writeIt_70 : decode cX4_writeIt 70 = .ok (.iload 4, 2) := by decide +kernel
theorem dX4_writeIt_72 : decode cX4_writeIt 72 = .ok (.iconst 1, 1) := by decide +kernel
theorem dX4_writeIt_73 : decode cX4_writeIt 73 = .ok (.invokevirtual 45, 3) := by decide +kernel
theorem dX4_writeIt_76 : decode cX4_writeIt 76 = .ok (.ireturn, 1) := by decide +kernel
set_option maxRecDepth 20000 in
theorem ggX4_write_X4_isGroup : GoodIn wsX4_write wsX4_isGroup := goodIn_r _ [4, 5, 6, 3, 7] (by decide +kernel) (by decide +kernel)
set_option maxRecDepth 20000 in
theorem gX4_write_X4_isGroup : GoodIn wsX4_write (va_wsS RX4 92 yX4_isGroup wsX4_isGroup) := goodIn_app (goodIn_of _ (by decide +kernel)) ggX4_write_X4_isGroup
set_option maxRecDepth 20000 in
theorem ggX4_write_X4_isName : GoodIn wsX4_write wsX4_isName := goodIn_r _ [10, 5, 6, 3, 7] (by decide +kernel) (by decide +kernel)
set_option maxRecDepth 20000 in
theorem gX4_write_X4_isName : GoodIn wsX4_write (va_wsS RX4 102 yX4_isName wsX4_isName) := goodIn_app (goodIn_of _ (by decide +kernel)) ggX4_write_X4_isName
set_option maxRecDepth 20000 in
theorem ggX4_write_X4_in : GoodIn wsX4_write wsX4_in := goodIn_r _ [7] (by decide +kernel) (by decide +kernel)
set_option maxRecDepth 20000 in
theorem gX4_write_X4_in : GoodIn wsX4_write (va_wsS RX4 33 yX4_in wsX4_in) := goodIn_app (goodIn_of _ (by decide +kernel)) ggX4_write_X4_in
set_option maxRecDepth 20000 in
theorem ggX4_write_X4_canWrite : GoodIn wsX4_write wsX4_canWrite := goodIn_r _ [14, 15, 16, 17, 3, 18, 19, 20, 21, 22, 23, 24, 25, 26, 27, 28, 29, 30, 31, 32, 33, 34, 35, 36, 37, 38, 39, 40, 41, 42, 43, 44, 45, 46, 47, 81, 82, 83, 84, 85, 86, 87, 88, 89, 90, 91, 92] (by decide +kernel) (by decide +kernel)
set_option maxRecDepth 20000 in
theorem gX4_write_X4_canWrite : GoodIn wsX4_write (wsV RX4 105 RX4 yX4_canWrite wsX4_canWrite) := goodIn_app (goodIn_of _ (by decide +kernel)) ggX4_write_X4_canWrite
set_option maxRecDepth 20000 in
theorem ggX4_write_X4_record : GoodIn wsX4_write wsX4_record := goodIn_r _ [51, 52, 53, 19, 81, 82, 83, 84, 85, 86, 87, 88, 89, 90, 91, 92] (by decide +kernel) (by decide +kernel)
set_option maxRecDepth 20000 in
theorem gX4_write_X4_record : GoodIn wsX4_write (wsV RX4 57 RX4 yX4_record wsX4_record) := goodIn_app (goodIn_of _ (by decide +kernel)) ggX4_write_X4_record
set_option maxRecDepth 20000 in
theorem ggX4_write_X4_writeIt : GoodIn wsX4_write wsX4_writeIt := goodIn_r _ [57, 15, 16, 17, 3, 18, 19, 20, 21, 22, 23, 58, 59, 60, 61, 36, 37, 38, 39, 40, 41, 42, 43, 62, 63, 64, 65, 66, 67, 68, 69, 70, 71, 72, 73, 74, 75, 76, 44, 45, 46, 47, 77, 78, 79, 80, 24, 25, 26, 27, 28, 29, 30, 31, 32, 33, 34, 35, 81, 82, 83, 84, 85, 86, 87, 88, 89, 90, 91, 92] (by decide +kernel) (by decide +kernel)
set_option maxRecDepth 20000 in
theorem gX4_write_X4_writeIt : GoodIn wsX4_write (wsV RX4 108 RX4 yX4_writeIt wsX4_writeIt) := goodIn_app (goodIn_of _ (by decide +kernel)) ggX4_write_X4_writeIt
theorem dX4_write_0 : decode cX4_write 0 = .ok (.iload_n 1, 1) := by decide +kernel
theorem dX4_write_1 : decode cX4_write 1 = .ok (.invokestatic 92, 3) := by decide +kernel
theorem dX4_write_4 : decode cX4_write 4 = .ok (.ifCond .ne 5, 3) := by decide +kernel
theorem dX4_write_7 : decode cX4_write 7 = .ok (.iconst (-1), 1) := by decide +kernel
theorem dX4_write_8 : decode cX4_write 8 = .ok (.ireturn, 1) := by decide +kernel
theorem dX4_write_9 : decode cX4_write 9 = .ok (.iload_n 2, 1) := by decide +kernel
theorem dX4_write_10 : decode cX4_write 10 = .ok (.invokestatic 102, 3) := by decide +kernel
theorem dX4_write_13 : decode cX4_write 13 = .ok (.ifCond .eq 14, 3) := by decide +kernel
theorem dX4_write_16 : decode cX4_write 16 = .ok (.iload_n 3, 1) := by decide +kernel
theorem dX4_write_17 : decode cX4_write 17 = .ok (.iconst 0, 1) := by decide +kernel
theorem dX4_write_18 : decode cX4_write 18 = .ok (.sipush 9999, 3) := by decide +kernel
theorem dX4_write_21 : decode cX4_write 21 = .ok (.invokestatic 33, 3) := by decide +kernel
theorem dX4_write_24 : decode cX4_write 24 = .ok (.ifCond .ne 6, 3) := by decide +kernel
theorem dX4_write_27 : decode cX4_write 27 = .ok (.bipush (-2), 2) := by decide +kernel
theorem dX4_write_29 : decode cX4_write 29 = .ok (.ireturn, 1) := by decide +kernel
theorem dX4_write_30 : decode cX4_write 30 = .ok (.aload_n 0, 1) := by decide +kernel
theorem dX4_write_31 : decode cX4_write 31 = .ok (.iload_n 1, 1) := by decide +kernel
theorem dX4_write_32 : decode cX4_write 32 = .ok (.iload_n 2, 1) := by decide +kernel
theorem dX4_write_33 : decode cX4_write 33 = .ok (.invokevirtual 105, 3) := by decide +kernel
theorem dX4_write_36 : decode cX4_write 36 = .ok (.ifCond .ne 6, 3) := by decide +kernel
theorem dX4_write_39 : decode cX4_write 39 = .ok (.bipush (-5), 2) := by decide +kernel
theorem dX4_write_41 : decode cX4_write 41 = .ok (.ireturn, 1) := by decide +kernel
theorem dX4_write_42 : decode cX4_write 42 = .ok (.aload_n 0, 1) := by decide +kernel
theorem dX4_write_43 : decode cX4_write 43 = .ok (.invokevirtual 57, 3) := by decide +kernel
theorem dX4_write_46 : decode cX4_write 46 = .ok (.aload_n 0, 1) := by decide +kernel
theorem dX4_write_47 : decode cX4_write 47 = .ok (.iload_n 1, 1) := by decide +kernel
theorem dX4_write_48 : decode cX4_write 48 = .ok (.iload_n 2, 1) := by decide +kernel
theorem dX4_write_49 : decode cX4_write 49 = .ok (.iload_n 3, 1) := by decide +kernel
theorem dX4_write_50 : decode cX4_write 50 = .ok (.invokevirtual 108, 3) := by decide +kernel
theorem dX4_write_53 : decode cX4_write 53 = .ok (.ireturn, 1) := by decide +kernel
set_option maxRecDepth 20000 in
theorem ggX4_readIt_X4_told : GoodIn wsX4_readIt wsX4_told := goodIn_r _ [6, 7, 8, 9, 5, 10, 1, 11, 12, 13, 14, 15, 16, 17, 18, 19, 20, 21, 22, 23, 24, 25, 26, 27, 28, 29, 30, 31, 32, 33, 34, 43, 44, 45, 46, 47, 48, 49, 50, 51, 52, 53, 54] (by decide +kernel) (by decide +kernel)
set_option maxRecDepth 20000 in
theorem gX4_readIt_X4_told : GoodIn wsX4_readIt (wsV RX4 96 RX4 yX4_told wsX4_told) := goodIn_app (goodIn_of _ (by decide +kernel)) ggX4_readIt_X4_told
set_option maxRecDepth 20000 in
theorem ggX4_readIt_X4_gen : GoodIn wsX4_readIt wsX4_gen := goodIn_r _ [30, 15, 16, 17, 5, 18, 1, 43, 44, 45, 46, 47, 48, 49, 50, 51, 52, 53, 54] (by decide +kernel) (by decide +kernel)
set_option maxRecDepth 20000 in
theorem gX4_readIt_X4_gen : GoodIn wsX4_readIt (wsV RX4 45 RX4 yX4_gen wsX4_gen) := goodIn_app (goodIn_of _ (by decide +kernel)) ggX4_readIt_X4_gen
set_option maxRecDepth 20000 in
theorem ggX4_readIt_X4_layGen : GoodIn wsX4_readIt wsX4_layGen := goodIn_r _ [38, 39, 40, 41, 5, 42, 1, 43, 44, 45, 46, 47, 48, 49, 50, 51, 52, 53, 54] (by decide +kernel) (by decide +kernel)
set_option maxRecDepth 20000 in
theorem gX4_readIt_X4_layGen : GoodIn wsX4_readIt (wsV RX4 72 RX4 yX4_layGen wsX4_layGen) := goodIn_app (goodIn_of _ (by decide +kernel)) ggX4_readIt_X4_layGen
theorem dX4_readIt_0 : decode cX4_readIt 0 = .ok (.aload_n 0, 1) := by decide +kernel
theorem dX4_readIt_1 : decode cX4_readIt 1 = .ok (.getfield 7, 3) := by decide +kernel
theorem dX4_readIt_4 : decode cX4_readIt 4 = .ok (.iconst 4, 1) := by decide +kernel
theorem dX4_readIt_5 : decode cX4_readIt 5 = .ok (.dup2, 1) := by decide +kernel
theorem dX4_readIt_6 : decode cX4_readIt 6 = .ok (.iaload, 1) := by decide +kernel
theorem dX4_readIt_7 : decode cX4_readIt 7 = .ok (.iconst 1, 1) := by decide +kernel
theorem dX4_readIt_8 : decode cX4_readIt 8 = .ok (.iadd, 1) := by decide +kernel
theorem dX4_readIt_9 : decode cX4_readIt 9 = .ok (.iastore, 1) := by decide +kernel
theorem dX4_readIt_10 : decode cX4_readIt 10 = .ok (.aload_n 0, 1) := by decide +kernel
theorem dX4_readIt_11 : decode cX4_readIt 11 = .ok (.iload_n 1, 1) := by decide +kernel
theorem dX4_readIt_12 : decode cX4_readIt 12 = .ok (.iload_n 2, 1) := by decide +kernel
theorem dX4_readIt_13 : decode cX4_readIt 13 = .ok (.invokevirtual 96, 3) := by decide +kernel
theorem dX4_readIt_16 : decode cX4_readIt 16 = .ok (.istore_n 3, 1) := by decide +kernel
theorem dX4_readIt_17 : decode cX4_readIt 17 = .ok (.iload_n 3, 1) := by decide +kernel
theorem dX4_readIt_18 : decode cX4_readIt 18 = .ok (.bipush (-6), 2) := by decide +kernel
theorem dX4_readIt_20 : decode cX4_readIt 20 = .ok (.if_icmp .ne 16, 3) := by decide +kernel
theorem dX4_readIt_23 : decode cX4_readIt 23 = .ok (.aload_n 0, 1) := by decide +kernel
theorem dX4_readIt_24 : decode cX4_readIt 24 = .ok (.getfield 7, 3) := by decide +kernel
theorem dX4_readIt_27 : decode cX4_readIt 27 = .ok (.iconst 5, 1) := by decide +kernel
theorem dX4_readIt_28 : decode cX4_readIt 28 = .ok (.dup2, 1) := by decide +kernel
theorem dX4_readIt_29 : decode cX4_readIt 29 = .ok (.iaload, 1) := by decide +kernel
theorem dX4_readIt_30 : decode cX4_readIt 30 = .ok (.iconst 1, 1) := by decide +kernel
theorem dX4_readIt_31 : decode cX4_readIt 31 = .ok (.iadd, 1) := by decide +kernel
theorem dX4_readIt_32 : decode cX4_readIt 32 = .ok (.iastore, 1) := by decide +kernel
theorem dX4_readIt_33 : decode cX4_readIt 33 = .ok (.bipush (-6), 2) := by decide +kernel
theorem dX4_readIt_35 : decode cX4_readIt 35 = .ok (.ireturn, 1) := by decide +kernel
theorem dX4_readIt_36 : decode cX4_readIt 36 = .ok (.aload_n 0, 1) := by decide +kernel
theorem dX4_readIt_37 : decode cX4_readIt 37 = .ok (.iload_n 1, 1) := by decide +kernel
theorem dX4_readIt_38 : decode cX4_readIt 38 = .ok (.iload_n 3, 1) := by decide +kernel
theorem dX4_readIt_39 : decode cX4_readIt 39 = .ok (.iconst 3, 1) := by decide +kernel
theorem dX4_readIt_40 : decode cX4_readIt 40 = .ok (.aload_n 0, 1) := by decide +kernel
theorem dX4_readIt_41 : decode cX4_readIt 41 = .ok (.iload_n 1, 1) := by decide +kernel
theorem dX4_readIt_42 : decode cX4_readIt 42 = .ok (.iload_n 3, 1) := by decide +kernel
theorem dX4_readIt_43 : decode cX4_readIt 43 = .ok (.iconst 3, 1) := by decide +kernel
theorem dX4_readIt_44 : decode cX4_readIt 44 = .ok (.invokevirtual 45, 3) := by decide +kernel
theorem dX4_readIt_47 : decode cX4_readIt 47 = .ok (.iconst 1, 1) := by decide +kernel
theorem dX4_readIt_48 : decode cX4_readIt 48 = .ok (.iadd, 1) := by decide +kernel
theorem dX4_readIt_49 : decode cX4_readIt 49 = .ok (.invokevirtual 72, 3) := by decide +kernel
theorem dX4_readIt_52 : decode cX4_readIt 52 = .ok (.aload_n 0, 1) := by decide +kernel
theorem dX4_readIt_53 : decode cX4_readIt 53 = .ok (.iload_n 1, 1) := by decide +kernel
theorem dX4_readIt_54 : decode cX4_readIt 54 = .ok (.iload_n 3, 1) := by decide +kernel
theorem dX4_readIt_55 : decode cX4_readIt 55 = .ok (.iconst 2, 1) := by decide +kernel
theorem dX4_readIt_56 : decode cX4_readIt 56 = .ok (.invokevirtual 45, 3) := by decide +kernel
theorem dX4_readIt_59 : decode cX4_readIt 59 = .ok (.ireturn, 1) := by decide +kernel
set_option maxRecDepth 20000 in
theorem ggX4_read_X4_isGroup : GoodIn wsX4_read wsX4_isGroup := goodIn_r _ [4, 5, 6, 3, 7] (by decide +kernel) (by decide +kernel)
set_option maxRecDepth 20000 in
theorem gX4_read_X4_isGroup : GoodIn wsX4_read (va_wsS RX4 92 yX4_isGroup wsX4_isGroup) := goodIn_app (goodIn_of _ (by decide +kernel)) ggX4_read_X4_isGroup
set_option maxRecDepth 20000 in
theorem ggX4_read_X4_isName : GoodIn wsX4_read wsX4_isName := goodIn_r _ [10, 5, 6, 3, 7] (by decide +kernel) (by decide +kernel)
set_option maxRecDepth 20000 in
theorem gX4_read_X4_isName : GoodIn wsX4_read (va_wsS RX4 102 yX4_isName wsX4_isName) := goodIn_app (goodIn_of _ (by decide +kernel)) ggX4_read_X4_isName
set_option maxRecDepth 20000 in
theorem ggX4_read_X4_record : GoodIn wsX4_read wsX4_record := goodIn_r _ [14, 15, 16, 17, 62, 63, 64, 65, 66, 67, 68, 69, 70, 71, 72, 73] (by decide +kernel) (by decide +kernel)
set_option maxRecDepth 20000 in
theorem gX4_read_X4_record : GoodIn wsX4_read (wsV RX4 57 RX4 yX4_record wsX4_record) := goodIn_app (goodIn_of _ (by decide +kernel)) ggX4_read_X4_record
set_option maxRecDepth 20000 in
theorem ggX4_read_X4_readIt : GoodIn wsX4_read wsX4_readIt := goodIn_r _ [21, 17, 22, 23, 24, 3, 25, 26, 27, 28, 29, 30, 31, 32, 33, 34, 35, 36, 37, 38, 39, 40, 41, 42, 43, 44, 45, 46, 47, 48, 49, 50, 51, 52, 53, 54, 55, 56, 57, 58, 59, 60, 61, 62, 63, 64, 65, 66, 67, 68, 69, 70, 71, 72, 73] (by decide +kernel) (by decide +kernel)
set_option maxRecDepth 20000 in
theorem gX4_read_X4_readIt : GoodIn wsX4_read (wsV RX4 111 RX4 yX4_readIt wsX4_readIt) := goodIn_app (goodIn_of _ (by decide +kernel)) ggX4_read_X4_readIt
theorem dX4_read_0 : decode cX4_read 0 = .ok (.iload_n 1, 1) := by decide +kernel
theorem dX4_read_1 : decode cX4_read 1 = .ok (.invokestatic 92, 3) := by decide +kernel
theorem dX4_read_4 : decode cX4_read 4 = .ok (.ifCond .ne 5, 3) := by decide +kernel
theorem dX4_read_7 : decode cX4_read 7 = .ok (.iconst (-1), 1) := by decide +kernel
theorem dX4_read_8 : decode cX4_read 8 = .ok (.ireturn, 1) := by decide +kernel
theorem dX4_read_9 : decode cX4_read 9 = .ok (.iload_n 2, 1) := by decide +kernel
theorem dX4_read_10 : decode cX4_read 10 = .ok (.invokestatic 102, 3) := by decide +kernel
theorem dX4_read_13 : decode cX4_read 13 = .ok (.ifCond .ne 6, 3) := by decide +kernel
theorem dX4_read_16 : decode cX4_read 16 = .ok (.bipush (-2), 2) := by decide +kernel
theorem dX4_read_18 : decode cX4_read 18 = .ok (.ireturn, 1) := by decide +kernel
theorem dX4_read_19 : decode cX4_read 19 = .ok (.aload_n 0, 1) := by decide +kernel
theorem dX4_read_20 : decode cX4_read 20 = .ok (.invokevirtual 57, 3) := by decide +kernel
theorem dX4_read_23 : decode cX4_read 23 = .ok (.aload_n 0, 1) := by decide +kernel
theorem dX4_read_24 : decode cX4_read 24 = .ok (.iload_n 1, 1) := by decide +kernel
theorem dX4_read_25 : decode cX4_read 25 = .ok (.iload_n 2, 1) := by decide +kernel
theorem dX4_read_26 : decode cX4_read 26 = .ok (.invokevirtual 111, 3) := by decide +kernel
theorem dX4_read_29 : decode cX4_read 29 = .ok (.ireturn, 1) := by decide +kernel
set_option maxRecDepth 20000 in
theorem ggX4_deleteIt_X4_told : GoodIn wsX4_deleteIt wsX4_told := goodIn_r _ [5, 6, 7, 8, 4, 9, 10, 11, 12, 13, 14, 15, 16, 17, 18, 19, 20, 21, 22, 23, 24, 25, 26, 27, 28, 29, 30, 31, 32, 33, 34, 51, 52, 53, 54, 55, 56, 57, 58, 59, 60, 61, 62] (by decide +kernel) (by decide +kernel)
set_option maxRecDepth 20000 in
theorem gX4_deleteIt_X4_told : GoodIn wsX4_deleteIt (wsV RX4 96 RX4 yX4_told wsX4_told) := goodIn_app (goodIn_of _ (by decide +kernel)) ggX4_deleteIt_X4_told
set_option maxRecDepth 20000 in
theorem ggX4_deleteIt_X4_gen : GoodIn wsX4_deleteIt wsX4_gen := goodIn_r _ [30, 15, 16, 17, 4, 18, 10, 51, 52, 53, 54, 55, 56, 57, 58, 59, 60, 61, 62] (by decide +kernel) (by decide +kernel)
set_option maxRecDepth 20000 in
theorem gX4_deleteIt_X4_gen : GoodIn wsX4_deleteIt (wsV RX4 45 RX4 yX4_gen wsX4_gen) := goodIn_app (goodIn_of _ (by decide +kernel)) ggX4_deleteIt_X4_gen
set_option maxRecDepth 20000 in
theorem ggX4_deleteIt_X4_deleteAt : GoodIn wsX4_deleteIt wsX4_deleteAt := goodIn_r _ [38, 39, 40, 41, 4, 42, 43, 44, 45, 46, 10, 15, 16, 17, 18, 47, 48, 49, 50, 23, 24, 25, 26, 31, 32, 33, 34, 27, 28, 29, 30, 51, 52, 53, 54, 55, 56, 57, 58, 59, 60, 61, 62] (by decide +kernel) (by decide +kernel)
set_option maxRecDepth 20000 in
theorem gX4_deleteIt_X4_deleteAt : GoodIn wsX4_deleteIt (wsV RX4 114 RX4 yX4_deleteAt wsX4_deleteAt) := goodIn_app (goodIn_of _ (by decide +kernel)) ggX4_deleteIt_X4_deleteAt
theorem dX4_deleteIt_0 : decode cX4_deleteIt 0 = .ok (.aload_n 0, 1) := by decide +kernel
theorem dX4_deleteIt_1 : decode cX4_deleteIt 1 = .ok (.iload_n 1, 1) := by decide +kernel
theorem dX4_deleteIt_2 : decode cX4_deleteIt 2 = .ok (.iload_n 2, 1) := by decide +kernel
theorem dX4_deleteIt_3 : decode cX4_deleteIt 3 = .ok (.invokevirtual 96, 3) := by decide +kernel
theorem dX4_deleteIt_6 : decode cX4_deleteIt 6 = .ok (.istore_n 3, 1) := by decide +kernel
theorem dX4_deleteIt_7 : decode cX4_deleteIt 7 = .ok (.aload_n 0, 1) := by decide +kernel
theorem dX4_deleteIt_8 : decode cX4_deleteIt 8 = .ok (.iload_n 1, 1) := by decide +kernel
theorem dX4_deleteIt_9 : decode cX4_deleteIt 9 = .ok (.iload_n 3, 1) := by decide +kernel
theorem dX4_deleteIt_10 : decode cX4_deleteIt 10 = .ok (.iconst 1, 1) := by decide +kernel
theorem dX4_deleteIt_11 : decode cX4_deleteIt 11 = .ok (.invokevirtual 45, 3) := by decide +kernel
theorem dX4_deleteIt_14 : decode cX4_deleteIt 14 = .ok (.istore 4, 2) := by decide +kernel
theorem dX4_deleteIt_16 : decode cX4_deleteIt 16 = .ok (.aload_n 0, 1) := by decide +kernel
theorem dX4_deleteIt_17 : decode cX4_deleteIt 17 = .ok (.iload_n 1, 1) := by decide +kernel
theorem dX4_deleteIt_18 : decode cX4_deleteIt 18 = .ok (.iload_n 3, 1) := by decide +kernel
theorem dX4_deleteIt_19 : decode cX4_deleteIt 19 = .ok (.invokevirtual 114, 3) := by decide +kernel
theorem dX4_deleteIt_22 : decode cX4_deleteIt 22 = .ok (.iload 4, 2) := by decide +kernel
theorem dX4_deleteIt_24 : decode cX4_deleteIt 24 = .ok (.ireturn, 1) := by decide +kernel
set_option maxRecDepth 20000 in
theorem ggX4_delete_X4_isGroup : GoodIn wsX4_delete wsX4_isGroup := goodIn_r _ [4, 5, 6, 3, 7] (by decide +kernel) (by decide +kernel)
set_option maxRecDepth 20000 in
theorem gX4_delete_X4_isGroup : GoodIn wsX4_delete (va_wsS RX4 92 yX4_isGroup wsX4_isGroup) := goodIn_app (goodIn_of _ (by decide +kernel)) ggX4_delete_X4_isGroup
set_option maxRecDepth 20000 in
theorem ggX4_delete_X4_isName : GoodIn wsX4_delete wsX4_isName := goodIn_r _ [10, 5, 6, 3, 7] (by decide +kernel) (by decide +kernel)
set_option maxRecDepth 20000 in
theorem gX4_delete_X4_isName : GoodIn wsX4_delete (va_wsS RX4 102 yX4_isName wsX4_isName) := goodIn_app (goodIn_of _ (by decide +kernel)) ggX4_delete_X4_isName
set_option maxRecDepth 20000 in
theorem ggX4_delete_X4_told : GoodIn wsX4_delete wsX4_told := goodIn_r _ [14, 15, 16, 17, 3, 18, 19, 20, 21, 22, 23, 24, 25, 26, 27, 28, 29, 30, 31, 32, 33, 34, 35, 36, 37, 38, 39, 40, 41, 42, 43, 70, 71, 72, 73, 74, 75, 76, 77, 78, 79, 80, 81] (by decide +kernel) (by decide +kernel)
set_option maxRecDepth 20000 in
theorem gX4_delete_X4_told : GoodIn wsX4_delete (wsV RX4 96 RX4 yX4_told wsX4_told) := goodIn_app (goodIn_of _ (by decide +kernel)) ggX4_delete_X4_told
set_option maxRecDepth 20000 in
theorem ggX4_delete_X4_record : GoodIn wsX4_delete wsX4_record := goodIn_r _ [47, 48, 49, 19, 70, 71, 72, 73, 74, 75, 76, 77, 78, 79, 80, 81] (by decide +kernel) (by decide +kernel)
set_option maxRecDepth 20000 in
theorem gX4_delete_X4_record : GoodIn wsX4_delete (wsV RX4 57 RX4 yX4_record wsX4_record) := goodIn_app (goodIn_of _ (by decide +kernel)) ggX4_delete_X4_record
set_option maxRecDepth 20000 in
theorem ggX4_delete_X4_deleteIt : GoodIn wsX4_delete wsX4_deleteIt := goodIn_r _ [53, 11, 12, 13, 3, 14, 15, 16, 17, 18, 19, 20, 21, 22, 23, 24, 25, 26, 27, 28, 29, 30, 31, 32, 33, 34, 35, 36, 37, 38, 39, 40, 41, 42, 43, 54, 55, 56, 57, 58, 59, 60, 61, 62, 63, 64, 65, 66, 67, 68, 69, 70, 71, 72, 73, 74, 75, 76, 77, 78, 79, 80, 81] (by decide +kernel) (by decide +kernel)
set_option maxRecDepth 20000 in
theorem gX4_delete_X4_deleteIt : GoodIn wsX4_delete (wsV RX4 118 RX4 yX4_deleteIt wsX4_deleteIt) := goodIn_app (goodIn_of _ (by decide +kernel)) ggX4_delete_X4_deleteIt
theorem dX4_delete_0 : decode cX4_delete 0 = .ok (.iload_n 1, 1) := by decide +kernel
theorem dX4_delete_1 : decode cX4_delete 1 = .ok (.invokestatic 92, 3) := by decide +kernel
theorem dX4_delete_4 : decode cX4_delete 4 = .ok (.ifCond .ne 5, 3) := by decide +kernel
theorem dX4_delete_7 : decode cX4_delete 7 = .ok (.iconst (-1), 1) := by decide +kernel
theorem dX4_delete_8 : decode cX4_delete 8 = .ok (.ireturn, 1) := by decide +kernel
theorem dX4_delete_9 : decode cX4_delete 9 = .ok (.iload_n 2, 1) := by decide +kernel
theorem dX4_delete_10 : decode cX4_delete 10 = .ok (.invokestatic 102, 3) := by decide +kernel
theorem dX4_delete_13 : decode cX4_delete 13 = .ok (.ifCond .ne 6, 3) := by decide +kernel
theorem dX4_delete_16 : decode cX4_delete 16 = .ok (.bipush (-2), 2) := by decide +kernel
theorem dX4_delete_18 : decode cX4_delete 18 = .ok (.ireturn, 1) := by decide +kernel
theorem dX4_delete_19 : decode cX4_delete 19 = .ok (.aload_n 0, 1) := by decide +kernel
theorem dX4_delete_20 : decode cX4_delete 20 = .ok (.iload_n 1, 1) := by decide +kernel
theorem dX4_delete_21 : decode cX4_delete 21 = .ok (.iload_n 2, 1) := by decide +kernel
theorem dX4_delete_22 : decode cX4_delete 22 = .ok (.invokevirtual 96, 3) := by decide +kernel
theorem dX4_delete_25 : decode cX4_delete 25 = .ok (.bipush (-6), 2) := by decide +kernel
theorem dX4_delete_27 : decode cX4_delete 27 = .ok (.if_icmp .ne 6, 3) := by decide +kernel
theorem dX4_delete_30 : decode cX4_delete 30 = .ok (.bipush (-5), 2) := by decide +kernel
theorem dX4_delete_32 : decode cX4_delete 32 = .ok (.ireturn, 1) := by decide +kernel
theorem dX4_delete_33 : decode cX4_delete 33 = .ok (.aload_n 0, 1) := by decide +kernel
theorem dX4_delete_34 : decode cX4_delete 34 = .ok (.invokevirtual 57, 3) := by decide +kernel
theorem dX4_delete_37 : decode cX4_delete 37 = .ok (.aload_n 0, 1) := by decide +kernel
theorem dX4_delete_38 : decode cX4_delete 38 = .ok (.iload_n 1, 1) := by decide +kernel
theorem dX4_delete_39 : decode cX4_delete 39 = .ok (.iload_n 2, 1) := by decide +kernel
theorem dX4_delete_40 : decode cX4_delete 40 = .ok (.invokevirtual 118, 3) := by decide +kernel
theorem dX4_delete_43 : decode cX4_delete 43 = .ok (.ireturn, 1) := by decide +kernel
set_option maxRecDepth 20000 in
theorem ggX4_start_X4_lay : GoodIn wsX4_start wsX4_lay := goodIn_r _ [6, 1, 7, 8, 9, 10, 11, 12, 13, 14, 15, 16, 17, 18] (by decide +kernel) (by decide +kernel)
set_option maxRecDepth 20000 in
theorem gX4_start_X4_lay : GoodIn wsX4_start (wsV RX4 41 RX4 yX4_lay wsX4_lay) := goodIn_app (goodIn_of _ (by decide +kernel)) ggX4_start_X4_lay
theorem dX4_start_0 : decode cX4_start 0 = .ok (.aload_n 0, 1) := by decide +kernel
theorem dX4_start_1 : decode cX4_start 1 = .ok (.getfield 7, 3) := by decide +kernel
theorem dX4_start_4 : decode cX4_start 4 = .ok (.iconst 1, 1) := by decide +kernel
theorem dX4_start_5 : decode cX4_start 5 = .ok (.iconst 1, 1) := by decide +kernel
theorem dX4_start_6 : decode cX4_start 6 = .ok (.iastore, 1) := by decide +kernel
theorem dX4_start_7 : decode cX4_start 7 = .ok (.aload_n 0, 1) := by decide +kernel
theorem dX4_start_8 : decode cX4_start 8 = .ok (.getfield 7, 3) := by decide +kernel
theorem dX4_start_11 : decode cX4_start 11 = .ok (.iconst 2, 1) := by decide +kernel
theorem dX4_start_12 : decode cX4_start 12 = .ok (.iconst 0, 1) := by decide +kernel
theorem dX4_start_13 : decode cX4_start 13 = .ok (.iastore, 1) := by decide +kernel
theorem dX4_start_14 : decode cX4_start 14 = .ok (.aload_n 0, 1) := by decide +kernel
theorem dX4_start_15 : decode cX4_start 15 = .ok (.getfield 7, 3) := by decide +kernel
theorem dX4_start_18 : decode cX4_start 18 = .ok (.iconst 0, 1) := by decide +kernel
theorem dX4_start_19 : decode cX4_start 19 = .ok (.dup2, 1) := by decide +kernel
theorem dX4_start_20 : decode cX4_start 20 = .ok (.iaload, 1) := by decide +kernel
theorem dX4_start_21 : decode cX4_start 21 = .ok (.iconst 1, 1) := by decide +kernel
theorem dX4_start_22 : decode cX4_start 22 = .ok (.iadd, 1) := by decide +kernel
theorem dX4_start_23 : decode cX4_start 23 = .ok (.iastore, 1) := by decide +kernel
theorem dX4_start_24 : decode cX4_start 24 = .ok (.iconst 0, 1) := by decide +kernel
theorem dX4_start_25 : decode cX4_start 25 = .ok (.istore_n 1, 1) := by decide +kernel
theorem dX4_start_26 : decode cX4_start 26 = .ok (.iload_n 1, 1) := by decide +kernel
theorem dX4_start_27 : decode cX4_start 27 = .ok (.bipush 6, 2) := by decide +kernel
theorem dX4_start_29 : decode cX4_start 29 = .ok (.if_icmp .ge 16, 3) := by decide +kernel
theorem dX4_start_32 : decode cX4_start 32 = .ok (.aload_n 0, 1) := by decide +kernel
theorem dX4_start_33 : decode cX4_start 33 = .ok (.iload_n 1, 1) := by decide +kernel
theorem dX4_start_34 : decode cX4_start 34 = .ok (.iconst 5, 1) := by decide +kernel
theorem dX4_start_35 : decode cX4_start 35 = .ok (.iconst 0, 1) := by decide +kernel
theorem dX4_start_36 : decode cX4_start 36 = .ok (.invokevirtual 41, 3) := by decide +kernel
theorem dX4_start_39 : decode cX4_start 39 = .ok (.iinc 1 1, 3) := by decide +kernel
theorem dX4_start_42 : decode cX4_start 42 = .ok (.goto (-16), 3) := by decide +kernel
theorem dX4_start_45 : decode cX4_start 45 = .ok (.aload_n 0, 1) := by decide +kernel
theorem dX4_start_46 : decode cX4_start 46 = .ok (.getfield 7, 3) := by decide +kernel
theorem dX4_start_49 : decode cX4_start 49 = .ok (.iconst 0, 1) := by decide +kernel
theorem dX4_start_50 : decode cX4_start 50 = .ok (.iaload, 1) := by decide +kernel
theorem dX4_start_51 : decode cX4_start 51 = .ok (.ireturn, 1) := by decide +kernel
set_option maxRecDepth 20000 in
theorem ggX4_beginIt_X4_many : GoodIn wsX4_beginIt wsX4_many := goodIn_r _ [5, 6, 7, 8, 4, 9, 10, 23, 24, 25, 26, 27, 28, 29, 30, 31, 32, 33, 34] (by decide +kernel) (by decide +kernel)
set_option maxRecDepth 20000 in
theorem gX4_beginIt_X4_many : GoodIn wsX4_beginIt (wsV RX4 60 RX4 yX4_many wsX4_many) := goodIn_app (goodIn_of _ (by decide +kernel)) ggX4_beginIt_X4_many
set_option maxRecDepth 20000 in
theorem ggX4_beginIt_X4_gen : GoodIn wsX4_beginIt wsX4_gen := goodIn_r _ [14, 6, 7, 8, 4, 9, 10, 23, 24, 25, 26, 27, 28, 29, 30, 31, 32, 33, 34] (by decide +kernel) (by decide +kernel)
set_option maxRecDepth 20000 in
theorem gX4_beginIt_X4_gen : GoodIn wsX4_beginIt (wsV RX4 45 RX4 yX4_gen wsX4_gen) := goodIn_app (goodIn_of _ (by decide +kernel)) ggX4_beginIt_X4_gen
set_option maxRecDepth 20000 in
theorem ggX4_beginIt_X4_lay : GoodIn wsX4_beginIt wsX4_lay := goodIn_r _ [18, 10, 23, 24, 25, 26, 27, 28, 29, 30, 31, 32, 33, 34] (by decide +kernel) (by decide +kernel)
set_option maxRecDepth 20000 in
theorem gX4_beginIt_X4_lay : GoodIn wsX4_beginIt (wsV RX4 41 RX4 yX4_lay wsX4_lay) := goodIn_app (goodIn_of _ (by decide +kernel)) ggX4_beginIt_X4_lay
set_option maxRecDepth 20000 in
theorem ggX4_beginIt_X4_start : GoodIn wsX4_beginIt wsX4_start := goodIn_r _ [22, 10, 15, 16, 17, 4, 18, 23, 24, 25, 26, 27, 28, 29, 30, 31, 32, 33, 34] (by decide +kernel) (by decide +kernel)
set_option maxRecDepth 20000 in
theorem gX4_beginIt_X4_start : GoodIn wsX4_beginIt (wsV RX4 121 RX4 yX4_start wsX4_start) := goodIn_app (goodIn_of _ (by decide +kernel)) ggX4_beginIt_X4_start
theorem dX4_beginIt_0 : decode cX4_beginIt 0 = .ok (.iconst 0, 1) := by decide +kernel
theorem dX4_beginIt_1 : decode cX4_beginIt 1 = .ok (.istore_n 1, 1) := by decide +kernel
theorem dX4_beginIt_2 : decode cX4_beginIt 2 = .ok (.iload_n 1, 1) := by decide +kernel
theorem dX4_beginIt_3 : decode cX4_beginIt 3 = .ok (.bipush 6, 2) := by decide +kernel
theorem dX4_beginIt_5 : decode cX4_beginIt 5 = .ok (.if_icmp .ge 52, 3) := by decide +kernel
theorem dX4_beginIt_8 : decode cX4_beginIt 8 = .ok (.iconst 0, 1) := by decide +kernel
theorem dX4_beginIt_9 : decode cX4_beginIt 9 = .ok (.istore_n 2, 1) := by decide +kernel
theorem dX4_beginIt_10 : decode cX4_beginIt 10 = .ok (.iload_n 2, 1) := by decide +kernel
theorem dX4_beginIt_11 : decode cX4_beginIt 11 = .ok (.bipush 8, 2) := by decide +kernel
theorem dX4_beginIt_13 : decode cX4_beginIt 13 = .ok (.if_icmp .ge 38, 3) := by decide +kernel
theorem dX4_beginIt_16 : decode cX4_beginIt 16 = .ok (.aload_n 0, 1) := by decide +kernel
theorem dX4_beginIt_17 : decode cX4_beginIt 17 = .ok (.iload_n 1, 1) := by decide +kernel
theorem dX4_beginIt_18 : decode cX4_beginIt 18 = .ok (.bipush 7, 2) := by decide +kernel
theorem dX4_beginIt_20 : decode cX4_beginIt 20 = .ok (.iload_n 2, 1) := by decide +kernel
theorem dX4_beginIt_21 : decode cX4_beginIt 21 = .ok (.iadd, 1) := by decide +kernel
theorem dX4_beginIt_22 : decode cX4_beginIt 22 = .ok (.iload_n 2, 1) := by decide +kernel
theorem dX4_beginIt_23 : decode cX4_beginIt 23 = .ok (.aload_n 0, 1) := by decide +kernel
theorem dX4_beginIt_24 : decode cX4_beginIt 24 = .ok (.iload_n 1, 1) := by decide +kernel
theorem dX4_beginIt_25 : decode cX4_beginIt 25 = .ok (.invokevirtual 60, 3) := by decide +kernel
theorem dX4_beginIt_28 : decode cX4_beginIt 28 = .ok (.if_icmp .ge 13, 3) := by decide +kernel
theorem dX4_beginIt_31 : decode cX4_beginIt 31 = .ok (.aload_n 0, 1) := by decide +kernel
theorem dX4_beginIt_32 : decode cX4_beginIt 32 = .ok (.iload_n 1, 1) := by decide +kernel
theorem dX4_beginIt_33 : decode cX4_beginIt 33 = .ok (.iload_n 2, 1) := by decide +kernel
theorem dX4_beginIt_34 : decode cX4_beginIt 34 = .ok (.iconst 0, 1) := by decide +kernel
theorem dX4_beginIt_35 : decode cX4_beginIt 35 = .ok (.invokevirtual 45, 3) := by decide +kernel
theorem dX4_beginIt_38 : decode cX4_beginIt 38 = .ok (.goto 4, 3) := by decide +kernel
theorem dX4_beginIt_41 : decode cX4_beginIt 41 = .ok (.iconst 0, 1) := by decide +kernel
theorem dX4_beginIt_42 : decode cX4_beginIt 42 = .ok (.invokevirtual 41, 3) := by decide +kernel
theorem dX4_beginIt_45 : decode cX4_beginIt 45 = .ok (.iinc 2 1, 3) := by decide +kernel
theorem dX4_beginIt_48 : decode cX4_beginIt 48 = .ok (.goto (-38), 3) := by decide +kernel
theorem dX4_beginIt_51 : decode cX4_beginIt 51 = .ok (.iinc 1 1, 3) := by decide +kernel
theorem dX4_beginIt_54 : decode cX4_beginIt 54 = .ok (.goto (-52), 3) := by decide +kernel
theorem dX4_beginIt_57 : decode cX4_beginIt 57 = .ok (.aload_n 0, 1) := by decide +kernel
theorem dX4_beginIt_58 : decode cX4_beginIt 58 = .ok (.invokevirtual 121, 3) := by decide +kernel
theorem dX4_beginIt_61 : decode cX4_beginIt 61 = .ok (.ireturn, 1) := by decide +kernel
set_option maxRecDepth 20000 in
theorem ggX4_begin_X4_runs : GoodIn wsX4_begin wsX4_runs := goodIn_r _ [5, 6, 37, 38, 39, 40, 41, 42, 43, 44, 45, 46, 47, 48] (by decide +kernel) (by decide +kernel)
set_option maxRecDepth 20000 in
theorem gX4_begin_X4_runs : GoodIn wsX4_begin (wsV RX4 79 RX4 yX4_runs wsX4_runs) := goodIn_app (goodIn_of _ (by decide +kernel)) ggX4_begin_X4_runs
set_option maxRecDepth 20000 in
theorem ggX4_begin_X4_record : GoodIn wsX4_begin wsX4_record := goodIn_r _ [10, 11, 12, 6, 37, 38, 39, 40, 41, 42, 43, 44, 45, 46, 47, 48] (by decide +kernel) (by decide +kernel)
set_option maxRecDepth 20000 in
theorem gX4_begin_X4_record : GoodIn wsX4_begin (wsV RX4 57 RX4 yX4_record wsX4_record) := goodIn_app (goodIn_of _ (by decide +kernel)) ggX4_begin_X4_record
set_option maxRecDepth 20000 in
theorem ggX4_begin_X4_beginIt : GoodIn wsX4_begin wsX4_beginIt := goodIn_r _ [16, 17, 18, 19, 4, 20, 21, 22, 23, 24, 6, 25, 26, 27, 28, 29, 30, 31, 32, 33, 34, 35, 36, 37, 38, 39, 40, 41, 42, 43, 44, 45, 46, 47, 48] (by decide +kernel) (by decide +kernel)
set_option maxRecDepth 20000 in
theorem gX4_begin_X4_beginIt : GoodIn wsX4_begin (wsV RX4 124 RX4 yX4_beginIt wsX4_beginIt) := goodIn_app (goodIn_of _ (by decide +kernel)) ggX4_begin_X4_beginIt
theorem dX4_begin_0 : decode cX4_begin 0 = .ok (.aload_n 0, 1) := by decide +kernel
theorem dX4_begin_1 : decode cX4_begin 1 = .ok (.invokevirtual 79, 3) := by decide +kernel
theorem dX4_begin_4 : decode cX4_begin 4 = .ok (.ifCond .eq 6, 3) := by decide +kernel
theorem dX4_begin_7 : decode cX4_begin 7 = .ok (.bipush (-5), 2) := by decide +kernel
theorem dX4_begin_9 : decode cX4_begin 9 = .ok (.ireturn, 1) := by decide +kernel
theorem dX4_begin_10 : decode cX4_begin 10 = .ok (.aload_n 0, 1) := by decide +kernel
theorem dX4_begin_11 : decode cX4_begin 11 = .ok (.invokevirtual 57, 3) := by decide +kernel
theorem dX4_begin_14 : decode cX4_begin 14 = .ok (.aload_n 0, 1) := by decide +kernel
theorem dX4_begin_15 : decode cX4_begin 15 = .ok (.invokevirtual 124, 3) := by decide +kernel
theorem dX4_begin_18 : decode cX4_begin 18 = .ok (.ireturn, 1) := by decide +kernel
set_option maxRecDepth 20000 in
theorem ggX4_madePlace_X4_of : GoodIn wsX4_madePlace wsX4_of := goodIn_r _ [5, 6, 27, 28, 29, 30, 31, 32, 33, 34, 35, 36, 37, 38] (by decide +kernel) (by decide +kernel)
set_option maxRecDepth 20000 in
theorem gX4_madePlace_X4_of : GoodIn wsX4_madePlace (wsV RX4 37 RX4 yX4_of wsX4_of) := goodIn_app (goodIn_of _ (by decide +kernel)) ggX4_madePlace_X4_of
set_option maxRecDepth 20000 in
theorem ggX4_madePlace_X4_runs : GoodIn wsX4_madePlace wsX4_runs := goodIn_r _ [10, 6, 27, 28, 29, 30, 31, 32, 33, 34, 35, 36, 37, 38] (by decide +kernel) (by decide +kernel)
set_option maxRecDepth 20000 in
theorem gX4_madePlace_X4_runs : GoodIn wsX4_madePlace (wsV RX4 79 RX4 yX4_runs wsX4_runs) := goodIn_app (goodIn_of _ (by decide +kernel)) ggX4_madePlace_X4_runs
set_option maxRecDepth 20000 in
theorem ggX4_madePlace_X4_placeOf : GoodIn wsX4_madePlace wsX4_placeOf := goodIn_r _ [14, 15, 16, 17, 4, 18, 1, 2, 3, 5, 6, 19, 20, 21, 22, 27, 28, 29, 30, 31, 32, 33, 34, 35, 36, 37, 38] (by decide +kernel) (by decide +kernel)
set_option maxRecDepth 20000 in
theorem gX4_madePlace_X4_placeOf : GoodIn wsX4_madePlace (wsV RX4 89 RX4 yX4_placeOf wsX4_placeOf) := goodIn_app (goodIn_of _ (by decide +kernel)) ggX4_madePlace_X4_placeOf
set_option maxRecDepth 20000 in
theorem ggX4_madePlace_X4_isHole : GoodIn wsX4_madePlace wsX4_isHole := goodIn_r _ [26, 19, 20, 21, 4, 22, 1, 2, 3, 5, 6, 27, 28, 29, 30, 31, 32, 33, 34, 35, 36, 37, 38] (by decide +kernel) (by decide +kernel)
set_option maxRecDepth 20000 in
theorem gX4_madePlace_X4_isHole : GoodIn wsX4_madePlace (wsV RX4 64 RX4 yX4_isHole wsX4_isHole) := goodIn_app (goodIn_of _ (by decide +kernel)) ggX4_madePlace_X4_isHole
theorem dX4_madePlace_0 : decode cX4_madePlace 0 = .ok (.aload_n 0, 1) := by decide +kernel
theorem dX4_madePlace_1 : decode cX4_madePlace 1 = .ok (.iload_n 1, 1) := by decide +kernel
theorem dX4_madePlace_2 : decode cX4_madePlace 2 = .ok (.iconst 5, 1) := by decide +kernel
theorem dX4_madePlace_3 : decode cX4_madePlace 3 = .ok (.invokevirtual 37, 3) := by decide +kernel
theorem dX4_madePlace_6 : decode cX4_madePlace 6 = .ok (.ifCond .eq 10, 3) := by decide +kernel
theorem dX4_madePlace_9 : decode cX4_madePlace 9 = .ok (.aload_n 0, 1) := by decide +kernel
theorem dX4_madePlace_10 : decode cX4_madePlace 10 = .ok (.invokevirtual 79, 3) := by decide +kernel
theorem dX4_madePlace_13 : decode cX4_madePlace 13 = .ok (.ifCond .ne 8, 3) := by decide +kernel
theorem dX4_madePlace_16 : decode cX4_madePlace 16 = .ok (.bipush (-6), 2) := by decide +kernel
theorem dX4_madePlace_18 : decode cX4_madePlace 18 = .ok (.goto 14, 3) := by decide +kernel
theorem dX4_madePlace_21 : decode cX4_madePlace 21 = .ok (.aload_n 0, 1) := by decide +kernel
theorem dX4_madePlace_22 : decode cX4_madePlace 22 = .ok (.iload_n 1, 1) := by decide +kernel
theorem dX4_madePlace_23 : decode cX4_madePlace 23 = .ok (.aload_n 0, 1) := by decide +kernel
theorem dX4_madePlace_24 : decode cX4_madePlace 24 = .ok (.iload_n 1, 1) := by decide +kernel
theorem dX4_madePlace_25 : decode cX4_madePlace 25 = .ok (.iconst 5, 1) := by decide +kernel
theorem dX4_madePlace_26 : decode cX4_madePlace 26 = .ok (.invokevirtual 37, 3) := by decide +kernel
theorem dX4_madePlace_29 : decode cX4_madePlace 29 = .ok (.invokevirtual 89, 3) := by decide +kernel
theorem dX4_madePlace_32 : decode cX4_madePlace 32 = .ok (.istore_n 2, 1) := by decide +kernel
theorem dX4_madePlace_33 : decode cX4_madePlace 33 = .ok (.iload_n 2, 1) := by decide +kernel
theorem dX4_madePlace_34 : decode cX4_madePlace 34 = .ok (.bipush (-6), 2) := by decide +kernel
theorem dX4_madePlace_36 : decode cX4_madePlace 36 = .ok (.if_icmp .eq 12, 3) := by decide +kernel
theorem dX4_madePlace_39 : decode cX4_madePlace 39 = .ok (.aload_n 0, 1) := by decide +kernel
theorem dX4_madePlace_40 : decode cX4_madePlace 40 = .ok (.iload_n 1, 1) := by decide +kernel
theorem dX4_madePlace_41 : decode cX4_madePlace 41 = .ok (.iload_n 2, 1) := by decide +kernel
theorem dX4_madePlace_42 : decode cX4_madePlace 42 = .ok (.invokevirtual 64, 3) := by decide +kernel
theorem dX4_madePlace_45 : decode cX4_madePlace 45 = .ok (.ifCond .eq 8, 3) := by decide +kernel
theorem dX4_madePlace_48 : decode cX4_madePlace 48 = .ok (.bipush (-6), 2) := by decide +kernel
theorem dX4_madePlace_50 : decode cX4_madePlace 50 = .ok (.goto 4, 3) := by decide +kernel
theorem dX4_madePlace_53 : decode cX4_madePlace 53 = .ok (.iload_n 2, 1) := by decide +kernel
theorem dX4_madePlace_54 : decode cX4_madePlace 54 = .ok (.ireturn, 1) := by decide +kernel
set_option maxRecDepth 20000 in
theorem ggX4_madeMany_X4_madePlace : GoodIn wsX4_madeMany wsX4_madePlace := goodIn_r _ [5, 6, 7, 8, 4, 9, 10, 11, 12, 13, 14, 15, 16, 17, 18, 19, 20, 21, 22, 23, 24, 25, 26, 27, 28, 29, 30, 31, 32, 33, 34, 35, 36, 37, 38, 39, 40, 41, 42] (by decide +kernel) (by decide +kernel)
set_option maxRecDepth 20000 in
theorem gX4_madeMany_X4_madePlace : GoodIn wsX4_madeMany (wsV RX4 127 RX4 yX4_madePlace wsX4_madePlace) := goodIn_app (goodIn_of _ (by decide +kernel)) ggX4_madeMany_X4_madePlace
theorem dX4_madeMany_0 : decode cX4_madeMany 0 = .ok (.iconst 0, 1) := by decide +kernel
theorem dX4_madeMany_1 : decode cX4_madeMany 1 = .ok (.istore_n 1, 1) := by decide +kernel
theorem dX4_madeMany_2 : decode cX4_madeMany 2 = .ok (.iconst 0, 1) := by decide +kernel
theorem dX4_madeMany_3 : decode cX4_madeMany 3 = .ok (.istore_n 2, 1) := by decide +kernel
theorem dX4_madeMany_4 : decode cX4_madeMany 4 = .ok (.iload_n 2, 1) := by decide +kernel
theorem dX4_madeMany_5 : decode cX4_madeMany 5 = .ok (.bipush 6, 2) := by decide +kernel
theorem dX4_madeMany_7 : decode cX4_madeMany 7 = .ok (.if_icmp .ge 27, 3) := by decide +kernel
theorem dX4_madeMany_10 : decode cX4_madeMany 10 = .ok (.iload_n 1, 1) := by decide +kernel
theorem dX4_madeMany_11 : decode cX4_madeMany 11 = .ok (.aload_n 0, 1) := by decide +kernel
theorem dX4_madeMany_12 : decode cX4_madeMany 12 = .ok (.iload_n 2, 1) := by decide +kernel
theorem dX4_madeMany_13 : decode cX4_madeMany 13 = .ok (.invokevirtual 127, 3) := by decide +kernel
theorem dX4_madeMany_16 : decode cX4_madeMany 16 = .ok (.bipush (-6), 2) := by decide +kernel
theorem dX4_madeMany_18 : decode cX4_madeMany 18 = .ok (.if_icmp .ne 7, 3) := by decide +kernel
theorem dX4_madeMany_21 : decode cX4_madeMany 21 = .ok (.iconst 0, 1) := by decide +kernel
theorem dX4_madeMany_22 : decode cX4_madeMany 22 = .ok (.goto 4, 3) := by decide +kernel
theorem dX4_madeMany_25 : decode cX4_madeMany 25 = .ok (.iconst 1, 1) := by decide +kernel
theorem dX4_madeMany_26 : decode cX4_madeMany 26 = .ok (.iadd, 1) := by decide +kernel
theorem dX4_madeMany_27 : decode cX4_madeMany 27 = .ok (.istore_n 1, 1) := by decide +kernel
theorem dX4_madeMany_28 : decode cX4_madeMany 28 = .ok (.iinc 2 1, 3) := by decide +kernel
theorem dX4_madeMany_31 : decode cX4_madeMany 31 = .ok (.goto (-27), 3) := by decide +kernel
theorem dX4_madeMany_34 : decode cX4_madeMany 34 = .ok (.iload_n 1, 1) := by decide +kernel
theorem dX4_madeMany_35 : decode cX4_madeMany 35 = .ok (.ireturn, 1) := by decide +kernel
set_option maxRecDepth 20000 in
theorem ggX4_endIt_X4_madePlace : GoodIn wsX4_endIt wsX4_madePlace := goodIn_r _ [6, 7, 8, 9, 5, 10, 1, 11, 12, 13, 14, 15, 16, 17, 18, 19, 20, 21, 22, 23, 24, 25, 26, 27, 28, 29, 30, 51, 52, 53, 54, 55, 56, 57, 58, 59, 60, 61, 62] (by decide +kernel) (by decide +kernel)
set_option maxRecDepth 20000 in
theorem gX4_endIt_X4_madePlace : GoodIn wsX4_endIt (wsV RX4 127 RX4 yX4_madePlace wsX4_madePlace) := goodIn_app (goodIn_of _ (by decide +kernel)) ggX4_endIt_X4_madePlace
set_option maxRecDepth 20000 in
theorem ggX4_endIt_X4_deleteAt : GoodIn wsX4_endIt wsX4_deleteAt := goodIn_r _ [34, 35, 36, 37, 5, 38, 39, 40, 41, 42, 1, 7, 8, 9, 10, 43, 44, 45, 46, 19, 20, 21, 22, 27, 28, 29, 30, 23, 24, 25, 26, 51, 52, 53, 54, 55, 56, 57, 58, 59, 60, 61, 62] (by decide +kernel) (by decide +kernel)
set_option maxRecDepth 20000 in
theorem gX4_endIt_X4_deleteAt : GoodIn wsX4_endIt (wsV RX4 114 RX4 yX4_deleteAt wsX4_deleteAt) := goodIn_app (goodIn_of _ (by decide +kernel)) ggX4_endIt_X4_deleteAt
set_option maxRecDepth 20000 in
theorem ggX4_endIt_X4_madeMany : GoodIn wsX4_endIt wsX4_madeMany := goodIn_r _ [50, 2, 3, 4, 5, 6, 7, 8, 9, 10, 1, 11, 12, 13, 14, 15, 16, 17, 18, 19, 20, 21, 22, 23, 24, 25, 26, 27, 28, 29, 30, 51, 52, 53, 54, 55, 56, 57, 58, 59, 60, 61, 62] (by decide +kernel) (by decide +kernel)
set_option maxRecDepth 20000 in
theorem gX4_endIt_X4_madeMany : GoodIn wsX4_endIt (wsV RX4 130 RX4 yX4_madeMany wsX4_madeMany) := goodIn_app (goodIn_of _ (by decide +kernel)) ggX4_endIt_X4_madeMany
theorem dX4_endIt_0 : decode cX4_endIt 0 = .ok (.iconst 0, 1) := by decide +kernel
theorem dX4_endIt_1 : decode cX4_endIt 1 = .ok (.istore_n 2, 1) := by decide +kernel
theorem dX4_endIt_2 : decode cX4_endIt 2 = .ok (.iload_n 2, 1) := by decide +kernel
theorem dX4_endIt_3 : decode cX4_endIt 3 = .ok (.bipush 6, 2) := by decide +kernel
theorem dX4_endIt_5 : decode cX4_endIt 5 = .ok (.if_icmp .ge 33, 3) := by decide +kernel
theorem dX4_endIt_8 : decode cX4_endIt 8 = .ok (.iload_n 1, 1) := by decide +kernel
theorem dX4_endIt_9 : decode cX4_endIt 9 = .ok (.ifCond .ne 29, 3) := by decide +kernel
theorem dX4_endIt_12 : decode cX4_endIt 12 = .ok (.aload_n 0, 1) := by decide +kernel
theorem dX4_endIt_13 : decode cX4_endIt 13 = .ok (.iload_n 2, 1) := by decide +kernel
theorem dX4_endIt_14 : decode cX4_endIt 14 = .ok (.invokevirtual 127, 3) := by decide +kernel
theorem dX4_endIt_17 : decode cX4_endIt 17 = .ok (.bipush (-6), 2) := by decide +kernel
theorem dX4_endIt_19 : decode cX4_endIt 19 = .ok (.if_icmp .eq 13, 3) := by decide +kernel
theorem dX4_endIt_22 : decode cX4_endIt 22 = .ok (.aload_n 0, 1) := by decide +kernel
theorem dX4_endIt_23 : decode cX4_endIt 23 = .ok (.iload_n 2, 1) := by decide +kernel
theorem dX4_endIt_24 : decode cX4_endIt 24 = .ok (.aload_n 0, 1) := by decide +kernel
theorem dX4_endIt_25 : decode cX4_endIt 25 = .ok (.iload_n 2, 1) := by decide +kernel
theorem dX4_endIt_26 : decode cX4_endIt 26 = .ok (.invokevirtual 127, 3) := by decide +kernel
theorem dX4_endIt_29 : decode cX4_endIt 29 = .ok (.invokevirtual 114, 3) := by decide +kernel
theorem dX4_endIt_32 : decode cX4_endIt 32 = .ok (.iinc 2 1, 3) := by decide +kernel
theorem dX4_endIt_35 : decode cX4_endIt 35 = .ok (.goto (-33), 3) := by decide +kernel
theorem dX4_endIt_38 : decode cX4_endIt 38 = .ok (.aload_n 0, 1) := by decide +kernel
theorem dX4_endIt_39 : decode cX4_endIt 39 = .ok (.invokevirtual 130, 3) := by decide +kernel
theorem dX4_endIt_42 : decode cX4_endIt 42 = .ok (.istore_n 2, 1) := by decide +kernel
theorem dX4_endIt_43 : decode cX4_endIt 43 = .ok (.aload_n 0, 1) := by decide +kernel
theorem dX4_endIt_44 : decode cX4_endIt 44 = .ok (.getfield 7, 3) := by decide +kernel
theorem dX4_endIt_47 : decode cX4_endIt 47 = .ok (.iconst 1, 1) := by decide +kernel
theorem dX4_endIt_48 : decode cX4_endIt 48 = .ok (.iconst 0, 1) := by decide +kernel
theorem dX4_endIt_49 : decode cX4_endIt 49 = .ok (.iastore, 1) := by decide +kernel
theorem dX4_endIt_50 : decode cX4_endIt 50 = .ok (.aload_n 0, 1) := by decide +kernel
theorem dX4_endIt_51 : decode cX4_endIt 51 = .ok (.getfield 7, 3) := by decide +kernel
theorem dX4_endIt_54 : decode cX4_endIt 54 = .ok (.iconst 2, 1) := by decide +kernel
theorem dX4_endIt_55 : decode cX4_endIt 55 = .ok (.iconst 1, 1) := by decide +kernel
theorem dX4_endIt_56 : decode cX4_endIt 56 = .ok (.iload_n 1, 1) := by decide +kernel
theorem dX4_endIt_57 : decode cX4_endIt 57 = .ok (.isub, 1) := by decide +kernel
theorem dX4_endIt_58 : decode cX4_endIt 58 = .ok (.iastore, 1) := by decide +kernel
theorem dX4_endIt_59 : decode cX4_endIt 59 = .ok (.aload_n 0, 1) := by decide +kernel
theorem dX4_endIt_60 : decode cX4_endIt 60 = .ok (.getfield 7, 3) := by decide +kernel
end
section
theorem dX4_endIt_63 : decode cX4_endIt 63 = .ok (.iconst 3, 1) := by decide +kernel
theorem dX4_endIt_64 : decode cX4_endIt 64 = .ok (.dup2, 1) := by decide +kernel
theorem dX4_endIt_65 : decode cX4_endIt 65 = .ok (.iaload, 1) := by decide +kernel
theorem dX4_endIt_66 : decode cX4_endIt 66 = .ok (.iconst 1, 1) := by decide +kernel
theorem dX4_endIt_67 : decode cX4_endIt 67 = .ok (.iload_n 1, 1) := by decide +kernel
theorem dX4_endIt_68 : decode cX4_endIt 68 = .ok (.isub, 1) := by decide +kernel
theorem dX4_endIt_69 : decode cX4_endIt 69 = .ok (.iadd, 1) := by decide +kernel
theorem dX4_endIt_70 : decode cX4_endIt 70 = .ok (.iastore, 1) := by decide +kernel
theorem dX4_endIt_71 : decode cX4_endIt 71 = .ok (.iload_n 2, 1) := by decide +kernel
theorem dX4_endIt_72 : decode cX4_endIt 72 = .ok (.ireturn, 1) := by decide +kernel
set_option maxRecDepth 20000 in
theorem ggX4_end_X4_in : GoodIn wsX4_end wsX4_in := goodIn_r _ [4] (by decide +kernel) (by decide +kernel)
set_option maxRecDepth 20000 in
theorem gX4_end_X4_in : GoodIn wsX4_end (va_wsS RX4 33 yX4_in wsX4_in) := goodIn_app (goodIn_of _ (by decide +kernel)) ggX4_end_X4_in
set_option maxRecDepth 20000 in
theorem ggX4_end_X4_runs : GoodIn wsX4_end wsX4_runs := goodIn_r _ [8, 9, 64, 65, 66, 67, 68, 69, 70, 71, 72, 73, 74, 75] (by decide +kernel) (by decide +kernel)
set_option maxRecDepth 20000 in
theorem gX4_end_X4_runs : GoodIn wsX4_end (wsV RX4 79 RX4 yX4_runs wsX4_runs) := goodIn_app (goodIn_of _ (by decide +kernel)) ggX4_end_X4_runs
set_option maxRecDepth 20000 in
theorem ggX4_end_X4_record : GoodIn wsX4_end wsX4_record := goodIn_r _ [13, 14, 15, 9, 64, 65, 66, 67, 68, 69, 70, 71, 72, 73, 74, 75] (by decide +kernel) (by decide +kernel)
set_option maxRecDepth 20000 in
theorem gX4_end_X4_record : GoodIn wsX4_end (wsV RX4 57 RX4 yX4_record wsX4_record) := goodIn_app (goodIn_of _ (by decide +kernel)) ggX4_end_X4_record
set_option maxRecDepth 20000 in
theorem ggX4_end_X4_endIt : GoodIn wsX4_end wsX4_endIt := goodIn_r _ [19, 9, 20, 21, 22, 3, 23, 24, 25, 26, 27, 5, 6, 7, 8, 28, 29, 30, 31, 32, 33, 34, 35, 36, 37, 38, 39, 40, 41, 42, 43, 44, 45, 46, 47, 48, 49, 50, 51, 52, 53, 54, 55, 56, 57, 58, 59, 60, 61, 62, 63, 64, 65, 66, 67, 68, 69, 70, 71, 72, 73, 74, 75] (by decide +kernel) (by decide +kernel)
set_option maxRecDepth 20000 in
theorem gX4_end_X4_endIt : GoodIn wsX4_end (wsV RX4 133 RX4 yX4_endIt wsX4_endIt) := goodIn_app (goodIn_of _ (by decide +kernel)) ggX4_end_X4_endIt
theorem dX4_end_0 : decode cX4_end 0 = .ok (.iload_n 1, 1) := by decide +kernel
theorem dX4_end_1 : decode cX4_end 1 = .ok (.iconst 0, 1) := by decide +kernel
theorem dX4_end_2 : decode cX4_end 2 = .ok (.iconst 1, 1) := by decide +kernel
theorem dX4_end_3 : decode cX4_end 3 = .ok (.invokestatic 33, 3) := by decide +kernel
theorem dX4_end_6 : decode cX4_end 6 = .ok (.ifCond .ne 6, 3) := by decide +kernel
theorem dX4_end_9 : decode cX4_end 9 = .ok (.bipush (-2), 2) := by decide +kernel
theorem dX4_end_11 : decode cX4_end 11 = .ok (.ireturn, 1) := by decide +kernel
theorem dX4_end_12 : decode cX4_end 12 = .ok (.aload_n 0, 1) := by decide +kernel
theorem dX4_end_13 : decode cX4_end 13 = .ok (.invokevirtual 79, 3) := by decide +kernel
theorem dX4_end_16 : decode cX4_end 16 = .ok (.ifCond .ne 6, 3) := by decide +kernel
theorem dX4_end_19 : decode cX4_end 19 = .ok (.bipush (-5), 2) := by decide +kernel
theorem dX4_end_21 : decode cX4_end 21 = .ok (.ireturn, 1) := by decide +kernel
theorem dX4_end_22 : decode cX4_end 22 = .ok (.aload_n 0, 1) := by decide +kernel
theorem dX4_end_23 : decode cX4_end 23 = .ok (.invokevirtual 57, 3) := by decide +kernel
theorem dX4_end_26 : decode cX4_end 26 = .ok (.aload_n 0, 1) := by decide +kernel
theorem dX4_end_27 : decode cX4_end 27 = .ok (.iload_n 1, 1) := by decide +kernel
theorem dX4_end_28 : decode cX4_end 28 = .ok (.invokevirtual 133, 3) := by decide +kernel
theorem dX4_end_31 : decode cX4_end 31 = .ok (.ireturn, 1) := by decide +kernel
set_option maxRecDepth 20000 in
theorem ggX4_canAgain_X4_runs : GoodIn wsX4_canAgain wsX4_runs := goodIn_r _ [6, 1, 7, 8, 9, 10, 11, 12, 13, 14, 15, 16, 17, 18] (by decide +kernel) (by decide +kernel)
set_option maxRecDepth 20000 in
theorem gX4_canAgain_X4_runs : GoodIn wsX4_canAgain (wsV RX4 79 RX4 yX4_runs wsX4_runs) := goodIn_app (goodIn_of _ (by decide +kernel)) ggX4_canAgain_X4_runs
theorem dX4_canAgain_0 : decode cX4_canAgain 0 = .ok (.aload_n 0, 1) := by decide +kernel
theorem dX4_canAgain_1 : decode cX4_canAgain 1 = .ok (.invokevirtual 79, 3) := by decide +kernel
theorem dX4_canAgain_4 : decode cX4_canAgain 4 = .ok (.ifCond .ne 17, 3) := by decide +kernel
theorem dX4_canAgain_7 : decode cX4_canAgain 7 = .ok (.aload_n 0, 1) := by decide +kernel
theorem dX4_canAgain_8 : decode cX4_canAgain 8 = .ok (.getfield 7, 3) := by decide +kernel
theorem dX4_canAgain_11 : decode cX4_canAgain 11 = .ok (.iconst 2, 1) := by decide +kernel
theorem dX4_canAgain_12 : decode cX4_canAgain 12 = .ok (.iaload, 1) := by decide +kernel
theorem dX4_canAgain_13 : decode cX4_canAgain 13 = .ok (.iconst 1, 1) := by decide +kernel
theorem dX4_canAgain_14 : decode cX4_canAgain 14 = .ok (.if_icmp .ne 7, 3) := by decide +kernel
theorem dX4_canAgain_17 : decode cX4_canAgain 17 = .ok (.iconst 1, 1) := by decide +kernel
theorem dX4_canAgain_18 : decode cX4_canAgain 18 = .ok (.goto 4, 3) := by decide +kernel
theorem dX4_canAgain_21 : decode cX4_canAgain 21 = .ok (.iconst 0, 1) := by decide +kernel
theorem dX4_canAgain_22 : decode cX4_canAgain 22 = .ok (.ireturn, 1) := by decide +kernel
set_option maxRecDepth 20000 in
theorem ggX4_again_X4_canAgain : GoodIn wsX4_again wsX4_canAgain := goodIn_r _ [5, 6, 7, 8, 9, 4, 10, 25, 26, 27, 28, 29, 30, 31, 32, 33, 34, 35, 36] (by decide +kernel) (by decide +kernel)
set_option maxRecDepth 20000 in
theorem gX4_again_X4_canAgain : GoodIn wsX4_again (wsV RX4 136 RX4 yX4_canAgain wsX4_canAgain) := goodIn_app (goodIn_of _ (by decide +kernel)) ggX4_again_X4_canAgain
set_option maxRecDepth 20000 in
theorem ggX4_again_X4_record : GoodIn wsX4_again wsX4_record := goodIn_r _ [14, 15, 16, 6, 25, 26, 27, 28, 29, 30, 31, 32, 33, 34, 35, 36] (by decide +kernel) (by decide +kernel)
set_option maxRecDepth 20000 in
theorem gX4_again_X4_record : GoodIn wsX4_again (wsV RX4 57 RX4 yX4_record wsX4_record) := goodIn_app (goodIn_of _ (by decide +kernel)) ggX4_again_X4_record
set_option maxRecDepth 20000 in
theorem ggX4_again_X4_start : GoodIn wsX4_again wsX4_start := goodIn_r _ [20, 6, 21, 22, 23, 4, 24, 25, 26, 27, 28, 29, 30, 31, 32, 33, 34, 35, 36] (by decide +kernel) (by decide +kernel)
set_option maxRecDepth 20000 in
theorem gX4_again_X4_start : GoodIn wsX4_again (wsV RX4 121 RX4 yX4_start wsX4_start) := goodIn_app (goodIn_of _ (by decide +kernel)) ggX4_again_X4_start
theorem dX4_again_0 : decode cX4_again 0 = .ok (.aload_n 0, 1) := by decide +kernel
theorem dX4_again_1 : decode cX4_again 1 = .ok (.invokevirtual 136, 3) := by decide +kernel
theorem dX4_again_4 : decode cX4_again 4 = .ok (.ifCond .ne 6, 3) := by decide +kernel
theorem dX4_again_7 : decode cX4_again 7 = .ok (.bipush (-5), 2) := by decide +kernel
theorem dX4_again_9 : decode cX4_again 9 = .ok (.ireturn, 1) := by decide +kernel
theorem dX4_again_10 : decode cX4_again 10 = .ok (.aload_n 0, 1) := by decide +kernel
theorem dX4_again_11 : decode cX4_again 11 = .ok (.invokevirtual 57, 3) := by decide +kernel
theorem dX4_again_14 : decode cX4_again 14 = .ok (.aload_n 0, 1) := by decide +kernel
theorem dX4_again_15 : decode cX4_again 15 = .ok (.invokevirtual 121, 3) := by decide +kernel
theorem dX4_again_18 : decode cX4_again 18 = .ok (.ireturn, 1) := by decide +kernel
set_option maxRecDepth 20000 in
theorem ggX4_holes_X4_many : GoodIn wsX4_holes wsX4_many := goodIn_r _ [5, 6, 7, 8, 4, 9, 10, 19, 20, 21, 22, 23, 24, 25, 26, 27, 28, 29, 30] (by decide +kernel) (by decide +kernel)
set_option maxRecDepth 20000 in
theorem gX4_holes_X4_many : GoodIn wsX4_holes (wsV RX4 60 RX4 yX4_many wsX4_many) := goodIn_app (goodIn_of _ (by decide +kernel)) ggX4_holes_X4_many
set_option maxRecDepth 20000 in
theorem ggX4_holes_X4_isHole : GoodIn wsX4_holes wsX4_isHole := goodIn_r _ [14, 15, 16, 17, 4, 18, 6, 7, 8, 9, 10, 19, 20, 21, 22, 23, 24, 25, 26, 27, 28, 29, 30] (by decide +kernel) (by decide +kernel)
set_option maxRecDepth 20000 in
theorem gX4_holes_X4_isHole : GoodIn wsX4_holes (wsV RX4 64 RX4 yX4_isHole wsX4_isHole) := goodIn_app (goodIn_of _ (by decide +kernel)) ggX4_holes_X4_isHole
theorem dX4_holes_0 : decode cX4_holes 0 = .ok (.iconst 0, 1) := by decide +kernel
theorem dX4_holes_1 : decode cX4_holes 1 = .ok (.istore_n 2, 1) := by decide +kernel
theorem dX4_holes_2 : decode cX4_holes 2 = .ok (.iconst 0, 1) := by decide +kernel
theorem dX4_holes_3 : decode cX4_holes 3 = .ok (.istore_n 3, 1) := by decide +kernel
theorem dX4_holes_4 : decode cX4_holes 4 = .ok (.iload_n 3, 1) := by decide +kernel
theorem dX4_holes_5 : decode cX4_holes 5 = .ok (.aload_n 0, 1) := by decide +kernel
theorem dX4_holes_6 : decode cX4_holes 6 = .ok (.iload_n 1, 1) := by decide +kernel
theorem dX4_holes_7 : decode cX4_holes 7 = .ok (.invokevirtual 60, 3) := by decide +kernel
theorem dX4_holes_10 : decode cX4_holes 10 = .ok (.if_icmp .ge 26, 3) := by decide +kernel
theorem dX4_holes_13 : decode cX4_holes 13 = .ok (.iload_n 2, 1) := by decide +kernel
theorem dX4_holes_14 : decode cX4_holes 14 = .ok (.aload_n 0, 1) := by decide +kernel
theorem dX4_holes_15 : decode cX4_holes 15 = .ok (.iload_n 1, 1) := by decide +kernel
theorem dX4_holes_16 : decode cX4_holes 16 = .ok (.iload_n 3, 1) := by decide +kernel
theorem dX4_holes_17 : decode cX4_holes 17 = .ok (.invokevirtual 64, 3) := by decide +kernel
theorem dX4_holes_20 : decode cX4_holes 20 = .ok (.ifCond .eq 7, 3) := by decide +kernel
theorem dX4_holes_23 : decode cX4_holes 23 = .ok (.iconst 1, 1) := by decide +kernel
theorem dX4_holes_24 : decode cX4_holes 24 = .ok (.goto 4, 3) := by decide +kernel
theorem dX4_holes_27 : decode cX4_holes 27 = .ok (.iconst 0, 1) := by decide +kernel
theorem dX4_holes_28 : decode cX4_holes 28 = .ok (.iadd, 1) := by decide +kernel
theorem dX4_holes_29 : decode cX4_holes 29 = .ok (.istore_n 2, 1) := by decide +kernel
theorem dX4_holes_30 : decode cX4_holes 30 = .ok (.iinc 3 1, 3) := by decide +kernel
theorem dX4_holes_33 : decode cX4_holes 33 = .ok (.goto (-29), 3) := by decide +kernel
theorem dX4_holes_36 : decode cX4_holes 36 = .ok (.iload_n 2, 1) := by decide +kernel
theorem dX4_holes_37 : decode cX4_holes 37 = .ok (.ireturn, 1) := by decide +kernel
set_option maxRecDepth 20000 in
theorem ggX4_allData_X4_many : GoodIn wsX4_allData wsX4_many := goodIn_r _ [5, 6, 7, 8, 4, 9, 10, 19, 20, 21, 22, 23, 24, 25, 26, 27, 28, 29, 30] (by decide +kernel) (by decide +kernel)
set_option maxRecDepth 20000 in
theorem gX4_allData_X4_many : GoodIn wsX4_allData (wsV RX4 60 RX4 yX4_many wsX4_many) := goodIn_app (goodIn_of _ (by decide +kernel)) ggX4_allData_X4_many
set_option maxRecDepth 20000 in
theorem ggX4_allData_X4_isHole : GoodIn wsX4_allData wsX4_isHole := goodIn_r _ [14, 15, 16, 17, 4, 18, 6, 7, 8, 9, 10, 19, 20, 21, 22, 23, 24, 25, 26, 27, 28, 29, 30] (by decide +kernel) (by decide +kernel)
set_option maxRecDepth 20000 in
theorem gX4_allData_X4_isHole : GoodIn wsX4_allData (wsV RX4 64 RX4 yX4_isHole wsX4_isHole) := goodIn_app (goodIn_of _ (by decide +kernel)) ggX4_allData_X4_isHole
set_option maxRecDepth 20000 in
theorem ggX4_allData_X4_gen : GoodIn wsX4_allData wsX4_gen := goodIn_r _ [18, 6, 7, 8, 4, 9, 10, 19, 20, 21, 22, 23, 24, 25, 26, 27, 28, 29, 30] (by decide +kernel) (by decide +kernel)
set_option maxRecDepth 20000 in
theorem gX4_allData_X4_gen : GoodIn wsX4_allData (wsV RX4 45 RX4 yX4_gen wsX4_gen) := goodIn_app (goodIn_of _ (by decide +kernel)) ggX4_allData_X4_gen
theorem dX4_allData_0 : decode cX4_allData 0 = .ok (.iconst 0, 1) := by decide +kernel
theorem dX4_allData_1 : decode cX4_allData 1 = .ok (.istore_n 2, 1) := by decide +kernel
theorem dX4_allData_2 : decode cX4_allData 2 = .ok (.iconst 0, 1) := by decide +kernel
theorem dX4_allData_3 : decode cX4_allData 3 = .ok (.istore_n 3, 1) := by decide +kernel
theorem dX4_allData_4 : decode cX4_allData 4 = .ok (.iload_n 3, 1) := by decide +kernel
theorem dX4_allData_5 : decode cX4_allData 5 = .ok (.aload_n 0, 1) := by decide +kernel
theorem dX4_allData_6 : decode cX4_allData 6 = .ok (.iload_n 1, 1) := by decide +kernel
theorem dX4_allData_7 : decode cX4_allData 7 = .ok (.invokevirtual 60, 3) := by decide +kernel
theorem dX4_allData_10 : decode cX4_allData 10 = .ok (.if_icmp .ge 32, 3) := by decide +kernel
theorem dX4_allData_13 : decode cX4_allData 13 = .ok (.iload_n 2, 1) := by decide +kernel
theorem dX4_allData_14 : decode cX4_allData 14 = .ok (.aload_n 0, 1) := by decide +kernel
theorem dX4_allData_15 : decode cX4_allData 15 = .ok (.iload_n 1, 1) := by decide +kernel
theorem dX4_allData_16 : decode cX4_allData 16 = .ok (.iload_n 3, 1) := by decide +kernel
theorem dX4_allData_17 : decode cX4_allData 17 = .ok (.invokevirtual 64, 3) := by decide +kernel
theorem dX4_allData_20 : decode cX4_allData 20 = .ok (.ifCond .eq 7, 3) := by decide +kernel
theorem dX4_allData_23 : decode cX4_allData 23 = .ok (.iconst 0, 1) := by decide +kernel
theorem dX4_allData_24 : decode cX4_allData 24 = .ok (.goto 10, 3) := by decide +kernel
theorem dX4_allData_27 : decode cX4_allData 27 = .ok (.aload_n 0, 1) := by decide +kernel
theorem dX4_allData_28 : decode cX4_allData 28 = .ok (.iload_n 1, 1) := by decide +kernel
theorem dX4_allData_29 : decode cX4_allData 29 = .ok (.iload_n 3, 1) := by decide +kernel
theorem dX4_allData_30 : decode cX4_allData 30 = .ok (.iconst 2, 1) := by decide +kernel
theorem dX4_allData_31 : decode cX4_allData 31 = .ok (.invokevirtual 45, 3) := by decide +kernel
theorem dX4_allData_34 : decode cX4_allData 34 = .ok (.iadd, 1) := by decide +kernel
theorem dX4_allData_35 : decode cX4_allData 35 = .ok (.istore_n 2, 1) := by decide +kernel
theorem dX4_allData_36 : decode cX4_allData 36 = .ok (.iinc 3 1, 3) := by decide +kernel
theorem dX4_allData_39 : decode cX4_allData 39 = .ok (.goto (-35), 3) := by decide +kernel
theorem dX4_allData_42 : decode cX4_allData 42 = .ok (.iload_n 2, 1) := by decide +kernel
theorem dX4_allData_43 : decode cX4_allData 43 = .ok (.ireturn, 1) := by decide +kernel
set_option maxRecDepth 20000 in
theorem ggX4_ofGroup_X4_isGroup : GoodIn wsX4_ofGroup wsX4_isGroup := goodIn_r _ [4, 5, 6, 3, 7] (by decide +kernel) (by decide +kernel)
set_option maxRecDepth 20000 in
theorem gX4_ofGroup_X4_isGroup : GoodIn wsX4_ofGroup (va_wsS RX4 92 yX4_isGroup wsX4_isGroup) := goodIn_app (goodIn_of _ (by decide +kernel)) ggX4_ofGroup_X4_isGroup
set_option maxRecDepth 20000 in
theorem ggX4_ofGroup_X4_of : GoodIn wsX4_ofGroup wsX4_of := goodIn_r _ [11, 12, 33, 34, 35, 36, 37, 38, 39, 40, 41, 42, 43, 44] (by decide +kernel) (by decide +kernel)
set_option maxRecDepth 20000 in
theorem gX4_ofGroup_X4_of : GoodIn wsX4_ofGroup (wsV RX4 37 RX4 yX4_of wsX4_of) := goodIn_app (goodIn_of _ (by decide +kernel)) ggX4_ofGroup_X4_of
set_option maxRecDepth 20000 in
theorem ggX4_ofGroup_X4_holes : GoodIn wsX4_ofGroup wsX4_holes := goodIn_r _ [16, 17, 18, 19, 3, 20, 8, 9, 10, 11, 12, 21, 22, 23, 24, 25, 26, 27, 28, 33, 34, 35, 36, 37, 38, 39, 40, 41, 42, 43, 44] (by decide +kernel) (by decide +kernel)
set_option maxRecDepth 20000 in
theorem gX4_ofGroup_X4_holes : GoodIn wsX4_ofGroup (wsV RX4 139 RX4 yX4_holes wsX4_holes) := goodIn_app (goodIn_of _ (by decide +kernel)) ggX4_ofGroup_X4_holes
set_option maxRecDepth 20000 in
theorem ggX4_ofGroup_X4_allData : GoodIn wsX4_ofGroup wsX4_allData := goodIn_r _ [32, 17, 18, 19, 3, 20, 8, 9, 10, 11, 12, 21, 22, 23, 24, 25, 26, 27, 28, 33, 34, 35, 36, 37, 38, 39, 40, 41, 42, 43, 44] (by decide +kernel) (by decide +kernel)
set_option maxRecDepth 20000 in
theorem gX4_ofGroup_X4_allData : GoodIn wsX4_ofGroup (wsV RX4 142 RX4 yX4_allData wsX4_allData) := goodIn_app (goodIn_of _ (by decide +kernel)) ggX4_ofGroup_X4_allData
theorem dX4_ofGroup_0 : decode cX4_ofGroup 0 = .ok (.iload_n 1, 1) := by decide +kernel
theorem dX4_ofGroup_1 : decode cX4_ofGroup 1 = .ok (.invokestatic 92, 3) := by decide +kernel
theorem dX4_ofGroup_4 : decode cX4_ofGroup 4 = .ok (.ifCond .ne 5, 3) := by decide +kernel
theorem dX4_ofGroup_7 : decode cX4_ofGroup 7 = .ok (.iconst (-1), 1) := by decide +kernel
theorem dX4_ofGroup_8 : decode cX4_ofGroup 8 = .ok (.ireturn, 1) := by decide +kernel
theorem dX4_ofGroup_9 : decode cX4_ofGroup 9 = .ok (.iload_n 2, 1) := by decide +kernel
theorem dX4_ofGroup_10 : decode cX4_ofGroup 10 = .ok (.tableswitch 70 0 6 #[42, 42, 49, 55, 55, 55, 64], 42) := by decide +kernel
theorem dX4_ofGroup_52 : decode cX4_ofGroup 52 = .ok (.aload_n 0, 1) := by decide +kernel
theorem dX4_ofGroup_53 : decode cX4_ofGroup 53 = .ok (.iload_n 1, 1) := by decide +kernel
theorem dX4_ofGroup_54 : decode cX4_ofGroup 54 = .ok (.iload_n 2, 1) := by decide +kernel
theorem dX4_ofGroup_55 : decode cX4_ofGroup 55 = .ok (.invokevirtual 37, 3) := by decide +kernel
theorem dX4_ofGroup_58 : decode cX4_ofGroup 58 = .ok (.ireturn, 1) := by decide +kernel
theorem dX4_ofGroup_59 : decode cX4_ofGroup 59 = .ok (.aload_n 0, 1) := by decide +kernel
theorem dX4_ofGroup_60 : decode cX4_ofGroup 60 = .ok (.iload_n 1, 1) := by decide +kernel
theorem dX4_ofGroup_61 : decode cX4_ofGroup 61 = .ok (.invokevirtual 139, 3) := by decide +kernel
theorem dX4_ofGroup_64 : decode cX4_ofGroup 64 = .ok (.ireturn, 1) := by decide +kernel
theorem dX4_ofGroup_65 : decode cX4_ofGroup 65 = .ok (.aload_n 0, 1) := by decide +kernel
theorem dX4_ofGroup_66 : decode cX4_ofGroup 66 = .ok (.iload_n 1, 1) := by decide +kernel
theorem dX4_ofGroup_67 : decode cX4_ofGroup 67 = .ok (.iload_n 2, 1) := by decide +kernel
theorem dX4_ofGroup_68 : decode cX4_ofGroup 68 = .ok (.iconst 1, 1) := by decide +kernel
theorem dX4_ofGroup_69 : decode cX4_ofGroup 69 = .ok (.isub, 1) := by decide +kernel
theorem dX4_ofGroup_70 : decode cX4_ofGroup 70 = .ok (.invokevirtual 37, 3) := by decide +kernel
theorem dX4_ofGroup_73 : decode cX4_ofGroup 73 = .ok (.ireturn, 1) := by decide +kernel
theorem dX4_ofGroup_74 : decode cX4_ofGroup 74 = .ok (.aload_n 0, 1) := by decide +kernel
theorem dX4_ofGroup_75 : decode cX4_ofGroup 75 = .ok (.iload_n 1, 1) := by decide +kernel
theorem dX4_ofGroup_76 : decode cX4_ofGroup 76 = .ok (.invokevirtual 142, 3) := by decide +kernel
theorem dX4_ofGroup_79 : decode cX4_ofGroup 79 = .ok (.ireturn, 1) := by decide +kernel
theorem dX4_ofGroup_80 : decode cX4_ofGroup 80 = .ok (.bipush (-2), 2) := by decide +kernel
theorem dX4_ofGroup_82 : decode cX4_ofGroup 82 = .ok (.ireturn, 1) := by decide +kernel
set_option maxRecDepth 20000 in
theorem ggX4_nameOf_X4_runs : GoodIn wsX4_nameOf wsX4_runs := goodIn_r _ [5, 6, 35, 36, 37, 38, 39, 40, 41, 42, 43, 44, 45, 46] (by decide +kernel) (by decide +kernel)
set_option maxRecDepth 20000 in
theorem gX4_nameOf_X4_runs : GoodIn wsX4_nameOf (wsV RX4 79 RX4 yX4_runs wsX4_runs) := goodIn_app (goodIn_of _ (by decide +kernel)) ggX4_nameOf_X4_runs
set_option maxRecDepth 20000 in
theorem ggX4_nameOf_X4_told : GoodIn wsX4_nameOf wsX4_told := goodIn_r _ [10, 1, 2, 3, 4, 5, 6, 11, 12, 13, 14, 15, 16, 17, 18, 19, 20, 21, 22, 23, 24, 25, 26, 27, 28, 29, 30, 31, 32, 33, 34, 35, 36, 37, 38, 39, 40, 41, 42, 43, 44, 45, 46] (by decide +kernel) (by decide +kernel)
set_option maxRecDepth 20000 in
theorem gX4_nameOf_X4_told : GoodIn wsX4_nameOf (wsV RX4 96 RX4 yX4_told wsX4_told) := goodIn_app (goodIn_of _ (by decide +kernel)) ggX4_nameOf_X4_told
theorem dX4_nameOf_0 : decode cX4_nameOf 0 = .ok (.bipush (-6), 2) := by decide +kernel
theorem dX4_nameOf_2 : decode cX4_nameOf 2 = .ok (.istore_n 3, 1) := by decide +kernel
theorem dX4_nameOf_3 : decode cX4_nameOf 3 = .ok (.bipush (-7), 2) := by decide +kernel
theorem dX4_nameOf_5 : decode cX4_nameOf 5 = .ok (.istore 4, 2) := by decide +kernel
theorem dX4_nameOf_7 : decode cX4_nameOf 7 = .ok (.iload 4, 2) := by decide +kernel
theorem dX4_nameOf_9 : decode cX4_nameOf 9 = .ok (.iconst 1, 1) := by decide +kernel
theorem dX4_nameOf_10 : decode cX4_nameOf 10 = .ok (.if_icmp .gt 37, 3) := by decide +kernel
theorem dX4_nameOf_13 : decode cX4_nameOf 13 = .ok (.aload_n 0, 1) := by decide +kernel
theorem dX4_nameOf_14 : decode cX4_nameOf 14 = .ok (.invokevirtual 79, 3) := by decide +kernel
theorem dX4_nameOf_17 : decode cX4_nameOf 17 = .ok (.ifCond .eq 30, 3) := by decide +kernel
theorem dX4_nameOf_20 : decode cX4_nameOf 20 = .ok (.aload_n 0, 1) := by decide +kernel
theorem dX4_nameOf_21 : decode cX4_nameOf 21 = .ok (.iload_n 1, 1) := by decide +kernel
theorem dX4_nameOf_22 : decode cX4_nameOf 22 = .ok (.iload 4, 2) := by decide +kernel
theorem dX4_nameOf_24 : decode cX4_nameOf 24 = .ok (.invokevirtual 96, 3) := by decide +kernel
theorem dX4_nameOf_27 : decode cX4_nameOf 27 = .ok (.iload_n 2, 1) := by decide +kernel
theorem dX4_nameOf_28 : decode cX4_nameOf 28 = .ok (.if_icmp .ne 11, 3) := by decide +kernel
theorem dX4_nameOf_31 : decode cX4_nameOf 31 = .ok (.iload 4, 2) := by decide +kernel
theorem dX4_nameOf_33 : decode cX4_nameOf 33 = .ok (.bipush 10, 2) := by decide +kernel
theorem dX4_nameOf_35 : decode cX4_nameOf 35 = .ok (.iadd, 1) := by decide +kernel
theorem dX4_nameOf_36 : decode cX4_nameOf 36 = .ok (.goto 4, 3) := by decide +kernel
theorem dX4_nameOf_39 : decode cX4_nameOf 39 = .ok (.iload_n 3, 1) := by decide +kernel
theorem dX4_nameOf_40 : decode cX4_nameOf 40 = .ok (.istore_n 3, 1) := by decide +kernel
theorem dX4_nameOf_41 : decode cX4_nameOf 41 = .ok (.iinc 4 1, 3) := by decide +kernel
theorem dX4_nameOf_44 : decode cX4_nameOf 44 = .ok (.goto (-37), 3) := by decide +kernel
theorem dX4_nameOf_47 : decode cX4_nameOf 47 = .ok (.iload_n 3, 1) := by decide +kernel
theorem dX4_nameOf_48 : decode cX4_nameOf 48 = .ok (.ireturn, 1) := by decide +kernel
set_option maxRecDepth 20000 in
theorem ggX4_generation_X4_isGroup : GoodIn wsX4_generation wsX4_isGroup := goodIn_r _ [4, 5, 6, 3, 7] (by decide +kernel) (by decide +kernel)
set_option maxRecDepth 20000 in
theorem gX4_generation_X4_isGroup : GoodIn wsX4_generation (va_wsS RX4 92 yX4_isGroup wsX4_isGroup) := goodIn_app (goodIn_of _ (by decide +kernel)) ggX4_generation_X4_isGroup
set_option maxRecDepth 20000 in
theorem ggX4_generation_X4_many : GoodIn wsX4_generation wsX4_many := goodIn_r _ [11, 12, 13, 14, 3, 15, 16, 45, 46, 47, 48, 49, 50, 51, 52, 53, 54, 55, 56] (by decide +kernel) (by decide +kernel)
set_option maxRecDepth 20000 in
theorem gX4_generation_X4_many : GoodIn wsX4_generation (wsV RX4 60 RX4 yX4_many wsX4_many) := goodIn_app (goodIn_of _ (by decide +kernel)) ggX4_generation_X4_many
set_option maxRecDepth 20000 in
theorem ggX4_generation_X4_in : GoodIn wsX4_generation wsX4_in := goodIn_r _ [7] (by decide +kernel) (by decide +kernel)
set_option maxRecDepth 20000 in
theorem gX4_generation_X4_in : GoodIn wsX4_generation (va_wsS RX4 33 yX4_in wsX4_in) := goodIn_app (goodIn_of _ (by decide +kernel)) ggX4_generation_X4_in
set_option maxRecDepth 20000 in
theorem ggX4_generation_X4_gen : GoodIn wsX4_generation wsX4_gen := goodIn_r _ [20, 12, 13, 14, 3, 15, 16, 45, 46, 47, 48, 49, 50, 51, 52, 53, 54, 55, 56] (by decide +kernel) (by decide +kernel)
set_option maxRecDepth 20000 in
theorem gX4_generation_X4_gen : GoodIn wsX4_generation (wsV RX4 45 RX4 yX4_gen wsX4_gen) := goodIn_app (goodIn_of _ (by decide +kernel)) ggX4_generation_X4_gen
set_option maxRecDepth 20000 in
theorem ggX4_generation_X4_isHole : GoodIn wsX4_generation wsX4_isHole := goodIn_r _ [24, 17, 18, 19, 3, 20, 12, 13, 14, 15, 16, 45, 46, 47, 48, 49, 50, 51, 52, 53, 54, 55, 56] (by decide +kernel) (by decide +kernel)
set_option maxRecDepth 20000 in
theorem gX4_generation_X4_isHole : GoodIn wsX4_generation (wsV RX4 64 RX4 yX4_isHole wsX4_isHole) := goodIn_app (goodIn_of _ (by decide +kernel)) ggX4_generation_X4_isHole
set_option maxRecDepth 20000 in
theorem ggX4_generation_X4_nameOf : GoodIn wsX4_generation wsX4_nameOf := goodIn_r _ [28, 29, 30, 31, 3, 32, 16, 33, 34, 35, 36, 37, 38, 39, 40, 12, 13, 14, 15, 41, 42, 43, 44, 8, 9, 10, 11, 17, 18, 19, 20, 21, 22, 23, 24, 45, 46, 47, 48, 49, 50, 51, 52, 53, 54, 55, 56] (by decide +kernel) (by decide +kernel)
set_option maxRecDepth 20000 in
theorem gX4_generation_X4_nameOf : GoodIn wsX4_generation (wsV RX4 145 RX4 yX4_nameOf wsX4_nameOf) := goodIn_app (goodIn_of _ (by decide +kernel)) ggX4_generation_X4_nameOf
theorem dX4_generation_0 : decode cX4_generation 0 = .ok (.iload_n 1, 1) := by decide +kernel
theorem dX4_generation_1 : decode cX4_generation 1 = .ok (.invokestatic 92, 3) := by decide +kernel
theorem dX4_generation_4 : decode cX4_generation 4 = .ok (.ifCond .eq 18, 3) := by decide +kernel
theorem dX4_generation_7 : decode cX4_generation 7 = .ok (.iload_n 2, 1) := by decide +kernel
theorem dX4_generation_8 : decode cX4_generation 8 = .ok (.iconst 0, 1) := by decide +kernel
theorem dX4_generation_9 : decode cX4_generation 9 = .ok (.aload_n 0, 1) := by decide +kernel
theorem dX4_generation_10 : decode cX4_generation 10 = .ok (.iload_n 1, 1) := by decide +kernel
theorem dX4_generation_11 : decode cX4_generation 11 = .ok (.invokevirtual 60, 3) := by decide +kernel
theorem dX4_generation_14 : decode cX4_generation 14 = .ok (.iconst 1, 1) := by decide +kernel
theorem dX4_generation_15 : decode cX4_generation 15 = .ok (.isub, 1) := by decide +kernel
theorem dX4_generation_16 : decode cX4_generation 16 = .ok (.invokestatic 33, 3) := by decide +kernel
theorem dX4_generation_19 : decode cX4_generation 19 = .ok (.ifCond .ne 5, 3) := by decide +kernel
theorem dX4_generation_22 : decode cX4_generation 22 = .ok (.iconst (-1), 1) := by decide +kernel
theorem dX4_generation_23 : decode cX4_generation 23 = .ok (.ireturn, 1) := by decide +kernel
theorem dX4_generation_24 : decode cX4_generation 24 = .ok (.iload_n 3, 1) := by decide +kernel
theorem dX4_generation_25 : decode cX4_generation 25 = .ok (.tableswitch 93 0 5 #[39, 47, 55, 70, 78, 86], 39) := by decide +kernel
theorem dX4_generation_64 : decode cX4_generation 64 = .ok (.aload_n 0, 1) := by decide +kernel
theorem dX4_generation_65 : decode cX4_generation 65 = .ok (.iload_n 1, 1) := by decide +kernel
theorem dX4_generation_66 : decode cX4_generation 66 = .ok (.iload_n 2, 1) := by decide +kernel
theorem dX4_generation_67 : decode cX4_generation 67 = .ok (.iconst 1, 1) := by decide +kernel
theorem dX4_generation_68 : decode cX4_generation 68 = .ok (.invokevirtual 45, 3) := by decide +kernel
theorem dX4_generation_71 : decode cX4_generation 71 = .ok (.ireturn, 1) := by decide +kernel
theorem dX4_generation_72 : decode cX4_generation 72 = .ok (.aload_n 0, 1) := by decide +kernel
theorem dX4_generation_73 : decode cX4_generation 73 = .ok (.iload_n 1, 1) := by decide +kernel
theorem dX4_generation_74 : decode cX4_generation 74 = .ok (.iload_n 2, 1) := by decide +kernel
theorem dX4_generation_75 : decode cX4_generation 75 = .ok (.iconst 2, 1) := by decide +kernel
theorem dX4_generation_76 : decode cX4_generation 76 = .ok (.invokevirtual 45, 3) := by decide +kernel
theorem dX4_generation_79 : decode cX4_generation 79 = .ok (.ireturn, 1) := by decide +kernel
theorem dX4_generation_80 : decode cX4_generation 80 = .ok (.aload_n 0, 1) := by decide +kernel
theorem dX4_generation_81 : decode cX4_generation 81 = .ok (.iload_n 1, 1) := by decide +kernel
theorem dX4_generation_82 : decode cX4_generation 82 = .ok (.iload_n 2, 1) := by decide +kernel
theorem dX4_generation_83 : decode cX4_generation 83 = .ok (.invokevirtual 64, 3) := by decide +kernel
theorem dX4_generation_86 : decode cX4_generation 86 = .ok (.ifCond .eq 7, 3) := by decide +kernel
theorem dX4_generation_89 : decode cX4_generation 89 = .ok (.iconst 1, 1) := by decide +kernel
theorem dX4_generation_90 : decode cX4_generation 90 = .ok (.goto 4, 3) := by decide +kernel
theorem dX4_generation_93 : decode cX4_generation 93 = .ok (.iconst 0, 1) := by decide +kernel
theorem dX4_generation_94 : decode cX4_generation 94 = .ok (.ireturn, 1) := by decide +kernel
theorem dX4_generation_95 : decode cX4_generation 95 = .ok (.aload_n 0, 1) := by decide +kernel
theorem dX4_generation_96 : decode cX4_generation 96 = .ok (.iload_n 1, 1) := by decide +kernel
theorem dX4_generation_97 : decode cX4_generation 97 = .ok (.iload_n 2, 1) := by decide +kernel
theorem dX4_generation_98 : decode cX4_generation 98 = .ok (.iconst 3, 1) := by decide +kernel
theorem dX4_generation_99 : decode cX4_generation 99 = .ok (.invokevirtual 45, 3) := by decide +kernel
theorem dX4_generation_102 : decode cX4_generation 102 = .ok (.ireturn, 1) := by decide +kernel
theorem dX4_generation_103 : decode cX4_generation 103 = .ok (.aload_n 0, 1) := by decide +kernel
theorem dX4_generation_104 : decode cX4_generation 104 = .ok (.iload_n 1, 1) := by decide +kernel
theorem dX4_generation_105 : decode cX4_generation 105 = .ok (.iload_n 2, 1) := by decide +kernel
theorem dX4_generation_106 : decode cX4_generation 106 = .ok (.iconst 4, 1) := by decide +kernel
theorem dX4_generation_107 : decode cX4_generation 107 = .ok (.invokevirtual 45, 3) := by decide +kernel
theorem dX4_generation_110 : decode cX4_generation 110 = .ok (.ireturn, 1) := by decide +kernel
theorem dX4_generation_111 : decode cX4_generation 111 = .ok (.aload_n 0, 1) := by decide +kernel
theorem dX4_generation_112 : decode cX4_generation 112 = .ok (.iload_n 1, 1) := by decide +kernel
theorem dX4_generation_113 : decode cX4_generation 113 = .ok (.iload_n 2, 1) := by decide +kernel
theorem dX4_generation_114 : decode cX4_generation 114 = .ok (.invokevirtual 145, 3) := by decide +kernel
theorem dX4_generation_117 : decode cX4_generation 117 = .ok (.ireturn, 1) := by decide +kernel
theorem dX4_generation_118 : decode cX4_generation 118 = .ok (.bipush (-2), 2) := by decide +kernel
theorem dX4_generation_120 : decode cX4_generation 120 = .ok (.ireturn, 1) := by decide +kernel
set_option maxRecDepth 20000 in
theorem ggX4_named_X4_isGroup : GoodIn wsX4_named wsX4_isGroup := goodIn_r _ [4, 5, 6, 3, 7] (by decide +kernel) (by decide +kernel)
set_option maxRecDepth 20000 in
theorem gX4_named_X4_isGroup : GoodIn wsX4_named (va_wsS RX4 92 yX4_isGroup wsX4_isGroup) := goodIn_app (goodIn_of _ (by decide +kernel)) ggX4_named_X4_isGroup
set_option maxRecDepth 20000 in
theorem ggX4_named_X4_isName : GoodIn wsX4_named wsX4_isName := goodIn_r _ [10, 5, 6, 3, 7] (by decide +kernel) (by decide +kernel)
set_option maxRecDepth 20000 in
theorem gX4_named_X4_isName : GoodIn wsX4_named (va_wsS RX4 102 yX4_isName wsX4_isName) := goodIn_app (goodIn_of _ (by decide +kernel)) ggX4_named_X4_isName
set_option maxRecDepth 20000 in
theorem ggX4_named_X4_told : GoodIn wsX4_named wsX4_told := goodIn_r _ [14, 15, 16, 17, 3, 18, 19, 20, 21, 22, 23, 24, 25, 26, 27, 28, 29, 30, 31, 32, 33, 34, 35, 36, 37, 38, 39, 40, 41, 42, 43, 44, 45, 46, 47, 48, 49, 50, 51, 52, 53, 54, 55] (by decide +kernel) (by decide +kernel)
set_option maxRecDepth 20000 in
theorem gX4_named_X4_told : GoodIn wsX4_named (wsV RX4 96 RX4 yX4_told wsX4_told) := goodIn_app (goodIn_of _ (by decide +kernel)) ggX4_named_X4_told
set_option maxRecDepth 20000 in
theorem ggX4_named_X4_gen : GoodIn wsX4_named wsX4_gen := goodIn_r _ [39, 24, 25, 26, 3, 27, 19, 44, 45, 46, 47, 48, 49, 50, 51, 52, 53, 54, 55] (by decide +kernel) (by decide +kernel)
set_option maxRecDepth 20000 in
theorem gX4_named_X4_gen : GoodIn wsX4_named (wsV RX4 45 RX4 yX4_gen wsX4_gen) := goodIn_app (goodIn_of _ (by decide +kernel)) ggX4_named_X4_gen
theorem dX4_named_0 : decode cX4_named 0 = .ok (.iload_n 1, 1) := by decide +kernel
theorem dX4_named_1 : decode cX4_named 1 = .ok (.invokestatic 92, 3) := by decide +kernel
theorem dX4_named_4 : decode cX4_named 4 = .ok (.ifCond .ne 5, 3) := by decide +kernel
theorem dX4_named_7 : decode cX4_named 7 = .ok (.iconst (-1), 1) := by decide +kernel
theorem dX4_named_8 : decode cX4_named 8 = .ok (.ireturn, 1) := by decide +kernel
theorem dX4_named_9 : decode cX4_named 9 = .ok (.iload_n 2, 1) := by decide +kernel
theorem dX4_named_10 : decode cX4_named 10 = .ok (.invokestatic 102, 3) := by decide +kernel
theorem dX4_named_13 : decode cX4_named 13 = .ok (.ifCond .ne 6, 3) := by decide +kernel
theorem dX4_named_16 : decode cX4_named 16 = .ok (.bipush (-2), 2) := by decide +kernel
theorem dX4_named_18 : decode cX4_named 18 = .ok (.ireturn, 1) := by decide +kernel
theorem dX4_named_19 : decode cX4_named 19 = .ok (.aload_n 0, 1) := by decide +kernel
theorem dX4_named_20 : decode cX4_named 20 = .ok (.iload_n 1, 1) := by decide +kernel
theorem dX4_named_21 : decode cX4_named 21 = .ok (.iload_n 2, 1) := by decide +kernel
theorem dX4_named_22 : decode cX4_named 22 = .ok (.invokevirtual 96, 3) := by decide +kernel
theorem dX4_named_25 : decode cX4_named 25 = .ok (.istore_n 3, 1) := by decide +kernel
theorem dX4_named_26 : decode cX4_named 26 = .ok (.iload_n 3, 1) := by decide +kernel
theorem dX4_named_27 : decode cX4_named 27 = .ok (.bipush (-6), 2) := by decide +kernel
theorem dX4_named_29 : decode cX4_named 29 = .ok (.if_icmp .ne 8, 3) := by decide +kernel
theorem dX4_named_32 : decode cX4_named 32 = .ok (.bipush (-6), 2) := by decide +kernel
theorem dX4_named_34 : decode cX4_named 34 = .ok (.goto 10, 3) := by decide +kernel
theorem dX4_named_37 : decode cX4_named 37 = .ok (.aload_n 0, 1) := by decide +kernel
theorem dX4_named_38 : decode cX4_named 38 = .ok (.iload_n 1, 1) := by decide +kernel
theorem dX4_named_39 : decode cX4_named 39 = .ok (.iload_n 3, 1) := by decide +kernel
theorem dX4_named_40 : decode cX4_named 40 = .ok (.iconst 1, 1) := by decide +kernel
theorem dX4_named_41 : decode cX4_named 41 = .ok (.invokevirtual 45, 3) := by decide +kernel
theorem dX4_named_44 : decode cX4_named 44 = .ok (.ireturn, 1) := by decide +kernel
set_option maxRecDepth 20000 in
theorem ggX4_allHoles_X4_holes : GoodIn wsX4_allHoles wsX4_holes := goodIn_r _ [5, 6, 7, 8, 4, 9, 10, 11, 12, 13, 14, 15, 16, 17, 18, 19, 20, 21, 22, 23, 24, 25, 26, 27, 28, 29, 30, 31, 32, 33, 34] (by decide +kernel) (by decide +kernel)
set_option maxRecDepth 20000 in
theorem gX4_allHoles_X4_holes : GoodIn wsX4_allHoles (wsV RX4 139 RX4 yX4_holes wsX4_holes) := goodIn_app (goodIn_of _ (by decide +kernel)) ggX4_allHoles_X4_holes
theorem dX4_allHoles_0 : decode cX4_allHoles 0 = .ok (.iconst 0, 1) := by decide +kernel
theorem dX4_allHoles_1 : decode cX4_allHoles 1 = .ok (.istore_n 1, 1) := by decide +kernel
theorem dX4_allHoles_2 : decode cX4_allHoles 2 = .ok (.iconst 0, 1) := by decide +kernel
theorem dX4_allHoles_3 : decode cX4_allHoles 3 = .ok (.istore_n 2, 1) := by decide +kernel
theorem dX4_allHoles_4 : decode cX4_allHoles 4 = .ok (.iload_n 2, 1) := by decide +kernel
theorem dX4_allHoles_5 : decode cX4_allHoles 5 = .ok (.bipush 6, 2) := by decide +kernel
theorem dX4_allHoles_7 : decode cX4_allHoles 7 = .ok (.if_icmp .ge 17, 3) := by decide +kernel
theorem dX4_allHoles_10 : decode cX4_allHoles 10 = .ok (.iload_n 1, 1) := by decide +kernel
theorem dX4_allHoles_11 : decode cX4_allHoles 11 = .ok (.aload_n 0, 1) := by decide +kernel
theorem dX4_allHoles_12 : decode cX4_allHoles 12 = .ok (.iload_n 2, 1) := by decide +kernel
theorem dX4_allHoles_13 : decode cX4_allHoles 13 = .ok (.invokevirtual 139, 3) := by decide +kernel
theorem dX4_allHoles_16 : decode cX4_allHoles 16 = .ok (.iadd, 1) := by decide +kernel
theorem dX4_allHoles_17 : decode cX4_allHoles 17 = .ok (.istore_n 1, 1) := by decide +kernel
theorem dX4_allHoles_18 : decode cX4_allHoles 18 = .ok (.iinc 2 1, 3) := by decide +kernel
theorem dX4_allHoles_21 : decode cX4_allHoles 21 = .ok (.goto (-17), 3) := by decide +kernel
theorem dX4_allHoles_24 : decode cX4_allHoles 24 = .ok (.iload_n 1, 1) := by decide +kernel
theorem dX4_allHoles_25 : decode cX4_allHoles 25 = .ok (.ireturn, 1) := by decide +kernel
set_option maxRecDepth 20000 in
theorem ggX4_wholes_X4_many : GoodIn wsX4_wholes wsX4_many := goodIn_r _ [5, 6, 7, 8, 4, 9, 10, 27, 28, 29, 30, 31, 32, 33, 34, 35, 36, 37, 38] (by decide +kernel) (by decide +kernel)
set_option maxRecDepth 20000 in
theorem gX4_wholes_X4_many : GoodIn wsX4_wholes (wsV RX4 60 RX4 yX4_many wsX4_many) := goodIn_app (goodIn_of _ (by decide +kernel)) ggX4_wholes_X4_many
set_option maxRecDepth 20000 in
theorem ggX4_wholes_X4_allHoles : GoodIn wsX4_wholes wsX4_allHoles := goodIn_r _ [14, 15, 16, 17, 4, 18, 1, 2, 3, 5, 6, 7, 8, 9, 10, 19, 20, 21, 22, 23, 24, 25, 26, 27, 28, 29, 30, 31, 32, 33, 34, 35, 36, 37, 38] (by decide +kernel) (by decide +kernel)
set_option maxRecDepth 20000 in
theorem gX4_wholes_X4_allHoles : GoodIn wsX4_wholes (wsV RX4 148 RX4 yX4_allHoles wsX4_allHoles) := goodIn_app (goodIn_of _ (by decide +kernel)) ggX4_wholes_X4_allHoles
theorem dX4_wholes_0 : decode cX4_wholes 0 = .ok (.iconst 0, 1) := by decide +kernel
theorem dX4_wholes_1 : decode cX4_wholes 1 = .ok (.istore_n 1, 1) := by decide +kernel
theorem dX4_wholes_2 : decode cX4_wholes 2 = .ok (.iconst 0, 1) := by decide +kernel
theorem dX4_wholes_3 : decode cX4_wholes 3 = .ok (.istore_n 2, 1) := by decide +kernel
theorem dX4_wholes_4 : decode cX4_wholes 4 = .ok (.iload_n 2, 1) := by decide +kernel
theorem dX4_wholes_5 : decode cX4_wholes 5 = .ok (.bipush 6, 2) := by decide +kernel
theorem dX4_wholes_7 : decode cX4_wholes 7 = .ok (.if_icmp .ge 17, 3) := by decide +kernel
theorem dX4_wholes_10 : decode cX4_wholes 10 = .ok (.iload_n 1, 1) := by decide +kernel
theorem dX4_wholes_11 : decode cX4_wholes 11 = .ok (.aload_n 0, 1) := by decide +kernel
theorem dX4_wholes_12 : decode cX4_wholes 12 = .ok (.iload_n 2, 1) := by decide +kernel
theorem dX4_wholes_13 : decode cX4_wholes 13 = .ok (.invokevirtual 60, 3) := by decide +kernel
theorem dX4_wholes_16 : decode cX4_wholes 16 = .ok (.iadd, 1) := by decide +kernel
theorem dX4_wholes_17 : decode cX4_wholes 17 = .ok (.istore_n 1, 1) := by decide +kernel
theorem dX4_wholes_18 : decode cX4_wholes 18 = .ok (.iinc 2 1, 3) := by decide +kernel
theorem dX4_wholes_21 : decode cX4_wholes 21 = .ok (.goto (-17), 3) := by decide +kernel
theorem dX4_wholes_24 : decode cX4_wholes 24 = .ok (.iload_n 1, 1) := by decide +kernel
theorem dX4_wholes_25 : decode cX4_wholes 25 = .ok (.aload_n 0, 1) := by decide +kernel
theorem dX4_wholes_26 : decode cX4_wholes 26 = .ok (.invokevirtual 148, 3) := by decide +kernel
theorem dX4_wholes_29 : decode cX4_wholes 29 = .ok (.isub, 1) := by decide +kernel
theorem dX4_wholes_30 : decode cX4_wholes 30 = .ok (.ireturn, 1) := by decide +kernel
set_option maxRecDepth 20000 in
theorem ggX4_count_X4_wholes : GoodIn wsX4_count wsX4_wholes := goodIn_r _ [8, 9, 10, 11, 7, 12, 13, 14, 15, 16, 1, 17, 18, 19, 20, 21, 22, 23, 24, 25, 26, 27, 28, 29, 30, 31, 32, 49, 50, 51, 52, 53, 54, 55, 56, 57, 58, 59, 60] (by decide +kernel) (by decide +kernel)
set_option maxRecDepth 20000 in
theorem gX4_count_X4_wholes : GoodIn wsX4_count (wsV RX4 53 RX4 yX4_wholes wsX4_wholes) := goodIn_app (goodIn_of _ (by decide +kernel)) ggX4_count_X4_wholes
set_option maxRecDepth 20000 in
theorem ggX4_count_X4_allHoles : GoodIn wsX4_count wsX4_allHoles := goodIn_r _ [20, 21, 22, 23, 7, 24, 9, 10, 11, 12, 13, 14, 15, 16, 1, 25, 26, 27, 28, 29, 30, 31, 32, 49, 50, 51, 52, 53, 54, 55, 56, 57, 58, 59, 60] (by decide +kernel) (by decide +kernel)
set_option maxRecDepth 20000 in
theorem gX4_count_X4_allHoles : GoodIn wsX4_count (wsV RX4 148 RX4 yX4_allHoles wsX4_allHoles) := goodIn_app (goodIn_of _ (by decide +kernel)) ggX4_count_X4_allHoles
set_option maxRecDepth 20000 in
theorem ggX4_count_X4_madeMany : GoodIn wsX4_count wsX4_madeMany := goodIn_r _ [36, 37, 38, 39, 7, 40, 13, 14, 15, 16, 1, 41, 42, 43, 44, 45, 46, 47, 48, 9, 10, 11, 12, 29, 30, 31, 32, 25, 26, 27, 28, 49, 50, 51, 52, 53, 54, 55, 56, 57, 58, 59, 60] (by decide +kernel) (by decide +kernel)
set_option maxRecDepth 20000 in
theorem gX4_count_X4_madeMany : GoodIn wsX4_count (wsV RX4 130 RX4 yX4_madeMany wsX4_madeMany) := goodIn_app (goodIn_of _ (by decide +kernel)) ggX4_count_X4_madeMany
theorem dX4_count_0 : decode cX4_count 0 = .ok (.iload_n 1, 1) := by decide +kernel
theorem dX4_count_1 : decode cX4_count 1 = .ok (.tableswitch 115 0 9 #[55, 62, 69, 76, 81, 86, 93, 100, 105, 110], 55) := by decide +kernel
theorem dX4_count_56 : decode cX4_count 56 = .ok (.aload_n 0, 1) := by decide +kernel
theorem dX4_count_57 : decode cX4_count 57 = .ok (.getfield 7, 3) := by decide +kernel
theorem dX4_count_60 : decode cX4_count 60 = .ok (.iconst 0, 1) := by decide +kernel
theorem dX4_count_61 : decode cX4_count 61 = .ok (.iaload, 1) := by decide +kernel
theorem dX4_count_62 : decode cX4_count 62 = .ok (.ireturn, 1) := by decide +kernel
theorem dX4_count_63 : decode cX4_count 63 = .ok (.aload_n 0, 1) := by decide +kernel
theorem dX4_count_64 : decode cX4_count 64 = .ok (.getfield 7, 3) := by decide +kernel
theorem dX4_count_67 : decode cX4_count 67 = .ok (.iconst 1, 1) := by decide +kernel
theorem dX4_count_68 : decode cX4_count 68 = .ok (.iaload, 1) := by decide +kernel
theorem dX4_count_69 : decode cX4_count 69 = .ok (.ireturn, 1) := by decide +kernel
theorem dX4_count_70 : decode cX4_count 70 = .ok (.aload_n 0, 1) := by decide +kernel
theorem dX4_count_71 : decode cX4_count 71 = .ok (.getfield 7, 3) := by decide +kernel
theorem dX4_count_74 : decode cX4_count 74 = .ok (.iconst 3, 1) := by decide +kernel
theorem dX4_count_75 : decode cX4_count 75 = .ok (.iaload, 1) := by decide +kernel
theorem dX4_count_76 : decode cX4_count 76 = .ok (.ireturn, 1) := by decide +kernel
theorem dX4_count_77 : decode cX4_count 77 = .ok (.aload_n 0, 1) := by decide +kernel
theorem dX4_count_78 : decode cX4_count 78 = .ok (.invokevirtual 53, 3) := by decide +kernel
theorem dX4_count_81 : decode cX4_count 81 = .ok (.ireturn, 1) := by decide +kernel
theorem dX4_count_82 : decode cX4_count 82 = .ok (.aload_n 0, 1) := by decide +kernel
theorem dX4_count_83 : decode cX4_count 83 = .ok (.invokevirtual 148, 3) := by decide +kernel
theorem dX4_count_86 : decode cX4_count 86 = .ok (.ireturn, 1) := by decide +kernel
theorem dX4_count_87 : decode cX4_count 87 = .ok (.aload_n 0, 1) := by decide +kernel
theorem dX4_count_88 : decode cX4_count 88 = .ok (.getfield 7, 3) := by decide +kernel
theorem dX4_count_91 : decode cX4_count 91 = .ok (.iconst 4, 1) := by decide +kernel
theorem dX4_count_92 : decode cX4_count 92 = .ok (.iaload, 1) := by decide +kernel
theorem dX4_count_93 : decode cX4_count 93 = .ok (.ireturn, 1) := by decide +kernel
theorem dX4_count_94 : decode cX4_count 94 = .ok (.aload_n 0, 1) := by decide +kernel
theorem dX4_count_95 : decode cX4_count 95 = .ok (.getfield 7, 3) := by decide +kernel
theorem dX4_count_98 : decode cX4_count 98 = .ok (.iconst 5, 1) := by decide +kernel
theorem dX4_count_99 : decode cX4_count 99 = .ok (.iaload, 1) := by decide +kernel
theorem dX4_count_100 : decode cX4_count 100 = .ok (.ireturn, 1) := by decide +kernel
theorem dX4_count_101 : decode cX4_count 101 = .ok (.aload_n 0, 1) := by decide +kernel
theorem dX4_count_102 : decode cX4_count 102 = .ok (.invokevirtual 130, 3) := by decide +kernel
theorem dX4_count_105 : decode cX4_count 105 = .ok (.ireturn, 1) := by decide +kernel
theorem dX4_count_106 : decode cX4_count 106 = .ok (.aload_n 0, 1) := by decide +kernel
theorem dX4_count_107 : decode cX4_count 107 = .ok (.getfield 151, 3) := by decide +kernel
theorem dX4_count_110 : decode cX4_count 110 = .ok (.ireturn, 1) := by decide +kernel
theorem dX4_count_111 : decode cX4_count 111 = .ok (.aload_n 0, 1) := by decide +kernel
theorem dX4_count_112 : decode cX4_count 112 = .ok (.getfield 49, 3) := by decide +kernel
theorem dX4_count_115 : decode cX4_count 115 = .ok (.ireturn, 1) := by decide +kernel
theorem dX4_count_116 : decode cX4_count 116 = .ok (.bipush (-2), 2) := by decide +kernel
theorem dX4_count_118 : decode cX4_count 118 = .ok (.ireturn, 1) := by decide +kernel
set_option maxRecDepth 20000 in
theorem ggX4_isNewestMade_X4_runs : GoodIn wsX4_isNewestMade wsX4_runs := goodIn_r _ [5, 6, 23, 24, 25, 26, 27, 28, 29, 30, 31, 32, 33, 34] (by decide +kernel) (by decide +kernel)
set_option maxRecDepth 20000 in
theorem gX4_isNewestMade_X4_runs : GoodIn wsX4_isNewestMade (wsV RX4 79 RX4 yX4_runs wsX4_runs) := goodIn_app (goodIn_of _ (by decide +kernel)) ggX4_isNewestMade_X4_runs
set_option maxRecDepth 20000 in
theorem ggX4_isNewestMade_X4_of : GoodIn wsX4_isNewestMade wsX4_of := goodIn_r _ [10, 6, 23, 24, 25, 26, 27, 28, 29, 30, 31, 32, 33, 34] (by decide +kernel) (by decide +kernel)
set_option maxRecDepth 20000 in
theorem gX4_isNewestMade_X4_of : GoodIn wsX4_isNewestMade (wsV RX4 37 RX4 yX4_of wsX4_of) := goodIn_app (goodIn_of _ (by decide +kernel)) ggX4_isNewestMade_X4_of
set_option maxRecDepth 20000 in
theorem ggX4_isNewestMade_X4_placeOf : GoodIn wsX4_isNewestMade wsX4_placeOf := goodIn_r _ [14, 15, 16, 17, 4, 18, 7, 8, 9, 10, 6, 19, 20, 21, 22, 23, 24, 25, 26, 27, 28, 29, 30, 31, 32, 33, 34] (by decide +kernel) (by decide +kernel)
set_option maxRecDepth 20000 in
theorem gX4_isNewestMade_X4_placeOf : GoodIn wsX4_isNewestMade (wsV RX4 89 RX4 yX4_placeOf wsX4_placeOf) := goodIn_app (goodIn_of _ (by decide +kernel)) ggX4_isNewestMade_X4_placeOf
theorem dX4_isNewestMade_0 : decode cX4_isNewestMade 0 = .ok (.aload_n 0, 1) := by decide +kernel
theorem dX4_isNewestMade_1 : decode cX4_isNewestMade 1 = .ok (.invokevirtual 79, 3) := by decide +kernel
theorem dX4_isNewestMade_4 : decode cX4_isNewestMade 4 = .ok (.ifCond .eq 30, 3) := by decide +kernel
theorem dX4_isNewestMade_7 : decode cX4_isNewestMade 7 = .ok (.aload_n 0, 1) := by decide +kernel
theorem dX4_isNewestMade_8 : decode cX4_isNewestMade 8 = .ok (.iload_n 1, 1) := by decide +kernel
theorem dX4_isNewestMade_9 : decode cX4_isNewestMade 9 = .ok (.iconst 5, 1) := by decide +kernel
theorem dX4_isNewestMade_10 : decode cX4_isNewestMade 10 = .ok (.invokevirtual 37, 3) := by decide +kernel
theorem dX4_isNewestMade_13 : decode cX4_isNewestMade 13 = .ok (.ifCond .eq 21, 3) := by decide +kernel
theorem dX4_isNewestMade_16 : decode cX4_isNewestMade 16 = .ok (.aload_n 0, 1) := by decide +kernel
theorem dX4_isNewestMade_17 : decode cX4_isNewestMade 17 = .ok (.iload_n 1, 1) := by decide +kernel
theorem dX4_isNewestMade_18 : decode cX4_isNewestMade 18 = .ok (.aload_n 0, 1) := by decide +kernel
theorem dX4_isNewestMade_19 : decode cX4_isNewestMade 19 = .ok (.iload_n 1, 1) := by decide +kernel
theorem dX4_isNewestMade_20 : decode cX4_isNewestMade 20 = .ok (.iconst 5, 1) := by decide +kernel
theorem dX4_isNewestMade_21 : decode cX4_isNewestMade 21 = .ok (.invokevirtual 37, 3) := by decide +kernel
theorem dX4_isNewestMade_24 : decode cX4_isNewestMade 24 = .ok (.invokevirtual 89, 3) := by decide +kernel
theorem dX4_isNewestMade_27 : decode cX4_isNewestMade 27 = .ok (.ifCond .ne 7, 3) := by decide +kernel
theorem dX4_isNewestMade_30 : decode cX4_isNewestMade 30 = .ok (.iconst 1, 1) := by decide +kernel
theorem dX4_isNewestMade_31 : decode cX4_isNewestMade 31 = .ok (.goto 4, 3) := by decide +kernel
theorem dX4_isNewestMade_34 : decode cX4_isNewestMade 34 = .ok (.iconst 0, 1) := by decide +kernel
theorem dX4_isNewestMade_35 : decode cX4_isNewestMade 35 = .ok (.ireturn, 1) := by decide +kernel
set_option maxRecDepth 20000 in
theorem ggX4_groups_X4_in : GoodIn wsX4_groups wsX4_in := goodIn_r _ [4] (by decide +kernel) (by decide +kernel)
set_option maxRecDepth 20000 in
theorem gX4_groups_X4_in : GoodIn wsX4_groups (va_wsS RX4 33 yX4_in wsX4_in) := goodIn_app (goodIn_of _ (by decide +kernel)) ggX4_groups_X4_in
set_option maxRecDepth 20000 in
theorem ggX4_groups_X4_holes : GoodIn wsX4_groups wsX4_holes := goodIn_r _ [8, 9, 10, 11, 3, 12, 13, 14, 15, 16, 17, 18, 19, 20, 21, 22, 23, 24, 25, 46, 47, 48, 49, 50, 51, 52, 53, 54, 55, 56, 57] (by decide +kernel) (by decide +kernel)
set_option maxRecDepth 20000 in
theorem gX4_groups_X4_holes : GoodIn wsX4_groups (wsV RX4 139 RX4 yX4_holes wsX4_holes) := goodIn_app (goodIn_of _ (by decide +kernel)) ggX4_groups_X4_holes
set_option maxRecDepth 20000 in
theorem ggX4_groups_X4_isNewestMade : GoodIn wsX4_groups wsX4_isNewestMade := goodIn_r _ [29, 30, 31, 32, 3, 33, 17, 13, 14, 15, 16, 34, 35, 36, 37, 9, 10, 11, 12, 22, 23, 24, 25, 46, 47, 48, 49, 50, 51, 52, 53, 54, 55, 56, 57] (by decide +kernel) (by decide +kernel)
set_option maxRecDepth 20000 in
theorem gX4_groups_X4_isNewestMade : GoodIn wsX4_groups (wsV RX4 154 RX4 yX4_isNewestMade wsX4_isNewestMade) := goodIn_app (goodIn_of _ (by decide +kernel)) ggX4_groups_X4_isNewestMade
set_option maxRecDepth 20000 in
theorem ggX4_groups_X4_told : GoodIn wsX4_groups wsX4_told := goodIn_r _ [41, 30, 31, 32, 3, 33, 17, 42, 43, 44, 45, 13, 14, 15, 16, 34, 35, 36, 37, 9, 10, 11, 12, 22, 23, 24, 25, 18, 19, 20, 21, 46, 47, 48, 49, 50, 51, 52, 53, 54, 55, 56, 57] (by decide +kernel) (by decide +kernel)
set_option maxRecDepth 20000 in
theorem gX4_groups_X4_told : GoodIn wsX4_groups (wsV RX4 96 RX4 yX4_told wsX4_told) := goodIn_app (goodIn_of _ (by decide +kernel)) ggX4_groups_X4_told
theorem dX4_groups_0 : decode cX4_groups 0 = .ok (.iload_n 1, 1) := by decide +kernel
theorem dX4_groups_1 : decode cX4_groups 1 = .ok (.iconst 0, 1) := by decide +kernel
theorem dX4_groups_2 : decode cX4_groups 2 = .ok (.iconst 2, 1) := by decide +kernel
theorem dX4_groups_3 : decode cX4_groups 3 = .ok (.invokestatic 33, 3) := by decide +kernel
theorem dX4_groups_6 : decode cX4_groups 6 = .ok (.ifCond .ne 6, 3) := by decide +kernel
theorem dX4_groups_9 : decode cX4_groups 9 = .ok (.bipush (-2), 2) := by decide +kernel
theorem dX4_groups_11 : decode cX4_groups 11 = .ok (.ireturn, 1) := by decide +kernel
theorem dX4_groups_12 : decode cX4_groups 12 = .ok (.iconst 0, 1) := by decide +kernel
theorem dX4_groups_13 : decode cX4_groups 13 = .ok (.istore_n 2, 1) := by decide +kernel
theorem dX4_groups_14 : decode cX4_groups 14 = .ok (.iconst 0, 1) := by decide +kernel
theorem dX4_groups_15 : decode cX4_groups 15 = .ok (.istore_n 3, 1) := by decide +kernel
theorem dX4_groups_16 : decode cX4_groups 16 = .ok (.iload_n 3, 1) := by decide +kernel
theorem dX4_groups_17 : decode cX4_groups 17 = .ok (.bipush 6, 2) := by decide +kernel
theorem dX4_groups_19 : decode cX4_groups 19 = .ok (.if_icmp .ge 75, 3) := by decide +kernel
theorem dX4_groups_22 : decode cX4_groups 22 = .ok (.iload_n 1, 1) := by decide +kernel
theorem dX4_groups_23 : decode cX4_groups 23 = .ok (.ifCond .ne 19, 3) := by decide +kernel
theorem dX4_groups_26 : decode cX4_groups 26 = .ok (.aload_n 0, 1) := by decide +kernel
theorem dX4_groups_27 : decode cX4_groups 27 = .ok (.iload_n 3, 1) := by decide +kernel
theorem dX4_groups_28 : decode cX4_groups 28 = .ok (.invokevirtual 139, 3) := by decide +kernel
theorem dX4_groups_31 : decode cX4_groups 31 = .ok (.ifCond .le 7, 3) := by decide +kernel
theorem dX4_groups_34 : decode cX4_groups 34 = .ok (.iconst 1, 1) := by decide +kernel
theorem dX4_groups_35 : decode cX4_groups 35 = .ok (.goto 36, 3) := by decide +kernel
theorem dX4_groups_38 : decode cX4_groups 38 = .ok (.iconst 0, 1) := by decide +kernel
theorem dX4_groups_39 : decode cX4_groups 39 = .ok (.goto 32, 3) := by decide +kernel
theorem dX4_groups_42 : decode cX4_groups 42 = .ok (.iload_n 1, 1) := by decide +kernel
theorem dX4_groups_43 : decode cX4_groups 43 = .ok (.iconst 1, 1) := by decide +kernel
theorem dX4_groups_44 : decode cX4_groups 44 = .ok (.if_icmp .ne 11, 3) := by decide +kernel
theorem dX4_groups_47 : decode cX4_groups 47 = .ok (.aload_n 0, 1) := by decide +kernel
theorem dX4_groups_48 : decode cX4_groups 48 = .ok (.iload_n 3, 1) := by decide +kernel
theorem dX4_groups_49 : decode cX4_groups 49 = .ok (.invokevirtual 154, 3) := by decide +kernel
theorem dX4_groups_52 : decode cX4_groups 52 = .ok (.goto 19, 3) := by decide +kernel
theorem dX4_groups_55 : decode cX4_groups 55 = .ok (.aload_n 0, 1) := by decide +kernel
theorem dX4_groups_56 : decode cX4_groups 56 = .ok (.iload_n 3, 1) := by decide +kernel
theorem dX4_groups_57 : decode cX4_groups 57 = .ok (.iconst 0, 1) := by decide +kernel
theorem dX4_groups_58 : decode cX4_groups 58 = .ok (.invokevirtual 96, 3) := by decide +kernel
theorem dX4_groups_61 : decode cX4_groups 61 = .ok (.bipush (-6), 2) := by decide +kernel
theorem dX4_groups_63 : decode cX4_groups 63 = .ok (.if_icmp .ne 7, 3) := by decide +kernel
theorem dX4_groups_66 : decode cX4_groups 66 = .ok (.iconst 1, 1) := by decide +kernel
theorem dX4_groups_67 : decode cX4_groups 67 = .ok (.goto 4, 3) := by decide +kernel
theorem dX4_groups_70 : decode cX4_groups 70 = .ok (.iconst 0, 1) := by decide +kernel
theorem dX4_groups_71 : decode cX4_groups 71 = .ok (.istore 4, 2) := by decide +kernel
theorem dX4_groups_73 : decode cX4_groups 73 = .ok (.iload_n 2, 1) := by decide +kernel
theorem dX4_groups_74 : decode cX4_groups 74 = .ok (.iload 4, 2) := by decide +kernel
theorem dX4_groups_76 : decode cX4_groups 76 = .ok (.ifCond .eq 9, 3) := by decide +kernel
theorem dX4_groups_79 : decode cX4_groups 79 = .ok (.iconst 1, 1) := by decide +kernel
theorem dX4_groups_80 : decode cX4_groups 80 = .ok (.iload_n 3, 1) := by decide +kernel
theorem dX4_groups_81 : decode cX4_groups 81 = .ok (.ishl, 1) := by decide +kernel
theorem dX4_groups_82 : decode cX4_groups 82 = .ok (.goto 4, 3) := by decide +kernel
theorem dX4_groups_85 : decode cX4_groups 85 = .ok (.iconst 0, 1) := by decide +kernel
theorem dX4_groups_86 : decode cX4_groups 86 = .ok (.ior, 1) := by decide +kernel
theorem dX4_groups_87 : decode cX4_groups 87 = .ok (.istore_n 2, 1) := by decide +kernel
theorem dX4_groups_88 : decode cX4_groups 88 = .ok (.iinc 3 1, 3) := by decide +kernel
theorem dX4_groups_91 : decode cX4_groups 91 = .ok (.goto (-75), 3) := by decide +kernel
theorem dX4_groups_94 : decode cX4_groups 94 = .ok (.iload_n 2, 1) := by decide +kernel
theorem dX4_groups_95 : decode cX4_groups 95 = .ok (.ireturn, 1) := by decide +kernel
set_option maxRecDepth 20000 in
theorem ggX4_rolls_X4_isGroup : GoodIn wsX4_rolls wsX4_isGroup := goodIn_r _ [4, 5, 6, 3, 7] (by decide +kernel) (by decide +kernel)
set_option maxRecDepth 20000 in
theorem gX4_rolls_X4_isGroup : GoodIn wsX4_rolls (va_wsS RX4 92 yX4_isGroup wsX4_isGroup) := goodIn_app (goodIn_of _ (by decide +kernel)) ggX4_rolls_X4_isGroup
set_option maxRecDepth 20000 in
theorem ggX4_rolls_X4_many : GoodIn wsX4_rolls wsX4_many := goodIn_r _ [11, 12, 13, 14, 3, 15, 16, 21, 22, 23, 24, 25, 26, 27, 28, 29, 30, 31, 32] (by decide +kernel) (by decide +kernel)
set_option maxRecDepth 20000 in
theorem gX4_rolls_X4_many : GoodIn wsX4_rolls (wsV RX4 60 RX4 yX4_many wsX4_many) := goodIn_app (goodIn_of _ (by decide +kernel)) ggX4_rolls_X4_many
set_option maxRecDepth 20000 in
theorem ggX4_rolls_X4_of : GoodIn wsX4_rolls wsX4_of := goodIn_r _ [15, 16, 21, 22, 23, 24, 25, 26, 27, 28, 29, 30, 31, 32] (by decide +kernel) (by decide +kernel)
set_option maxRecDepth 20000 in
theorem gX4_rolls_X4_of : GoodIn wsX4_rolls (wsV RX4 37 RX4 yX4_of wsX4_of) := goodIn_app (goodIn_of _ (by decide +kernel)) ggX4_rolls_X4_of
set_option maxRecDepth 20000 in
theorem ggX4_rolls_X4_gen : GoodIn wsX4_rolls wsX4_gen := goodIn_r _ [20, 12, 13, 14, 3, 15, 16, 21, 22, 23, 24, 25, 26, 27, 28, 29, 30, 31, 32] (by decide +kernel) (by decide +kernel)
set_option maxRecDepth 20000 in
theorem gX4_rolls_X4_gen : GoodIn wsX4_rolls (wsV RX4 45 RX4 yX4_gen wsX4_gen) := goodIn_app (goodIn_of _ (by decide +kernel)) ggX4_rolls_X4_gen
theorem dX4_rolls_0 : decode cX4_rolls 0 = .ok (.iload_n 1, 1) := by decide +kernel
theorem dX4_rolls_1 : decode cX4_rolls 1 = .ok (.invokestatic 92, 3) := by decide +kernel
theorem dX4_rolls_4 : decode cX4_rolls 4 = .ok (.ifCond .ne 5, 3) := by decide +kernel
theorem dX4_rolls_7 : decode cX4_rolls 7 = .ok (.iconst (-1), 1) := by decide +kernel
theorem dX4_rolls_8 : decode cX4_rolls 8 = .ok (.ireturn, 1) := by decide +kernel
theorem dX4_rolls_9 : decode cX4_rolls 9 = .ok (.aload_n 0, 1) := by decide +kernel
theorem dX4_rolls_10 : decode cX4_rolls 10 = .ok (.iload_n 1, 1) := by decide +kernel
theorem dX4_rolls_11 : decode cX4_rolls 11 = .ok (.invokevirtual 60, 3) := by decide +kernel
theorem dX4_rolls_14 : decode cX4_rolls 14 = .ok (.aload_n 0, 1) := by decide +kernel
theorem dX4_rolls_15 : decode cX4_rolls 15 = .ok (.iload_n 1, 1) := by decide +kernel
theorem dX4_rolls_16 : decode cX4_rolls 16 = .ok (.iconst 0, 1) := by decide +kernel
theorem dX4_rolls_17 : decode cX4_rolls 17 = .ok (.invokevirtual 37, 3) := by decide +kernel
theorem dX4_rolls_20 : decode cX4_rolls 20 = .ok (.if_icmp .ge 8, 3) := by decide +kernel
theorem dX4_rolls_23 : decode cX4_rolls 23 = .ok (.bipush (-6), 2) := by decide +kernel
theorem dX4_rolls_25 : decode cX4_rolls 25 = .ok (.goto 16, 3) := by decide +kernel
theorem dX4_rolls_28 : decode cX4_rolls 28 = .ok (.aload_n 0, 1) := by decide +kernel
theorem dX4_rolls_29 : decode cX4_rolls 29 = .ok (.iload_n 1, 1) := by decide +kernel
theorem dX4_rolls_30 : decode cX4_rolls 30 = .ok (.aload_n 0, 1) := by decide +kernel
theorem dX4_rolls_31 : decode cX4_rolls 31 = .ok (.iload_n 1, 1) := by decide +kernel
theorem dX4_rolls_32 : decode cX4_rolls 32 = .ok (.invokevirtual 60, 3) := by decide +kernel
theorem dX4_rolls_35 : decode cX4_rolls 35 = .ok (.iconst 1, 1) := by decide +kernel
theorem dX4_rolls_36 : decode cX4_rolls 36 = .ok (.isub, 1) := by decide +kernel
theorem dX4_rolls_37 : decode cX4_rolls 37 = .ok (.iconst 1, 1) := by decide +kernel
theorem dX4_rolls_38 : decode cX4_rolls 38 = .ok (.invokevirtual 45, 3) := by decide +kernel
theorem dX4_rolls_41 : decode cX4_rolls 41 = .ok (.ireturn, 1) := by decide +kernel
theorem dX4_putAside_0 : decode cX4_putAside 0 = .ok (.iconst 0, 1) := by decide +kernel
theorem dX4_putAside_1 : decode cX4_putAside 1 = .ok (.istore_n 1, 1) := by decide +kernel
theorem dX4_putAside_2 : decode cX4_putAside 2 = .ok (.iload_n 1, 1) := by decide +kernel
theorem dX4_putAside_3 : decode cX4_putAside 3 = .ok (.sipush 367, 3) := by decide +kernel
theorem dX4_putAside_6 : decode cX4_putAside 6 = .ok (.if_icmp .ge 21, 3) := by decide +kernel
theorem dX4_putAside_9 : decode cX4_putAside 9 = .ok (.aload_n 0, 1) := by decide +kernel
theorem dX4_putAside_10 : decode cX4_putAside 10 = .ok (.getfield 23, 3) := by decide +kernel
theorem dX4_putAside_13 : decode cX4_putAside 13 = .ok (.iload_n 1, 1) := by decide +kernel
theorem dX4_putAside_14 : decode cX4_putAside 14 = .ok (.aload_n 0, 1) := by decide +kernel
theorem dX4_putAside_15 : decode cX4_putAside 15 = .ok (.getfield 7, 3) := by decide +kernel
theorem dX4_putAside_18 : decode cX4_putAside 18 = .ok (.iload_n 1, 1) := by decide +kernel
theorem dX4_putAside_19 : decode cX4_putAside 19 = .ok (.iaload, 1) := by decide +kernel
theorem dX4_putAside_20 : decode cX4_putAside 20 = .ok (.iastore, 1) := by decide +kernel
theorem dX4_putAside_21 : decode cX4_putAside 21 = .ok (.iinc 1 1, 3) := by decide +kernel
theorem dX4_putAside_24 : decode cX4_putAside 24 = .ok (.goto (-22), 3) := by decide +kernel
theorem dX4_putAside_27 : decode cX4_putAside 27 = .ok (.return_, 1) := by decide +kernel
theorem dX4_bringBack_0 : decode cX4_bringBack 0 = .ok (.iconst 0, 1) := by decide +kernel
theorem dX4_bringBack_1 : decode cX4_bringBack 1 = .ok (.istore_n 1, 1) := by decide +kernel
theorem dX4_bringBack_2 : decode cX4_bringBack 2 = .ok (.iload_n 1, 1) := by decide +kernel
theorem dX4_bringBack_3 : decode cX4_bringBack 3 = .ok (.sipush 367, 3) := by decide +kernel
theorem dX4_bringBack_6 : decode cX4_bringBack 6 = .ok (.if_icmp .ge 21, 3) := by decide +kernel
theorem dX4_bringBack_9 : decode cX4_bringBack 9 = .ok (.aload_n 0, 1) := by decide +kernel
theorem dX4_bringBack_10 : decode cX4_bringBack 10 = .ok (.getfield 7, 3) := by decide +kernel
theorem dX4_bringBack_13 : decode cX4_bringBack 13 = .ok (.iload_n 1, 1) := by decide +kernel
theorem dX4_bringBack_14 : decode cX4_bringBack 14 = .ok (.aload_n 0, 1) := by decide +kernel
theorem dX4_bringBack_15 : decode cX4_bringBack 15 = .ok (.getfield 23, 3) := by decide +kernel
theorem dX4_bringBack_18 : decode cX4_bringBack 18 = .ok (.iload_n 1, 1) := by decide +kernel
theorem dX4_bringBack_19 : decode cX4_bringBack 19 = .ok (.iaload, 1) := by decide +kernel
theorem dX4_bringBack_20 : decode cX4_bringBack 20 = .ok (.iastore, 1) := by decide +kernel
theorem dX4_bringBack_21 : decode cX4_bringBack 21 = .ok (.iinc 1 1, 3) := by decide +kernel
theorem dX4_bringBack_24 : decode cX4_bringBack 24 = .ok (.goto (-22), 3) := by decide +kernel
theorem dX4_bringBack_27 : decode cX4_bringBack 27 = .ok (.return_, 1) := by decide +kernel
set_option maxRecDepth 20000 in
theorem ggX4_ifFailed_X4_isGroup : GoodIn wsX4_ifFailed wsX4_isGroup := goodIn_r _ [4, 5, 6, 3, 7] (by decide +kernel) (by decide +kernel)
set_option maxRecDepth 20000 in
theorem gX4_ifFailed_X4_isGroup : GoodIn wsX4_ifFailed (va_wsS RX4 92 yX4_isGroup wsX4_isGroup) := goodIn_app (goodIn_of _ (by decide +kernel)) ggX4_ifFailed_X4_isGroup
set_option maxRecDepth 20000 in
theorem ggX4_ifFailed_X4_putAside : GoodIn wsX4_ifFailed wsX4_putAside := goodIn_r _ [11, 12, 13, 78, 79, 80, 81, 82, 83, 84, 85, 86, 87, 88, 89] (by decide +kernel) (by decide +kernel)
set_option maxRecDepth 20000 in
theorem gX4_ifFailed_X4_putAside : GoodIn wsX4_ifFailed (wsV RX4 157 RX4 yX4_putAside wsX4_putAside) := goodIn_app (goodIn_of _ (by decide +kernel)) ggX4_ifFailed_X4_putAside
set_option maxRecDepth 20000 in
theorem ggX4_ifFailed_X4_runs : GoodIn wsX4_ifFailed wsX4_runs := goodIn_r _ [17, 13, 78, 79, 80, 81, 82, 83, 84, 85, 86, 87, 88, 89] (by decide +kernel) (by decide +kernel)
set_option maxRecDepth 20000 in
theorem gX4_ifFailed_X4_runs : GoodIn wsX4_ifFailed (wsV RX4 79 RX4 yX4_runs wsX4_runs) := goodIn_app (goodIn_of _ (by decide +kernel)) ggX4_ifFailed_X4_runs
set_option maxRecDepth 20000 in
theorem ggX4_ifFailed_X4_endIt : GoodIn wsX4_ifFailed wsX4_endIt := goodIn_r _ [21, 13, 22, 23, 24, 3, 25, 26, 27, 28, 29, 14, 15, 16, 17, 30, 31, 32, 33, 34, 35, 36, 37, 38, 39, 40, 41, 42, 43, 44, 45, 46, 47, 48, 49, 50, 51, 52, 53, 54, 55, 56, 57, 58, 59, 60, 61, 62, 63, 64, 65, 78, 79, 80, 81, 82, 83, 84, 85, 86, 87, 88, 89] (by decide +kernel) (by decide +kernel)
set_option maxRecDepth 20000 in
theorem gX4_ifFailed_X4_endIt : GoodIn wsX4_ifFailed (wsV RX4 133 RX4 yX4_endIt wsX4_endIt) := goodIn_app (goodIn_of _ (by decide +kernel)) ggX4_ifFailed_X4_endIt
set_option maxRecDepth 20000 in
theorem ggX4_ifFailed_X4_told : GoodIn wsX4_ifFailed wsX4_told := goodIn_r _ [69, 14, 15, 16, 3, 17, 13, 70, 71, 72, 73, 26, 27, 28, 29, 30, 31, 32, 33, 34, 35, 36, 37, 38, 39, 40, 41, 42, 43, 44, 45, 78, 79, 80, 81, 82, 83, 84, 85, 86, 87, 88, 89] (by decide +kernel) (by decide +kernel)
set_option maxRecDepth 20000 in
theorem gX4_ifFailed_X4_told : GoodIn wsX4_ifFailed (wsV RX4 96 RX4 yX4_told wsX4_told) := goodIn_app (goodIn_of _ (by decide +kernel)) ggX4_ifFailed_X4_told
set_option maxRecDepth 20000 in
theorem ggX4_ifFailed_X4_gen : GoodIn wsX4_ifFailed wsX4_gen := goodIn_r _ [41, 26, 27, 28, 3, 29, 13, 78, 79, 80, 81, 82, 83, 84, 85, 86, 87, 88, 89] (by decide +kernel) (by decide +kernel)
set_option maxRecDepth 20000 in
theorem gX4_ifFailed_X4_gen : GoodIn wsX4_ifFailed (wsV RX4 45 RX4 yX4_gen wsX4_gen) := goodIn_app (goodIn_of _ (by decide +kernel)) ggX4_ifFailed_X4_gen
set_option maxRecDepth 20000 in
theorem ggX4_ifFailed_X4_bringBack : GoodIn wsX4_ifFailed wsX4_bringBack := goodIn_r _ [77, 13, 12, 78, 79, 80, 81, 82, 83, 84, 85, 86, 87, 88, 89] (by decide +kernel) (by decide +kernel)
set_option maxRecDepth 20000 in
theorem gX4_ifFailed_X4_bringBack : GoodIn wsX4_ifFailed (wsV RX4 160 RX4 yX4_bringBack wsX4_bringBack) := goodIn_app (goodIn_of _ (by decide +kernel)) ggX4_ifFailed_X4_bringBack
theorem dX4_ifFailed_0 : decode cX4_ifFailed 0 = .ok (.iload_n 1, 1) := by decide +kernel
theorem dX4_ifFailed_1 : decode cX4_ifFailed 1 = .ok (.invokestatic 92, 3) := by decide +kernel
theorem dX4_ifFailed_4 : decode cX4_ifFailed 4 = .ok (.ifCond .ne 5, 3) := by decide +kernel
theorem dX4_ifFailed_7 : decode cX4_ifFailed 7 = .ok (.iconst (-1), 1) := by decide +kernel
theorem dX4_ifFailed_8 : decode cX4_ifFailed 8 = .ok (.ireturn, 1) := by decide +kernel
theorem dX4_ifFailed_9 : decode cX4_ifFailed 9 = .ok (.aload_n 0, 1) := by decide +kernel
theorem dX4_ifFailed_10 : decode cX4_ifFailed 10 = .ok (.invokevirtual 157, 3) := by decide +kernel
theorem dX4_ifFailed_13 : decode cX4_ifFailed 13 = .ok (.aload_n 0, 1) := by decide +kernel
theorem dX4_ifFailed_14 : decode cX4_ifFailed 14 = .ok (.invokevirtual 79, 3) := by decide +kernel
theorem dX4_ifFailed_17 : decode cX4_ifFailed 17 = .ok (.ifCond .eq 9, 3) := by decide +kernel
theorem dX4_ifFailed_20 : decode cX4_ifFailed 20 = .ok (.aload_n 0, 1) := by decide +kernel
theorem dX4_ifFailed_21 : decode cX4_ifFailed 21 = .ok (.iconst 0, 1) := by decide +kernel
theorem dX4_ifFailed_22 : decode cX4_ifFailed 22 = .ok (.invokevirtual 133, 3) := by decide +kernel
theorem dX4_ifFailed_25 : decode cX4_ifFailed 25 = .ok (.pop, 1) := by decide +kernel
theorem dX4_ifFailed_26 : decode cX4_ifFailed 26 = .ok (.aload_n 0, 1) := by decide +kernel
theorem dX4_ifFailed_27 : decode cX4_ifFailed 27 = .ok (.iload_n 1, 1) := by decide +kernel
theorem dX4_ifFailed_28 : decode cX4_ifFailed 28 = .ok (.iconst 0, 1) := by decide +kernel
theorem dX4_ifFailed_29 : decode cX4_ifFailed 29 = .ok (.invokevirtual 96, 3) := by decide +kernel
theorem dX4_ifFailed_32 : decode cX4_ifFailed 32 = .ok (.istore_n 2, 1) := by decide +kernel
theorem dX4_ifFailed_33 : decode cX4_ifFailed 33 = .ok (.iload_n 2, 1) := by decide +kernel
theorem dX4_ifFailed_34 : decode cX4_ifFailed 34 = .ok (.bipush (-6), 2) := by decide +kernel
theorem dX4_ifFailed_36 : decode cX4_ifFailed 36 = .ok (.if_icmp .ne 8, 3) := by decide +kernel
theorem dX4_ifFailed_39 : decode cX4_ifFailed 39 = .ok (.bipush (-6), 2) := by decide +kernel
theorem dX4_ifFailed_41 : decode cX4_ifFailed 41 = .ok (.goto 10, 3) := by decide +kernel
theorem dX4_ifFailed_44 : decode cX4_ifFailed 44 = .ok (.aload_n 0, 1) := by decide +kernel
theorem dX4_ifFailed_45 : decode cX4_ifFailed 45 = .ok (.iload_n 1, 1) := by decide +kernel
theorem dX4_ifFailed_46 : decode cX4_ifFailed 46 = .ok (.iload_n 2, 1) := by decide +kernel
theorem dX4_ifFailed_47 : decode cX4_ifFailed 47 = .ok (.iconst 1, 1) := by decide +kernel
theorem dX4_ifFailed_48 : decode cX4_ifFailed 48 = .ok (.invokevirtual 45, 3) := by decide +kernel
theorem dX4_ifFailed_51 : decode cX4_ifFailed 51 = .ok (.istore_n 3, 1) := by decide +kernel
theorem dX4_ifFailed_52 : decode cX4_ifFailed 52 = .ok (.aload_n 0, 1) := by decide +kernel
theorem dX4_ifFailed_53 : decode cX4_ifFailed 53 = .ok (.invokevirtual 160, 3) := by decide +kernel
theorem dX4_ifFailed_56 : decode cX4_ifFailed 56 = .ok (.iload_n 3, 1) := by decide +kernel
theorem dX4_ifFailed_57 : decode cX4_ifFailed 57 = .ok (.ireturn, 1) := by decide +kernel
set_option maxRecDepth 20000 in
theorem ggX4_leastKeep_X4_isGroup : GoodIn wsX4_leastKeep wsX4_isGroup := goodIn_r _ [4, 5, 6, 3, 7] (by decide +kernel) (by decide +kernel)
set_option maxRecDepth 20000 in
theorem gX4_leastKeep_X4_isGroup : GoodIn wsX4_leastKeep (va_wsS RX4 92 yX4_isGroup wsX4_isGroup) := goodIn_app (goodIn_of _ (by decide +kernel)) ggX4_leastKeep_X4_isGroup
set_option maxRecDepth 20000 in
theorem ggX4_leastKeep_X4_many : GoodIn wsX4_leastKeep wsX4_many := goodIn_r _ [11, 12, 13, 14, 3, 15, 16, 17, 18, 19, 20, 21, 22, 23, 24, 25, 26, 27, 28] (by decide +kernel) (by decide +kernel)
set_option maxRecDepth 20000 in
theorem gX4_leastKeep_X4_many : GoodIn wsX4_leastKeep (wsV RX4 60 RX4 yX4_many wsX4_many) := goodIn_app (goodIn_of _ (by decide +kernel)) ggX4_leastKeep_X4_many
theorem dX4_leastKeep_0 : decode cX4_leastKeep 0 = .ok (.iload_n 1, 1) := by decide +kernel
theorem dX4_leastKeep_1 : decode cX4_leastKeep 1 = .ok (.invokestatic 92, 3) := by decide +kernel
theorem dX4_leastKeep_4 : decode cX4_leastKeep 4 = .ok (.ifCond .ne 5, 3) := by decide +kernel
theorem dX4_leastKeep_7 : decode cX4_leastKeep 7 = .ok (.iconst (-1), 1) := by decide +kernel
theorem dX4_leastKeep_8 : decode cX4_leastKeep 8 = .ok (.ireturn, 1) := by decide +kernel
theorem dX4_leastKeep_9 : decode cX4_leastKeep 9 = .ok (.aload_n 0, 1) := by decide +kernel
theorem dX4_leastKeep_10 : decode cX4_leastKeep 10 = .ok (.iload_n 1, 1) := by decide +kernel
theorem dX4_leastKeep_11 : decode cX4_leastKeep 11 = .ok (.invokevirtual 60, 3) := by decide +kernel
theorem dX4_leastKeep_14 : decode cX4_leastKeep 14 = .ok (.iconst 1, 1) := by decide +kernel
theorem dX4_leastKeep_15 : decode cX4_leastKeep 15 = .ok (.if_icmp .ge 7, 3) := by decide +kernel
theorem dX4_leastKeep_18 : decode cX4_leastKeep 18 = .ok (.iconst 1, 1) := by decide +kernel
theorem dX4_leastKeep_19 : decode cX4_leastKeep 19 = .ok (.goto 8, 3) := by decide +kernel
theorem dX4_leastKeep_22 : decode cX4_leastKeep 22 = .ok (.aload_n 0, 1) := by decide +kernel
theorem dX4_leastKeep_23 : decode cX4_leastKeep 23 = .ok (.iload_n 1, 1) := by decide +kernel
theorem dX4_leastKeep_24 : decode cX4_leastKeep 24 = .ok (.invokevirtual 60, 3) := by decide +kernel
theorem dX4_leastKeep_27 : decode cX4_leastKeep 27 = .ok (.ireturn, 1) := by decide +kernel
set_option maxRecDepth 20000 in
theorem ggX4_put_X4_in : GoodIn wsX4_put wsX4_in := goodIn_r _ [7] (by decide +kernel) (by decide +kernel)
set_option maxRecDepth 20000 in
theorem gX4_put_X4_in : GoodIn wsX4_put (va_wsS RX4 33 yX4_in wsX4_in) := goodIn_app (goodIn_of _ (by decide +kernel)) ggX4_put_X4_in
theorem dX4_put_0 : decode cX4_put 0 = .ok (.iconst 0, 1) := by decide +kernel
theorem dX4_put_1 : decode cX4_put 1 = .ok (.istore_n 3, 1) := by decide +kernel
theorem dX4_put_2 : decode cX4_put 2 = .ok (.lload_n 1, 1) := by decide +kernel
theorem dX4_put_3 : decode cX4_put 3 = .ok (.lstore 4, 2) := by decide +kernel
theorem dX4_put_5 : decode cX4_put 5 = .ok (.iconst 1, 1) := by decide +kernel
theorem dX4_put_6 : decode cX4_put 6 = .ok (.istore 6, 2) := by decide +kernel
theorem dX4_put_8 : decode cX4_put 8 = .ok (.lload 4, 2) := by decide +kernel
theorem dX4_put_10 : decode cX4_put 10 = .ok (.lconst 0, 1) := by decide +kernel
theorem dX4_put_11 : decode cX4_put 11 = .ok (.lcmp, 1) := by decide +kernel
theorem dX4_put_12 : decode cX4_put 12 = .ok (.ifCond .eq 37, 3) := by decide +kernel
theorem dX4_put_15 : decode cX4_put 15 = .ok (.iload 6, 2) := by decide +kernel
theorem dX4_put_17 : decode cX4_put 17 = .ok (.ifCond .eq 32, 3) := by decide +kernel
theorem dX4_put_20 : decode cX4_put 20 = .ok (.lload 4, 2) := by decide +kernel
theorem dX4_put_22 : decode cX4_put 22 = .ok (.ldc2_w 163, 3) := by decide +kernel
theorem dX4_put_25 : decode cX4_put 25 = .ok (.land, 1) := by decide +kernel
theorem dX4_put_26 : decode cX4_put 26 = .ok (.l2i, 1) := by decide +kernel
theorem dX4_put_27 : decode cX4_put 27 = .ok (.bipush 33, 2) := by decide +kernel
theorem dX4_put_29 : decode cX4_put 29 = .ok (.bipush 126, 2) := by decide +kernel
theorem dX4_put_31 : decode cX4_put 31 = .ok (.invokestatic 33, 3) := by decide +kernel
theorem dX4_put_34 : decode cX4_put 34 = .ok (.istore 6, 2) := by decide +kernel
theorem dX4_put_36 : decode cX4_put 36 = .ok (.lload 4, 2) := by decide +kernel
theorem dX4_put_38 : decode cX4_put 38 = .ok (.bipush 8, 2) := by decide +kernel
theorem dX4_put_40 : decode cX4_put 40 = .ok (.lushr, 1) := by decide +kernel
theorem dX4_put_41 : decode cX4_put 41 = .ok (.lstore 4, 2) := by decide +kernel
theorem dX4_put_43 : decode cX4_put 43 = .ok (.iinc 3 1, 3) := by decide +kernel
theorem dX4_put_46 : decode cX4_put 46 = .ok (.goto (-38), 3) := by decide +kernel
theorem dX4_put_49 : decode cX4_put 49 = .ok (.iload_n 3, 1) := by decide +kernel
theorem dX4_put_50 : decode cX4_put 50 = .ok (.ifCond .eq 8, 3) := by decide +kernel
theorem dX4_put_53 : decode cX4_put 53 = .ok (.iload 6, 2) := by decide +kernel
theorem dX4_put_55 : decode cX4_put 55 = .ok (.ifCond .ne 6, 3) := by decide +kernel
theorem dX4_put_58 : decode cX4_put 58 = .ok (.bipush (-2), 2) := by decide +kernel
theorem dX4_put_60 : decode cX4_put 60 = .ok (.ireturn, 1) := by decide +kernel
theorem dX4_put_61 : decode cX4_put 61 = .ok (.aload_n 0, 1) := by decide +kernel
theorem dX4_put_62 : decode cX4_put 62 = .ok (.getfield 151, 3) := by decide +kernel
theorem dX4_put_65 : decode cX4_put 65 = .ok (.iload_n 3, 1) := by decide +kernel
theorem dX4_put_66 : decode cX4_put 66 = .ok (.iadd, 1) := by decide +kernel
theorem dX4_put_67 : decode cX4_put 67 = .ok (.bipush 80, 2) := by decide +kernel
theorem dX4_put_69 : decode cX4_put 69 = .ok (.if_icmp .le 6, 3) := by decide +kernel
theorem dX4_put_72 : decode cX4_put 72 = .ok (.bipush (-4), 2) := by decide +kernel
theorem dX4_put_74 : decode cX4_put 74 = .ok (.ireturn, 1) := by decide +kernel
theorem dX4_put_75 : decode cX4_put 75 = .ok (.iload_n 3, 1) := by decide +kernel
theorem dX4_put_76 : decode cX4_put 76 = .ok (.iconst 1, 1) := by decide +kernel
theorem dX4_put_77 : decode cX4_put 77 = .ok (.isub, 1) := by decide +kernel
theorem dX4_put_78 : decode cX4_put 78 = .ok (.istore 7, 2) := by decide +kernel
theorem dX4_put_80 : decode cX4_put 80 = .ok (.iload 7, 2) := by decide +kernel
theorem dX4_put_82 : decode cX4_put 82 = .ok (.ifCond .lt 41, 3) := by decide +kernel
theorem dX4_put_85 : decode cX4_put 85 = .ok (.aload_n 0, 1) := by decide +kernel
theorem dX4_put_86 : decode cX4_put 86 = .ok (.getfield 26, 3) := by decide +kernel
theorem dX4_put_89 : decode cX4_put 89 = .ok (.aload_n 0, 1) := by decide +kernel
theorem dX4_put_90 : decode cX4_put 90 = .ok (.getfield 151, 3) := by decide +kernel
theorem dX4_put_93 : decode cX4_put 93 = .ok (.lload_n 1, 1) := by decide +kernel
theorem dX4_put_94 : decode cX4_put 94 = .ok (.bipush 8, 2) := by decide +kernel
theorem dX4_put_96 : decode cX4_put 96 = .ok (.iload 7, 2) := by decide +kernel
theorem dX4_put_98 : decode cX4_put 98 = .ok (.imul, 1) := by decide +kernel
theorem dX4_put_99 : decode cX4_put 99 = .ok (.lushr, 1) := by decide +kernel
theorem dX4_put_100 : decode cX4_put 100 = .ok (.ldc2_w 163, 3) := by decide +kernel
theorem dX4_put_103 : decode cX4_put 103 = .ok (.land, 1) := by decide +kernel
theorem dX4_put_104 : decode cX4_put 104 = .ok (.l2i, 1) := by decide +kernel
theorem dX4_put_105 : decode cX4_put 105 = .ok (.i2c, 1) := by decide +kernel
theorem dX4_put_106 : decode cX4_put 106 = .ok (.castore, 1) := by decide +kernel
theorem dX4_put_107 : decode cX4_put 107 = .ok (.aload_n 0, 1) := by decide +kernel
theorem dX4_put_108 : decode cX4_put 108 = .ok (.dup, 1) := by decide +kernel
theorem dX4_put_109 : decode cX4_put 109 = .ok (.getfield 151, 3) := by decide +kernel
theorem dX4_put_112 : decode cX4_put 112 = .ok (.iconst 1, 1) := by decide +kernel
theorem dX4_put_113 : decode cX4_put 113 = .ok (.iadd, 1) := by decide +kernel
theorem dX4_put_114 : decode cX4_put 114 = .ok (.putfield 151, 3) := by decide +kernel
theorem dX4_put_117 : decode cX4_put 117 = .ok (.iinc 7 (-1), 3) := by decide +kernel
theorem dX4_put_120 : decode cX4_put 120 = .ok (.goto (-40), 3) := by decide +kernel
theorem dX4_put_123 : decode cX4_put 123 = .ok (.aload_n 0, 1) := by decide +kernel
theorem dX4_put_124 : decode cX4_put 124 = .ok (.getfield 151, 3) := by decide +kernel
theorem dX4_put_127 : decode cX4_put 127 = .ok (.ireturn, 1) := by decide +kernel
theorem dX4_wipe_0 : decode cX4_wipe 0 = .ok (.aload_n 0, 1) := by decide +kernel
theorem dX4_wipe_1 : decode cX4_wipe 1 = .ok (.getfield 151, 3) := by decide +kernel
theorem dX4_wipe_4 : decode cX4_wipe 4 = .ok (.istore_n 1, 1) := by decide +kernel
theorem dX4_wipe_5 : decode cX4_wipe 5 = .ok (.aload_n 0, 1) := by decide +kernel
theorem dX4_wipe_6 : decode cX4_wipe 6 = .ok (.iconst 0, 1) := by decide +kernel
theorem dX4_wipe_7 : decode cX4_wipe 7 = .ok (.putfield 151, 3) := by decide +kernel
theorem dX4_wipe_10 : decode cX4_wipe 10 = .ok (.iload_n 1, 1) := by decide +kernel
theorem dX4_wipe_11 : decode cX4_wipe 11 = .ok (.ireturn, 1) := by decide +kernel
theorem dX4_letter_0 : decode cX4_letter 0 = .ok (.aload_n 0, 1) := by decide +kernel
theorem dX4_letter_1 : decode cX4_letter 1 = .ok (.getfield 165, 3) := by decide +kernel
theorem dX4_letter_4 : decode cX4_letter 4 = .ok (.aload_n 0, 1) := by decide +kernel
theorem dX4_letter_5 : decode cX4_letter 5 = .ok (.getfield 151, 3) := by decide +kernel
theorem dX4_letter_8 : decode cX4_letter 8 = .ok (.if_icmp .ge 15, 3) := by decide +kernel
theorem dX4_letter_11 : decode cX4_letter 11 = .ok (.aload_n 0, 1) := by decide +kernel
theorem dX4_letter_12 : decode cX4_letter 12 = .ok (.getfield 26, 3) := by decide +kernel
theorem dX4_letter_15 : decode cX4_letter 15 = .ok (.aload_n 0, 1) := by decide +kernel
theorem dX4_letter_16 : decode cX4_letter 16 = .ok (.getfield 165, 3) := by decide +kernel
theorem dX4_letter_19 : decode cX4_letter 19 = .ok (.caload, 1) := by decide +kernel
theorem dX4_letter_20 : decode cX4_letter 20 = .ok (.goto 5, 3) := by decide +kernel
theorem dX4_letter_23 : decode cX4_letter 23 = .ok (.bipush (-6), 2) := by decide +kernel
theorem dX4_letter_25 : decode cX4_letter 25 = .ok (.ireturn, 1) := by decide +kernel
theorem dX4_wants_0 : decode cX4_wants 0 = .ok (.aload_n 0, 1) := by decide +kernel
theorem dX4_wants_1 : decode cX4_wants 1 = .ok (.getfield 168, 3) := by decide +kernel
theorem dX4_wants_4 : decode cX4_wants 4 = .ok (.bipush (-6), 2) := by decide +kernel
theorem dX4_wants_6 : decode cX4_wants 6 = .ok (.if_icmp .ne 30, 3) := by decide +kernel
theorem dX4_wants_9 : decode cX4_wants 9 = .ok (.aload_n 0, 1) := by decide +kernel
theorem dX4_wants_10 : decode cX4_wants 10 = .ok (.iload_n 1, 1) := by decide +kernel
theorem dX4_wants_11 : decode cX4_wants 11 = .ok (.ifCond .eq 8, 3) := by decide +kernel
theorem dX4_wants_14 : decode cX4_wants 14 = .ok (.bipush (-6), 2) := by decide +kernel
theorem dX4_wants_16 : decode cX4_wants 16 = .ok (.goto 7, 3) := by decide +kernel
theorem dX4_wants_19 : decode cX4_wants 19 = .ok (.aload_n 0, 1) := by decide +kernel
theorem dX4_wants_20 : decode cX4_wants 20 = .ok (.getfield 165, 3) := by decide +kernel
theorem dX4_wants_23 : decode cX4_wants 23 = .ok (.putfield 168, 3) := by decide +kernel
theorem dX4_wants_26 : decode cX4_wants 26 = .ok (.aload_n 0, 1) := by decide +kernel
theorem dX4_wants_27 : decode cX4_wants 27 = .ok (.dup, 1) := by decide +kernel
theorem dX4_wants_28 : decode cX4_wants 28 = .ok (.getfield 165, 3) := by decide +kernel
theorem dX4_wants_31 : decode cX4_wants 31 = .ok (.iconst 1, 1) := by decide +kernel
theorem dX4_wants_32 : decode cX4_wants 32 = .ok (.iadd, 1) := by decide +kernel
theorem dX4_wants_33 : decode cX4_wants 33 = .ok (.putfield 165, 3) := by decide +kernel
theorem dX4_wants_36 : decode cX4_wants 36 = .ok (.return_, 1) := by decide +kernel
set_option maxRecDepth 20000 in
theorem ggX4_digit_X4_letter : GoodIn wsX4_digit wsX4_letter := goodIn_r _ [5, 6, 7, 8, 17, 18, 19, 20, 21, 22, 23, 24, 25, 26, 27, 28] (by decide +kernel) (by decide +kernel)
set_option maxRecDepth 20000 in
theorem gX4_digit_X4_letter : GoodIn wsX4_digit (wsV RX4 171 RX4 yX4_letter wsX4_letter) := goodIn_app (goodIn_of _ (by decide +kernel)) ggX4_digit_X4_letter
set_option maxRecDepth 20000 in
theorem ggX4_digit_X4_in : GoodIn wsX4_digit wsX4_in := goodIn_r _ [11] (by decide +kernel) (by decide +kernel)
set_option maxRecDepth 20000 in
theorem gX4_digit_X4_in : GoodIn wsX4_digit (va_wsS RX4 33 yX4_in wsX4_in) := goodIn_app (goodIn_of _ (by decide +kernel)) ggX4_digit_X4_in
set_option maxRecDepth 20000 in
theorem ggX4_digit_X4_wants : GoodIn wsX4_digit wsX4_wants := goodIn_r _ [15, 16, 6, 17, 18, 19, 20, 21, 22, 23, 24, 25, 26, 27, 28] (by decide +kernel) (by decide +kernel)
set_option maxRecDepth 20000 in
theorem gX4_digit_X4_wants : GoodIn wsX4_digit (wsV RX4 174 RX4 yX4_wants wsX4_wants) := goodIn_app (goodIn_of _ (by decide +kernel)) ggX4_digit_X4_wants
theorem dX4_digit_0 : decode cX4_digit 0 = .ok (.aload_n 0, 1) := by decide +kernel
theorem dX4_digit_1 : decode cX4_digit 1 = .ok (.invokevirtual 171, 3) := by decide +kernel
theorem dX4_digit_4 : decode cX4_digit 4 = .ok (.bipush 48, 2) := by decide +kernel
theorem dX4_digit_6 : decode cX4_digit 6 = .ok (.isub, 1) := by decide +kernel
theorem dX4_digit_7 : decode cX4_digit 7 = .ok (.istore_n 3, 1) := by decide +kernel
theorem dX4_digit_8 : decode cX4_digit 8 = .ok (.aload_n 0, 1) := by decide +kernel
theorem dX4_digit_9 : decode cX4_digit 9 = .ok (.iload_n 3, 1) := by decide +kernel
theorem dX4_digit_10 : decode cX4_digit 10 = .ok (.iload_n 1, 1) := by decide +kernel
theorem dX4_digit_11 : decode cX4_digit 11 = .ok (.iload_n 2, 1) := by decide +kernel
theorem dX4_digit_12 : decode cX4_digit 12 = .ok (.invokestatic 33, 3) := by decide +kernel
theorem dX4_digit_15 : decode cX4_digit 15 = .ok (.invokevirtual 174, 3) := by decide +kernel
theorem dX4_digit_18 : decode cX4_digit 18 = .ok (.iload_n 3, 1) := by decide +kernel
theorem dX4_digit_19 : decode cX4_digit 19 = .ok (.ireturn, 1) := by decide +kernel
set_option maxRecDepth 20000 in
theorem ggX4_number_X4_digit : GoodIn wsX4_number wsX4_digit := goodIn_r _ [7, 8, 9, 10, 6, 11, 2, 12, 13, 14, 15, 16, 17, 18, 19, 20, 1, 21, 22, 23, 24, 25, 26, 27, 28, 29, 30, 31, 32] (by decide +kernel) (by decide +kernel)
set_option maxRecDepth 20000 in
theorem gX4_number_X4_digit : GoodIn wsX4_number (wsV RX4 178 RX4 yX4_digit wsX4_digit) := goodIn_app (goodIn_of _ (by decide +kernel)) ggX4_number_X4_digit
set_option maxRecDepth 20000 in
theorem ggX4_number_X4_letter : GoodIn wsX4_number wsX4_letter := goodIn_r _ [11, 2, 12, 13, 21, 22, 23, 24, 25, 26, 27, 28, 29, 30, 31, 32] (by decide +kernel) (by decide +kernel)
set_option maxRecDepth 20000 in
theorem gX4_number_X4_letter : GoodIn wsX4_number (wsV RX4 171 RX4 yX4_letter wsX4_letter) := goodIn_app (goodIn_of _ (by decide +kernel)) ggX4_number_X4_letter
set_option maxRecDepth 20000 in
theorem ggX4_number_X4_in : GoodIn wsX4_number wsX4_in := goodIn_r _ [16] (by decide +kernel) (by decide +kernel)
set_option maxRecDepth 20000 in
theorem gX4_number_X4_in : GoodIn wsX4_number (va_wsS RX4 33 yX4_in wsX4_in) := goodIn_app (goodIn_of _ (by decide +kernel)) ggX4_number_X4_in
theorem dX4_number_0 : decode cX4_number 0 = .ok (.aload_n 0, 1) := by decide +kernel
theorem dX4_number_1 : decode cX4_number 1 = .ok (.iconst 0, 1) := by decide +kernel
theorem dX4_number_2 : decode cX4_number 2 = .ok (.bipush 9, 2) := by decide +kernel
theorem dX4_number_4 : decode cX4_number 4 = .ok (.invokevirtual 178, 3) := by decide +kernel
theorem dX4_number_7 : decode cX4_number 7 = .ok (.istore_n 1, 1) := by decide +kernel
theorem dX4_number_8 : decode cX4_number 8 = .ok (.aload_n 0, 1) := by decide +kernel
theorem dX4_number_9 : decode cX4_number 9 = .ok (.invokevirtual 171, 3) := by decide +kernel
theorem dX4_number_12 : decode cX4_number 12 = .ok (.bipush 48, 2) := by decide +kernel
theorem dX4_number_14 : decode cX4_number 14 = .ok (.isub, 1) := by decide +kernel
theorem dX4_number_15 : decode cX4_number 15 = .ok (.istore_n 2, 1) := by decide +kernel
theorem dX4_number_16 : decode cX4_number 16 = .ok (.aload_n 0, 1) := by decide +kernel
theorem dX4_number_17 : decode cX4_number 17 = .ok (.getfield 168, 3) := by decide +kernel
theorem dX4_number_20 : decode cX4_number 20 = .ok (.bipush (-6), 2) := by decide +kernel
theorem dX4_number_22 : decode cX4_number 22 = .ok (.if_icmp .ne 57, 3) := by decide +kernel
theorem dX4_number_25 : decode cX4_number 25 = .ok (.iload_n 1, 1) := by decide +kernel
theorem dX4_number_26 : decode cX4_number 26 = .ok (.ifCond .le 53, 3) := by decide +kernel
theorem dX4_number_29 : decode cX4_number 29 = .ok (.iload_n 2, 1) := by decide +kernel
theorem dX4_number_30 : decode cX4_number 30 = .ok (.iconst 0, 1) := by decide +kernel
theorem dX4_number_31 : decode cX4_number 31 = .ok (.bipush 9, 2) := by decide +kernel
theorem dX4_number_33 : decode cX4_number 33 = .ok (.invokestatic 33, 3) := by decide +kernel
theorem dX4_number_36 : decode cX4_number 36 = .ok (.ifCond .eq 43, 3) := by decide +kernel
theorem dX4_number_39 : decode cX4_number 39 = .ok (.bipush 10, 2) := by decide +kernel
theorem dX4_number_41 : decode cX4_number 41 = .ok (.iload_n 1, 1) := by decide +kernel
theorem dX4_number_42 : decode cX4_number 42 = .ok (.imul, 1) := by decide +kernel
theorem dX4_number_43 : decode cX4_number 43 = .ok (.iload_n 2, 1) := by decide +kernel
theorem dX4_number_44 : decode cX4_number 44 = .ok (.iadd, 1) := by decide +kernel
theorem dX4_number_45 : decode cX4_number 45 = .ok (.sipush 9999, 3) := by decide +kernel
theorem dX4_number_48 : decode cX4_number 48 = .ok (.if_icmp .gt 31, 3) := by decide +kernel
theorem dX4_number_51 : decode cX4_number 51 = .ok (.bipush 10, 2) := by decide +kernel
theorem dX4_number_53 : decode cX4_number 53 = .ok (.iload_n 1, 1) := by decide +kernel
theorem dX4_number_54 : decode cX4_number 54 = .ok (.imul, 1) := by decide +kernel
theorem dX4_number_55 : decode cX4_number 55 = .ok (.iload_n 2, 1) := by decide +kernel
theorem dX4_number_56 : decode cX4_number 56 = .ok (.iadd, 1) := by decide +kernel
theorem dX4_number_57 : decode cX4_number 57 = .ok (.istore_n 1, 1) := by decide +kernel
theorem dX4_number_58 : decode cX4_number 58 = .ok (.aload_n 0, 1) := by decide +kernel
theorem dX4_number_59 : decode cX4_number 59 = .ok (.dup, 1) := by decide +kernel
theorem dX4_number_60 : decode cX4_number 60 = .ok (.getfield 165, 3) := by decide +kernel
theorem dX4_number_63 : decode cX4_number 63 = .ok (.iconst 1, 1) := by decide +kernel
theorem dX4_number_64 : decode cX4_number 64 = .ok (.iadd, 1) := by decide +kernel
theorem dX4_number_65 : decode cX4_number 65 = .ok (.putfield 165, 3) := by decide +kernel
theorem dX4_number_68 : decode cX4_number 68 = .ok (.aload_n 0, 1) := by decide +kernel
theorem dX4_number_69 : decode cX4_number 69 = .ok (.invokevirtual 171, 3) := by decide +kernel
theorem dX4_number_72 : decode cX4_number 72 = .ok (.bipush 48, 2) := by decide +kernel
theorem dX4_number_74 : decode cX4_number 74 = .ok (.isub, 1) := by decide +kernel
theorem dX4_number_75 : decode cX4_number 75 = .ok (.istore_n 2, 1) := by decide +kernel
theorem dX4_number_76 : decode cX4_number 76 = .ok (.goto (-60), 3) := by decide +kernel
theorem dX4_number_79 : decode cX4_number 79 = .ok (.iload_n 1, 1) := by decide +kernel
theorem dX4_number_80 : decode cX4_number 80 = .ok (.ireturn, 1) := by decide +kernel
set_option maxRecDepth 20000 in
theorem ggX4_name_X4_letter : GoodIn wsX4_name wsX4_letter := goodIn_r _ [5, 6, 7, 8, 21, 22, 23, 24, 25, 26, 27, 28, 29, 30, 31, 32] (by decide +kernel) (by decide +kernel)
set_option maxRecDepth 20000 in
theorem gX4_name_X4_letter : GoodIn wsX4_name (wsV RX4 171 RX4 yX4_letter wsX4_letter) := goodIn_app (goodIn_of _ (by decide +kernel)) ggX4_name_X4_letter
set_option maxRecDepth 20000 in
theorem ggX4_name_X4_wants : GoodIn wsX4_name wsX4_wants := goodIn_r _ [12, 13, 6, 21, 22, 23, 24, 25, 26, 27, 28, 29, 30, 31, 32] (by decide +kernel) (by decide +kernel)
set_option maxRecDepth 20000 in
theorem gX4_name_X4_wants : GoodIn wsX4_name (wsV RX4 174 RX4 yX4_wants wsX4_wants) := goodIn_app (goodIn_of _ (by decide +kernel)) ggX4_name_X4_wants
set_option maxRecDepth 20000 in
theorem ggX4_name_X4_digit : GoodIn wsX4_name wsX4_digit := goodIn_r _ [17, 1, 2, 3, 4, 5, 6, 7, 8, 18, 19, 20, 9, 10, 11, 12, 13, 21, 22, 23, 24, 25, 26, 27, 28, 29, 30, 31, 32] (by decide +kernel) (by decide +kernel)
set_option maxRecDepth 20000 in
theorem gX4_name_X4_digit : GoodIn wsX4_name (wsV RX4 178 RX4 yX4_digit wsX4_digit) := goodIn_app (goodIn_of _ (by decide +kernel)) ggX4_name_X4_digit
theorem dX4_name_0 : decode cX4_name 0 = .ok (.aload_n 0, 1) := by decide +kernel
theorem dX4_name_1 : decode cX4_name 1 = .ok (.invokevirtual 171, 3) := by decide +kernel
theorem dX4_name_4 : decode cX4_name 4 = .ok (.istore_n 1, 1) := by decide +kernel
theorem dX4_name_5 : decode cX4_name 5 = .ok (.aload_n 0, 1) := by decide +kernel
theorem dX4_name_6 : decode cX4_name 6 = .ok (.iload_n 1, 1) := by decide +kernel
theorem dX4_name_7 : decode cX4_name 7 = .ok (.bipush 48, 2) := by decide +kernel
theorem dX4_name_9 : decode cX4_name 9 = .ok (.if_icmp .eq 15, 3) := by decide +kernel
theorem dX4_name_12 : decode cX4_name 12 = .ok (.iload_n 1, 1) := by decide +kernel
theorem dX4_name_13 : decode cX4_name 13 = .ok (.bipush 45, 2) := by decide +kernel
theorem dX4_name_15 : decode cX4_name 15 = .ok (.if_icmp .eq 9, 3) := by decide +kernel
theorem dX4_name_18 : decode cX4_name 18 = .ok (.iload_n 1, 1) := by decide +kernel
theorem dX4_name_19 : decode cX4_name 19 = .ok (.bipush 43, 2) := by decide +kernel
theorem dX4_name_21 : decode cX4_name 21 = .ok (.if_icmp .ne 7, 3) := by decide +kernel
theorem dX4_name_24 : decode cX4_name 24 = .ok (.iconst 1, 1) := by decide +kernel
theorem dX4_name_25 : decode cX4_name 25 = .ok (.goto 4, 3) := by decide +kernel
theorem dX4_name_28 : decode cX4_name 28 = .ok (.iconst 0, 1) := by decide +kernel
theorem dX4_name_29 : decode cX4_name 29 = .ok (.invokevirtual 174, 3) := by decide +kernel
theorem dX4_name_32 : decode cX4_name 32 = .ok (.iload_n 1, 1) := by decide +kernel
theorem dX4_name_33 : decode cX4_name 33 = .ok (.bipush 43, 2) := by decide +kernel
theorem dX4_name_35 : decode cX4_name 35 = .ok (.if_icmp .ne 7, 3) := by decide +kernel
theorem dX4_name_38 : decode cX4_name 38 = .ok (.iconst 1, 1) := by decide +kernel
theorem dX4_name_39 : decode cX4_name 39 = .ok (.goto 21, 3) := by decide +kernel
theorem dX4_name_42 : decode cX4_name 42 = .ok (.iload_n 1, 1) := by decide +kernel
theorem dX4_name_43 : decode cX4_name 43 = .ok (.bipush 45, 2) := by decide +kernel
theorem dX4_name_45 : decode cX4_name 45 = .ok (.if_icmp .ne 14, 3) := by decide +kernel
theorem dX4_name_48 : decode cX4_name 48 = .ok (.aload_n 0, 1) := by decide +kernel
theorem dX4_name_49 : decode cX4_name 49 = .ok (.iconst 1, 1) := by decide +kernel
theorem dX4_name_50 : decode cX4_name 50 = .ok (.bipush 7, 2) := by decide +kernel
theorem dX4_name_52 : decode cX4_name 52 = .ok (.invokevirtual 178, 3) := by decide +kernel
theorem dX4_name_55 : decode cX4_name 55 = .ok (.ineg, 1) := by decide +kernel
theorem dX4_name_56 : decode cX4_name 56 = .ok (.goto 4, 3) := by decide +kernel
theorem dX4_name_59 : decode cX4_name 59 = .ok (.iconst 0, 1) := by decide +kernel
theorem dX4_name_60 : decode cX4_name 60 = .ok (.ireturn, 1) := by decide +kernel
set_option maxRecDepth 20000 in
theorem ggX4_readOrder_X4_letter : GoodIn wsX4_readOrder wsX4_letter := goodIn_r _ [7, 8, 9, 10, 31, 32, 33, 34, 35, 36, 37, 38, 39, 40, 41, 42] (by decide +kernel) (by decide +kernel)
set_option maxRecDepth 20000 in
theorem gX4_readOrder_X4_letter : GoodIn wsX4_readOrder (wsV RX4 171 RX4 yX4_letter wsX4_letter) := goodIn_app (goodIn_of _ (by decide +kernel)) ggX4_readOrder_X4_letter
set_option maxRecDepth 20000 in
theorem ggX4_readOrder_X4_wants : GoodIn wsX4_readOrder wsX4_wants := goodIn_r _ [14, 15, 8, 31, 32, 33, 34, 35, 36, 37, 38, 39, 40, 41, 42] (by decide +kernel) (by decide +kernel)
set_option maxRecDepth 20000 in
theorem gX4_readOrder_X4_wants : GoodIn wsX4_readOrder (wsV RX4 174 RX4 yX4_wants wsX4_wants) := goodIn_app (goodIn_of _ (by decide +kernel)) ggX4_readOrder_X4_wants
set_option maxRecDepth 20000 in
theorem ggX4_readOrder_X4_digit : GoodIn wsX4_readOrder wsX4_digit := goodIn_r _ [19, 3, 4, 5, 6, 7, 8, 9, 10, 20, 21, 22, 11, 12, 13, 14, 15, 31, 32, 33, 34, 35, 36, 37, 38, 39, 40, 41, 42] (by decide +kernel) (by decide +kernel)
set_option maxRecDepth 20000 in
theorem gX4_readOrder_X4_digit : GoodIn wsX4_readOrder (wsV RX4 178 RX4 yX4_digit wsX4_digit) := goodIn_app (goodIn_of _ (by decide +kernel)) ggX4_readOrder_X4_digit
set_option maxRecDepth 20000 in
theorem ggX4_readOrder_X4_name : GoodIn wsX4_readOrder wsX4_name := goodIn_r _ [26, 3, 4, 5, 6, 7, 8, 9, 10, 11, 12, 13, 14, 15, 16, 17, 18, 19, 20, 21, 22, 31, 32, 33, 34, 35, 36, 37, 38, 39, 40, 41, 42] (by decide +kernel) (by decide +kernel)
set_option maxRecDepth 20000 in
theorem gX4_readOrder_X4_name : GoodIn wsX4_readOrder (wsV RX4 184 RX4 yX4_name wsX4_name) := goodIn_app (goodIn_of _ (by decide +kernel)) ggX4_readOrder_X4_name
set_option maxRecDepth 20000 in
theorem ggX4_readOrder_X4_number : GoodIn wsX4_readOrder wsX4_number := goodIn_r _ [30, 15, 8, 16, 17, 18, 6, 19, 3, 4, 5, 7, 9, 10, 20, 21, 22, 11, 12, 13, 14, 31, 32, 33, 34, 35, 36, 37, 38, 39, 40, 41, 42] (by decide +kernel) (by decide +kernel)
set_option maxRecDepth 20000 in
theorem gX4_readOrder_X4_number : GoodIn wsX4_readOrder (wsV RX4 187 RX4 yX4_number wsX4_number) := goodIn_app (goodIn_of _ (by decide +kernel)) ggX4_readOrder_X4_number
theorem dX4_readOrder_0 : decode cX4_readOrder 0 = .ok (.iconst 4, 1) := by decide +kernel
theorem dX4_readOrder_1 : decode cX4_readOrder 1 = .ok (.aload_n 0, 1) := by decide +kernel
theorem dX4_readOrder_2 : decode cX4_readOrder 2 = .ok (.getfield 181, 3) := by decide +kernel
theorem dX4_readOrder_5 : decode cX4_readOrder 5 = .ok (.imul, 1) := by decide +kernel
theorem dX4_readOrder_6 : decode cX4_readOrder 6 = .ok (.istore_n 1, 1) := by decide +kernel
theorem dX4_readOrder_7 : decode cX4_readOrder 7 = .ok (.aload_n 0, 1) := by decide +kernel
theorem dX4_readOrder_8 : decode cX4_readOrder 8 = .ok (.invokevirtual 171, 3) := by decide +kernel
theorem dX4_readOrder_11 : decode cX4_readOrder 11 = .ok (.istore_n 2, 1) := by decide +kernel
theorem dX4_readOrder_12 : decode cX4_readOrder 12 = .ok (.aload_n 0, 1) := by decide +kernel
theorem dX4_readOrder_13 : decode cX4_readOrder 13 = .ok (.getfield 30, 3) := by decide +kernel
theorem dX4_readOrder_16 : decode cX4_readOrder 16 = .ok (.iload_n 1, 1) := by decide +kernel
theorem dX4_readOrder_17 : decode cX4_readOrder 17 = .ok (.iload_n 2, 1) := by decide +kernel
theorem dX4_readOrder_18 : decode cX4_readOrder 18 = .ok (.iastore, 1) := by decide +kernel
theorem dX4_readOrder_19 : decode cX4_readOrder 19 = .ok (.iload_n 2, 1) := by decide +kernel
theorem dX4_readOrder_20 : decode cX4_readOrder 20 = .ok (.bipush 119, 2) := by decide +kernel
theorem dX4_readOrder_22 : decode cX4_readOrder 22 = .ok (.if_icmp .eq 15, 3) := by decide +kernel
theorem dX4_readOrder_25 : decode cX4_readOrder 25 = .ok (.iload_n 2, 1) := by decide +kernel
theorem dX4_readOrder_26 : decode cX4_readOrder 26 = .ok (.bipush 114, 2) := by decide +kernel
theorem dX4_readOrder_28 : decode cX4_readOrder 28 = .ok (.if_icmp .eq 9, 3) := by decide +kernel
theorem dX4_readOrder_31 : decode cX4_readOrder 31 = .ok (.iload_n 2, 1) := by decide +kernel
theorem dX4_readOrder_32 : decode cX4_readOrder 32 = .ok (.bipush 100, 2) := by decide +kernel
theorem dX4_readOrder_34 : decode cX4_readOrder 34 = .ok (.if_icmp .ne 7, 3) := by decide +kernel
theorem dX4_readOrder_37 : decode cX4_readOrder 37 = .ok (.iconst 1, 1) := by decide +kernel
theorem dX4_readOrder_38 : decode cX4_readOrder 38 = .ok (.goto 4, 3) := by decide +kernel
theorem dX4_readOrder_41 : decode cX4_readOrder 41 = .ok (.iconst 0, 1) := by decide +kernel
theorem dX4_readOrder_42 : decode cX4_readOrder 42 = .ok (.istore_n 3, 1) := by decide +kernel
theorem dX4_readOrder_43 : decode cX4_readOrder 43 = .ok (.aload_n 0, 1) := by decide +kernel
theorem dX4_readOrder_44 : decode cX4_readOrder 44 = .ok (.iload_n 3, 1) := by decide +kernel
theorem dX4_readOrder_45 : decode cX4_readOrder 45 = .ok (.ifCond .ne 27, 3) := by decide +kernel
theorem dX4_readOrder_48 : decode cX4_readOrder 48 = .ok (.iload_n 2, 1) := by decide +kernel
theorem dX4_readOrder_49 : decode cX4_readOrder 49 = .ok (.bipush 106, 2) := by decide +kernel
theorem dX4_readOrder_51 : decode cX4_readOrder 51 = .ok (.if_icmp .eq 21, 3) := by decide +kernel
theorem dX4_readOrder_54 : decode cX4_readOrder 54 = .ok (.iload_n 2, 1) := by decide +kernel
theorem dX4_readOrder_55 : decode cX4_readOrder 55 = .ok (.bipush 103, 2) := by decide +kernel
theorem dX4_readOrder_57 : decode cX4_readOrder 57 = .ok (.if_icmp .eq 15, 3) := by decide +kernel
theorem dX4_readOrder_60 : decode cX4_readOrder 60 = .ok (.iload_n 2, 1) := by decide +kernel
theorem dX4_readOrder_61 : decode cX4_readOrder 61 = .ok (.bipush 102, 2) := by decide +kernel
theorem dX4_readOrder_63 : decode cX4_readOrder 63 = .ok (.if_icmp .eq 9, 3) := by decide +kernel
theorem dX4_readOrder_66 : decode cX4_readOrder 66 = .ok (.iload_n 2, 1) := by decide +kernel
theorem dX4_readOrder_67 : decode cX4_readOrder 67 = .ok (.bipush 97, 2) := by decide +kernel
theorem dX4_readOrder_69 : decode cX4_readOrder 69 = .ok (.if_icmp .ne 7, 3) := by decide +kernel
theorem dX4_readOrder_72 : decode cX4_readOrder 72 = .ok (.iconst 1, 1) := by decide +kernel
theorem dX4_readOrder_73 : decode cX4_readOrder 73 = .ok (.goto 4, 3) := by decide +kernel
theorem dX4_readOrder_76 : decode cX4_readOrder 76 = .ok (.iconst 0, 1) := by decide +kernel
theorem dX4_readOrder_77 : decode cX4_readOrder 77 = .ok (.invokevirtual 174, 3) := by decide +kernel
theorem dX4_readOrder_80 : decode cX4_readOrder 80 = .ok (.iload_n 3, 1) := by decide +kernel
theorem dX4_readOrder_81 : decode cX4_readOrder 81 = .ok (.ifCond .eq 29, 3) := by decide +kernel
theorem dX4_readOrder_84 : decode cX4_readOrder 84 = .ok (.aload_n 0, 1) := by decide +kernel
theorem dX4_readOrder_85 : decode cX4_readOrder 85 = .ok (.getfield 30, 3) := by decide +kernel
theorem dX4_readOrder_88 : decode cX4_readOrder 88 = .ok (.iload_n 1, 1) := by decide +kernel
theorem dX4_readOrder_89 : decode cX4_readOrder 89 = .ok (.iconst 1, 1) := by decide +kernel
theorem dX4_readOrder_90 : decode cX4_readOrder 90 = .ok (.iadd, 1) := by decide +kernel
theorem dX4_readOrder_91 : decode cX4_readOrder 91 = .ok (.aload_n 0, 1) := by decide +kernel
theorem dX4_readOrder_92 : decode cX4_readOrder 92 = .ok (.iconst 0, 1) := by decide +kernel
theorem dX4_readOrder_93 : decode cX4_readOrder 93 = .ok (.iconst 5, 1) := by decide +kernel
theorem dX4_readOrder_94 : decode cX4_readOrder 94 = .ok (.invokevirtual 178, 3) := by decide +kernel
theorem dX4_readOrder_97 : decode cX4_readOrder 97 = .ok (.iastore, 1) := by decide +kernel
theorem dX4_readOrder_98 : decode cX4_readOrder 98 = .ok (.aload_n 0, 1) := by decide +kernel
theorem dX4_readOrder_99 : decode cX4_readOrder 99 = .ok (.getfield 30, 3) := by decide +kernel
theorem dX4_readOrder_102 : decode cX4_readOrder 102 = .ok (.iload_n 1, 1) := by decide +kernel
theorem dX4_readOrder_103 : decode cX4_readOrder 103 = .ok (.iconst 2, 1) := by decide +kernel
theorem dX4_readOrder_104 : decode cX4_readOrder 104 = .ok (.iadd, 1) := by decide +kernel
theorem dX4_readOrder_105 : decode cX4_readOrder 105 = .ok (.aload_n 0, 1) := by decide +kernel
theorem dX4_readOrder_106 : decode cX4_readOrder 106 = .ok (.invokevirtual 184, 3) := by decide +kernel
theorem dX4_readOrder_109 : decode cX4_readOrder 109 = .ok (.iastore, 1) := by decide +kernel
theorem dX4_readOrder_110 : decode cX4_readOrder 110 = .ok (.iload_n 2, 1) := by decide +kernel
theorem dX4_readOrder_111 : decode cX4_readOrder 111 = .ok (.bipush 119, 2) := by decide +kernel
theorem dX4_readOrder_113 : decode cX4_readOrder 113 = .ok (.if_icmp .ne 33, 3) := by decide +kernel
theorem dX4_readOrder_116 : decode cX4_readOrder 116 = .ok (.aload_n 0, 1) := by decide +kernel
theorem dX4_readOrder_117 : decode cX4_readOrder 117 = .ok (.aload_n 0, 1) := by decide +kernel
theorem dX4_readOrder_118 : decode cX4_readOrder 118 = .ok (.invokevirtual 171, 3) := by decide +kernel
theorem dX4_readOrder_121 : decode cX4_readOrder 121 = .ok (.bipush 61, 2) := by decide +kernel
theorem dX4_readOrder_123 : decode cX4_readOrder 123 = .ok (.if_icmp .ne 7, 3) := by decide +kernel
theorem dX4_readOrder_126 : decode cX4_readOrder 126 = .ok (.iconst 1, 1) := by decide +kernel
theorem dX4_readOrder_127 : decode cX4_readOrder 127 = .ok (.goto 4, 3) := by decide +kernel
theorem dX4_readOrder_130 : decode cX4_readOrder 130 = .ok (.iconst 0, 1) := by decide +kernel
theorem dX4_readOrder_131 : decode cX4_readOrder 131 = .ok (.invokevirtual 174, 3) := by decide +kernel
theorem dX4_readOrder_134 : decode cX4_readOrder 134 = .ok (.aload_n 0, 1) := by decide +kernel
theorem dX4_readOrder_135 : decode cX4_readOrder 135 = .ok (.getfield 30, 3) := by decide +kernel
theorem dX4_readOrder_138 : decode cX4_readOrder 138 = .ok (.iload_n 1, 1) := by decide +kernel
theorem dX4_readOrder_139 : decode cX4_readOrder 139 = .ok (.iconst 3, 1) := by decide +kernel
theorem dX4_readOrder_140 : decode cX4_readOrder 140 = .ok (.iadd, 1) := by decide +kernel
theorem dX4_readOrder_141 : decode cX4_readOrder 141 = .ok (.aload_n 0, 1) := by decide +kernel
theorem dX4_readOrder_142 : decode cX4_readOrder 142 = .ok (.invokevirtual 187, 3) := by decide +kernel
theorem dX4_readOrder_145 : decode cX4_readOrder 145 = .ok (.iastore, 1) := by decide +kernel
theorem dX4_readOrder_146 : decode cX4_readOrder 146 = .ok (.aload_n 0, 1) := by decide +kernel
theorem dX4_readOrder_147 : decode cX4_readOrder 147 = .ok (.dup, 1) := by decide +kernel
theorem dX4_readOrder_148 : decode cX4_readOrder 148 = .ok (.getfield 181, 3) := by decide +kernel
theorem dX4_readOrder_151 : decode cX4_readOrder 151 = .ok (.iconst 1, 1) := by decide +kernel
theorem dX4_readOrder_152 : decode cX4_readOrder 152 = .ok (.iadd, 1) := by decide +kernel
theorem dX4_readOrder_153 : decode cX4_readOrder 153 = .ok (.putfield 181, 3) := by decide +kernel
theorem dX4_readOrder_156 : decode cX4_readOrder 156 = .ok (.return_, 1) := by decide +kernel
set_option maxRecDepth 20000 in
theorem ggX4_readPad_X4_readOrder : GoodIn wsX4_readPad wsX4_readOrder := goodIn_r _ [9, 1, 10, 11, 12, 13, 8, 14, 2, 4, 15, 16, 17, 18, 19, 3, 20, 21, 22, 23, 24, 25, 26, 27, 28, 29, 30, 31, 32, 33, 34, 35, 36, 37, 38, 39, 40, 41, 42, 43, 44, 45, 46] (by decide +kernel) (by decide +kernel)
set_option maxRecDepth 20000 in
theorem gX4_readPad_X4_readOrder : GoodIn wsX4_readPad (wsV RX4 190 RX4 yX4_readOrder wsX4_readOrder) := goodIn_app (goodIn_of _ (by decide +kernel)) ggX4_readPad_X4_readOrder
set_option maxRecDepth 20000 in
theorem ggX4_readPad_X4_letter : GoodIn wsX4_readPad wsX4_letter := goodIn_r _ [14, 2, 4, 15, 35, 36, 37, 38, 39, 40, 41, 42, 43, 44, 45, 46] (by decide +kernel) (by decide +kernel)
set_option maxRecDepth 20000 in
theorem gX4_readPad_X4_letter : GoodIn wsX4_readPad (wsV RX4 171 RX4 yX4_letter wsX4_letter) := goodIn_app (goodIn_of _ (by decide +kernel)) ggX4_readPad_X4_letter
set_option maxRecDepth 20000 in
theorem ggX4_readPad_X4_wants : GoodIn wsX4_readPad wsX4_wants := goodIn_r _ [19, 3, 2, 35, 36, 37, 38, 39, 40, 41, 42, 43, 44, 45, 46] (by decide +kernel) (by decide +kernel)
set_option maxRecDepth 20000 in
theorem gX4_readPad_X4_wants : GoodIn wsX4_readPad (wsV RX4 174 RX4 yX4_wants wsX4_wants) := goodIn_app (goodIn_of _ (by decide +kernel)) ggX4_readPad_X4_wants
theorem dX4_readPad_0 : decode cX4_readPad 0 = .ok (.aload_n 0, 1) := by decide +kernel
theorem dX4_readPad_1 : decode cX4_readPad 1 = .ok (.iconst 0, 1) := by decide +kernel
theorem dX4_readPad_2 : decode cX4_readPad 2 = .ok (.putfield 181, 3) := by decide +kernel
theorem dX4_readPad_5 : decode cX4_readPad 5 = .ok (.aload_n 0, 1) := by decide +kernel
theorem dX4_readPad_6 : decode cX4_readPad 6 = .ok (.iconst 0, 1) := by decide +kernel
theorem dX4_readPad_7 : decode cX4_readPad 7 = .ok (.putfield 165, 3) := by decide +kernel
theorem dX4_readPad_10 : decode cX4_readPad 10 = .ok (.aload_n 0, 1) := by decide +kernel
theorem dX4_readPad_11 : decode cX4_readPad 11 = .ok (.bipush (-6), 2) := by decide +kernel
theorem dX4_readPad_13 : decode cX4_readPad 13 = .ok (.putfield 168, 3) := by decide +kernel
theorem dX4_readPad_16 : decode cX4_readPad 16 = .ok (.iconst 1, 1) := by decide +kernel
theorem dX4_readPad_17 : decode cX4_readPad 17 = .ok (.istore_n 1, 1) := by decide +kernel
theorem dX4_readPad_18 : decode cX4_readPad 18 = .ok (.iload_n 1, 1) := by decide +kernel
theorem dX4_readPad_19 : decode cX4_readPad 19 = .ok (.ifCond .eq 73, 3) := by decide +kernel
theorem dX4_readPad_22 : decode cX4_readPad 22 = .ok (.aload_n 0, 1) := by decide +kernel
theorem dX4_readPad_23 : decode cX4_readPad 23 = .ok (.invokevirtual 190, 3) := by decide +kernel
theorem dX4_readPad_26 : decode cX4_readPad 26 = .ok (.aload_n 0, 1) := by decide +kernel
theorem dX4_readPad_27 : decode cX4_readPad 27 = .ok (.getfield 168, 3) := by decide +kernel
theorem dX4_readPad_30 : decode cX4_readPad 30 = .ok (.bipush (-6), 2) := by decide +kernel
theorem dX4_readPad_32 : decode cX4_readPad 32 = .ok (.if_icmp .ne 18, 3) := by decide +kernel
theorem dX4_readPad_35 : decode cX4_readPad 35 = .ok (.aload_n 0, 1) := by decide +kernel
theorem dX4_readPad_36 : decode cX4_readPad 36 = .ok (.getfield 165, 3) := by decide +kernel
theorem dX4_readPad_39 : decode cX4_readPad 39 = .ok (.aload_n 0, 1) := by decide +kernel
theorem dX4_readPad_40 : decode cX4_readPad 40 = .ok (.getfield 151, 3) := by decide +kernel
theorem dX4_readPad_43 : decode cX4_readPad 43 = .ok (.if_icmp .ge 7, 3) := by decide +kernel
theorem dX4_readPad_46 : decode cX4_readPad 46 = .ok (.iconst 1, 1) := by decide +kernel
theorem dX4_readPad_47 : decode cX4_readPad 47 = .ok (.goto 4, 3) := by decide +kernel
theorem dX4_readPad_50 : decode cX4_readPad 50 = .ok (.iconst 0, 1) := by decide +kernel
theorem dX4_readPad_51 : decode cX4_readPad 51 = .ok (.istore_n 1, 1) := by decide +kernel
theorem dX4_readPad_52 : decode cX4_readPad 52 = .ok (.iload_n 1, 1) := by decide +kernel
theorem dX4_readPad_53 : decode cX4_readPad 53 = .ok (.ifCond .eq (-35), 3) := by decide +kernel
theorem dX4_readPad_56 : decode cX4_readPad 56 = .ok (.aload_n 0, 1) := by decide +kernel
theorem dX4_readPad_57 : decode cX4_readPad 57 = .ok (.aload_n 0, 1) := by decide +kernel
theorem dX4_readPad_58 : decode cX4_readPad 58 = .ok (.invokevirtual 171, 3) := by decide +kernel
theorem dX4_readPad_61 : decode cX4_readPad 61 = .ok (.bipush 59, 2) := by decide +kernel
theorem dX4_readPad_63 : decode cX4_readPad 63 = .ok (.if_icmp .ne 7, 3) := by decide +kernel
theorem dX4_readPad_66 : decode cX4_readPad 66 = .ok (.iconst 1, 1) := by decide +kernel
theorem dX4_readPad_67 : decode cX4_readPad 67 = .ok (.goto 4, 3) := by decide +kernel
theorem dX4_readPad_70 : decode cX4_readPad 70 = .ok (.iconst 0, 1) := by decide +kernel
theorem dX4_readPad_71 : decode cX4_readPad 71 = .ok (.invokevirtual 174, 3) := by decide +kernel
theorem dX4_readPad_74 : decode cX4_readPad 74 = .ok (.aload_n 0, 1) := by decide +kernel
theorem dX4_readPad_75 : decode cX4_readPad 75 = .ok (.getfield 168, 3) := by decide +kernel
theorem dX4_readPad_78 : decode cX4_readPad 78 = .ok (.bipush (-6), 2) := by decide +kernel
theorem dX4_readPad_80 : decode cX4_readPad 80 = .ok (.if_icmp .ne 7, 3) := by decide +kernel
theorem dX4_readPad_83 : decode cX4_readPad 83 = .ok (.iconst 1, 1) := by decide +kernel
theorem dX4_readPad_84 : decode cX4_readPad 84 = .ok (.goto 4, 3) := by decide +kernel
theorem dX4_readPad_87 : decode cX4_readPad 87 = .ok (.iconst 0, 1) := by decide +kernel
theorem dX4_readPad_88 : decode cX4_readPad 88 = .ok (.istore_n 1, 1) := by decide +kernel
theorem dX4_readPad_89 : decode cX4_readPad 89 = .ok (.goto (-71), 3) := by decide +kernel
theorem dX4_readPad_92 : decode cX4_readPad 92 = .ok (.aload_n 0, 1) := by decide +kernel
theorem dX4_readPad_93 : decode cX4_readPad 93 = .ok (.getfield 168, 3) := by decide +kernel
theorem dX4_readPad_96 : decode cX4_readPad 96 = .ok (.ireturn, 1) := by decide +kernel
set_option maxRecDepth 20000 in
theorem ggX4_fault_X4_readPad : GoodIn wsX4_fault wsX4_readPad := goodIn_r _ [5, 6, 7, 8, 9, 10, 11, 12, 4, 13, 14, 15, 16, 17, 18, 19, 20, 21, 22, 23, 24, 25, 26, 27, 28, 29, 30, 31, 32, 33, 34, 35, 36, 37, 38, 39, 40, 41, 42, 43, 44, 45, 46, 47, 48, 49, 50] (by decide +kernel) (by decide +kernel)
set_option maxRecDepth 20000 in
theorem gX4_fault_X4_readPad : GoodIn wsX4_fault (wsV RX4 193 RX4 yX4_readPad wsX4_readPad) := goodIn_app (goodIn_of _ (by decide +kernel)) ggX4_fault_X4_readPad
theorem dX4_fault_0 : decode cX4_fault 0 = .ok (.aload_n 0, 1) := by decide +kernel
theorem dX4_fault_1 : decode cX4_fault 1 = .ok (.invokevirtual 193, 3) := by decide +kernel
theorem dX4_fault_4 : decode cX4_fault 4 = .ok (.ireturn, 1) := by decide +kernel
set_option maxRecDepth 20000 in
theorem ggX4_can_X4_runs : GoodIn wsX4_can wsX4_runs := goodIn_r _ [5, 6, 43, 44, 45, 46, 47, 48, 49, 50, 51, 52, 53, 54] (by decide +kernel) (by decide +kernel)
set_option maxRecDepth 20000 in
theorem gX4_can_X4_runs : GoodIn wsX4_can (wsV RX4 79 RX4 yX4_runs wsX4_runs) := goodIn_app (goodIn_of _ (by decide +kernel)) ggX4_can_X4_runs
set_option maxRecDepth 20000 in
theorem ggX4_can_X4_canAgain : GoodIn wsX4_can wsX4_canAgain := goodIn_r _ [10, 6, 1, 2, 3, 4, 5, 43, 44, 45, 46, 47, 48, 49, 50, 51, 52, 53, 54] (by decide +kernel) (by decide +kernel)
set_option maxRecDepth 20000 in
theorem gX4_can_X4_canAgain : GoodIn wsX4_can (wsV RX4 136 RX4 yX4_canAgain wsX4_canAgain) := goodIn_app (goodIn_of _ (by decide +kernel)) ggX4_can_X4_canAgain
set_option maxRecDepth 20000 in
theorem ggX4_can_X4_canWrite : GoodIn wsX4_can wsX4_canWrite := goodIn_r _ [14, 1, 2, 3, 4, 5, 6, 15, 16, 17, 18, 19, 20, 21, 22, 23, 24, 25, 26, 27, 28, 29, 30, 31, 32, 33, 34, 35, 36, 37, 38, 39, 40, 41, 42, 43, 44, 45, 46, 47, 48, 49, 50, 51, 52, 53, 54] (by decide +kernel) (by decide +kernel)
set_option maxRecDepth 20000 in
theorem gX4_can_X4_canWrite : GoodIn wsX4_can (wsV RX4 105 RX4 yX4_canWrite wsX4_canWrite) := goodIn_app (goodIn_of _ (by decide +kernel)) ggX4_can_X4_canWrite
set_option maxRecDepth 20000 in
theorem ggX4_can_X4_told : GoodIn wsX4_can wsX4_told := goodIn_r _ [22, 1, 2, 3, 4, 5, 6, 23, 24, 25, 26, 15, 16, 17, 18, 27, 28, 29, 30, 31, 32, 33, 34, 35, 36, 37, 38, 39, 40, 41, 42, 43, 44, 45, 46, 47, 48, 49, 50, 51, 52, 53, 54] (by decide +kernel) (by decide +kernel)
set_option maxRecDepth 20000 in
theorem gX4_can_X4_told : GoodIn wsX4_can (wsV RX4 96 RX4 yX4_told wsX4_told) := goodIn_app (goodIn_of _ (by decide +kernel)) ggX4_can_X4_told
theorem dX4_can_0 : decode cX4_can 0 = .ok (.iload_n 1, 1) := by decide +kernel
theorem dX4_can_1 : decode cX4_can 1 = .ok (.lookupswitch 106 #[(97, 77), (100, 89), (102, 72), (103, 72), (106, 59), (119, 82)], 59) := by decide +kernel
theorem dX4_can_60 : decode cX4_can 60 = .ok (.aload_n 0, 1) := by decide +kernel
theorem dX4_can_61 : decode cX4_can 61 = .ok (.invokevirtual 79, 3) := by decide +kernel
theorem dX4_can_64 : decode cX4_can 64 = .ok (.ifCond .ne 7, 3) := by decide +kernel
theorem dX4_can_67 : decode cX4_can 67 = .ok (.iconst 1, 1) := by decide +kernel
theorem dX4_can_68 : decode cX4_can 68 = .ok (.goto 4, 3) := by decide +kernel
theorem dX4_can_71 : decode cX4_can 71 = .ok (.iconst 0, 1) := by decide +kernel
theorem dX4_can_72 : decode cX4_can 72 = .ok (.ireturn, 1) := by decide +kernel
theorem dX4_can_73 : decode cX4_can 73 = .ok (.aload_n 0, 1) := by decide +kernel
theorem dX4_can_74 : decode cX4_can 74 = .ok (.invokevirtual 79, 3) := by decide +kernel
theorem dX4_can_77 : decode cX4_can 77 = .ok (.ireturn, 1) := by decide +kernel
theorem dX4_can_78 : decode cX4_can 78 = .ok (.aload_n 0, 1) := by decide +kernel
theorem dX4_can_79 : decode cX4_can 79 = .ok (.invokevirtual 136, 3) := by decide +kernel
theorem dX4_can_82 : decode cX4_can 82 = .ok (.ireturn, 1) := by decide +kernel
theorem dX4_can_83 : decode cX4_can 83 = .ok (.aload_n 0, 1) := by decide +kernel
theorem dX4_can_84 : decode cX4_can 84 = .ok (.iload_n 2, 1) := by decide +kernel
theorem dX4_can_85 : decode cX4_can 85 = .ok (.iload_n 3, 1) := by decide +kernel
theorem dX4_can_86 : decode cX4_can 86 = .ok (.invokevirtual 105, 3) := by decide +kernel
theorem dX4_can_89 : decode cX4_can 89 = .ok (.ireturn, 1) := by decide +kernel
theorem dX4_can_90 : decode cX4_can 90 = .ok (.aload_n 0, 1) := by decide +kernel
theorem dX4_can_91 : decode cX4_can 91 = .ok (.iload_n 2, 1) := by decide +kernel
theorem dX4_can_92 : decode cX4_can 92 = .ok (.iload_n 3, 1) := by decide +kernel
theorem dX4_can_93 : decode cX4_can 93 = .ok (.invokevirtual 96, 3) := by decide +kernel
theorem dX4_can_96 : decode cX4_can 96 = .ok (.bipush (-6), 2) := by decide +kernel
theorem dX4_can_98 : decode cX4_can 98 = .ok (.if_icmp .eq 7, 3) := by decide +kernel
theorem dX4_can_101 : decode cX4_can 101 = .ok (.iconst 1, 1) := by decide +kernel
theorem dX4_can_102 : decode cX4_can 102 = .ok (.goto 4, 3) := by decide +kernel
theorem dX4_can_105 : decode cX4_can 105 = .ok (.iconst 0, 1) := by decide +kernel
theorem dX4_can_106 : decode cX4_can 106 = .ok (.ireturn, 1) := by decide +kernel
theorem dX4_can_107 : decode cX4_can 107 = .ok (.iconst 1, 1) := by decide +kernel
theorem dX4_can_108 : decode cX4_can 108 = .ok (.ireturn, 1) := by decide +kernel
set_option maxRecDepth 20000 in
theorem ggX4_act_X4_beginIt : GoodIn wsX4_act wsX4_beginIt := goodIn_r _ [5, 6, 7, 8, 4, 9, 10, 11, 12, 13, 14, 15, 16, 17, 18, 19, 20, 21, 22, 23, 24, 25, 26, 94, 95, 96, 97, 98, 99, 100, 101, 102, 103, 104, 105] (by decide +kernel) (by decide +kernel)
set_option maxRecDepth 20000 in
theorem gX4_act_X4_beginIt : GoodIn wsX4_act (wsV RX4 124 RX4 yX4_beginIt wsX4_beginIt) := goodIn_app (goodIn_of _ (by decide +kernel)) ggX4_act_X4_beginIt
set_option maxRecDepth 20000 in
theorem ggX4_act_X4_endIt : GoodIn wsX4_act wsX4_endIt := goodIn_r _ [30, 14, 31, 32, 33, 4, 34, 10, 11, 12, 13, 35, 36, 37, 38, 39, 40, 41, 42, 6, 7, 8, 9, 15, 16, 17, 18, 43, 44, 45, 46, 47, 48, 49, 50, 51, 52, 53, 54, 19, 20, 21, 22, 55, 56, 57, 58, 59, 60, 61, 62, 94, 95, 96, 97, 98, 99, 100, 101, 102, 103, 104, 105] (by decide +kernel) (by decide +kernel)
set_option maxRecDepth 20000 in
theorem gX4_act_X4_endIt : GoodIn wsX4_act (wsV RX4 133 RX4 yX4_endIt wsX4_endIt) := goodIn_app (goodIn_of _ (by decide +kernel)) ggX4_act_X4_endIt
set_option maxRecDepth 20000 in
theorem ggX4_act_X4_start : GoodIn wsX4_act wsX4_start := goodIn_r _ [26, 14, 19, 20, 21, 4, 22, 94, 95, 96, 97, 98, 99, 100, 101, 102, 103, 104, 105] (by decide +kernel) (by decide +kernel)
set_option maxRecDepth 20000 in
theorem gX4_act_X4_start : GoodIn wsX4_act (wsV RX4 121 RX4 yX4_start wsX4_start) := goodIn_app (goodIn_of _ (by decide +kernel)) ggX4_act_X4_start
set_option maxRecDepth 20000 in
theorem ggX4_act_X4_writeIt : GoodIn wsX4_act wsX4_writeIt := goodIn_r _ [66, 35, 36, 37, 4, 38, 14, 10, 11, 12, 13, 67, 68, 69, 70, 6, 7, 8, 9, 15, 16, 17, 18, 51, 52, 53, 54, 19, 20, 21, 22, 71, 72, 73, 74, 75, 76, 77, 43, 44, 45, 46, 55, 56, 57, 58, 78, 79, 80, 81, 82, 83, 84, 85, 39, 40, 41, 42, 94, 95, 96, 97, 98, 99, 100, 101, 102, 103, 104, 105] (by decide +kernel) (by decide +kernel)
set_option maxRecDepth 20000 in
theorem gX4_act_X4_writeIt : GoodIn wsX4_act (wsV RX4 108 RX4 yX4_writeIt wsX4_writeIt) := goodIn_app (goodIn_of _ (by decide +kernel)) ggX4_act_X4_writeIt
set_option maxRecDepth 20000 in
theorem ggX4_act_X4_deleteIt : GoodIn wsX4_act wsX4_deleteIt := goodIn_r _ [89, 78, 79, 80, 4, 81, 35, 36, 37, 38, 14, 82, 83, 84, 85, 10, 11, 12, 13, 39, 40, 41, 42, 6, 7, 8, 9, 15, 16, 17, 18, 43, 44, 45, 46, 47, 48, 49, 50, 51, 52, 53, 54, 19, 20, 21, 22, 55, 56, 57, 58, 94, 95, 96, 97, 98, 99, 100, 101, 102, 103, 104, 105] (by decide +kernel) (by decide +kernel)
set_option maxRecDepth 20000 in
theorem gX4_act_X4_deleteIt : GoodIn wsX4_act (wsV RX4 118 RX4 yX4_deleteIt wsX4_deleteIt) := goodIn_app (goodIn_of _ (by decide +kernel)) ggX4_act_X4_deleteIt
set_option maxRecDepth 20000 in
theorem ggX4_act_X4_readIt : GoodIn wsX4_act wsX4_readIt := goodIn_r _ [93, 14, 78, 79, 80, 4, 81, 35, 36, 37, 38, 82, 83, 84, 85, 10, 11, 12, 13, 39, 40, 41, 42, 6, 7, 8, 9, 15, 16, 17, 18, 43, 44, 45, 46, 51, 52, 53, 54, 19, 20, 21, 22, 94, 95, 96, 97, 98, 99, 100, 101, 102, 103, 104, 105] (by decide +kernel) (by decide +kernel)
set_option maxRecDepth 20000 in
theorem gX4_act_X4_readIt : GoodIn wsX4_act (wsV RX4 111 RX4 yX4_readIt wsX4_readIt) := goodIn_app (goodIn_of _ (by decide +kernel)) ggX4_act_X4_readIt
theorem dX4_act_0 : decode cX4_act 0 = .ok (.iload_n 1, 1) := by decide +kernel
theorem dX4_act_1 : decode cX4_act 1 = .ok (.lookupswitch 115 #[(97, 85), (100, 105), (102, 76), (103, 67), (106, 59), (119, 93)], 59) := by decide +kernel
theorem dX4_act_60 : decode cX4_act 60 = .ok (.aload_n 0, 1) := by decide +kernel
theorem dX4_act_61 : decode cX4_act 61 = .ok (.invokevirtual 124, 3) := by decide +kernel
theorem dX4_act_64 : decode cX4_act 64 = .ok (.pop, 1) := by decide +kernel
theorem dX4_act_65 : decode cX4_act 65 = .ok (.goto 58, 3) := by decide +kernel
theorem dX4_act_68 : decode cX4_act 68 = .ok (.aload_n 0, 1) := by decide +kernel
theorem dX4_act_69 : decode cX4_act 69 = .ok (.iconst 1, 1) := by decide +kernel
theorem dX4_act_70 : decode cX4_act 70 = .ok (.invokevirtual 133, 3) := by decide +kernel
theorem dX4_act_73 : decode cX4_act 73 = .ok (.pop, 1) := by decide +kernel
theorem dX4_act_74 : decode cX4_act 74 = .ok (.goto 49, 3) := by decide +kernel
theorem dX4_act_77 : decode cX4_act 77 = .ok (.aload_n 0, 1) := by decide +kernel
theorem dX4_act_78 : decode cX4_act 78 = .ok (.iconst 0, 1) := by decide +kernel
theorem dX4_act_79 : decode cX4_act 79 = .ok (.invokevirtual 133, 3) := by decide +kernel
theorem dX4_act_82 : decode cX4_act 82 = .ok (.pop, 1) := by decide +kernel
theorem dX4_act_83 : decode cX4_act 83 = .ok (.goto 40, 3) := by decide +kernel
theorem dX4_act_86 : decode cX4_act 86 = .ok (.aload_n 0, 1) := by decide +kernel
theorem dX4_act_87 : decode cX4_act 87 = .ok (.invokevirtual 121, 3) := by decide +kernel
theorem dX4_act_90 : decode cX4_act 90 = .ok (.pop, 1) := by decide +kernel
theorem dX4_act_91 : decode cX4_act 91 = .ok (.goto 32, 3) := by decide +kernel
theorem dX4_act_94 : decode cX4_act 94 = .ok (.aload_n 0, 1) := by decide +kernel
theorem dX4_act_95 : decode cX4_act 95 = .ok (.iload_n 2, 1) := by decide +kernel
theorem dX4_act_96 : decode cX4_act 96 = .ok (.iload_n 3, 1) := by decide +kernel
theorem dX4_act_97 : decode cX4_act 97 = .ok (.iload 4, 2) := by decide +kernel
theorem dX4_act_99 : decode cX4_act 99 = .ok (.invokevirtual 108, 3) := by decide +kernel
theorem dX4_act_102 : decode cX4_act 102 = .ok (.pop, 1) := by decide +kernel
theorem dX4_act_103 : decode cX4_act 103 = .ok (.goto 20, 3) := by decide +kernel
theorem dX4_act_106 : decode cX4_act 106 = .ok (.aload_n 0, 1) := by decide +kernel
theorem dX4_act_107 : decode cX4_act 107 = .ok (.iload_n 2, 1) := by decide +kernel
theorem dX4_act_108 : decode cX4_act 108 = .ok (.iload_n 3, 1) := by decide +kernel
theorem dX4_act_109 : decode cX4_act 109 = .ok (.invokevirtual 118, 3) := by decide +kernel
theorem dX4_act_112 : decode cX4_act 112 = .ok (.pop, 1) := by decide +kernel
theorem dX4_act_113 : decode cX4_act 113 = .ok (.goto 10, 3) := by decide +kernel
theorem dX4_act_116 : decode cX4_act 116 = .ok (.aload_n 0, 1) := by decide +kernel
theorem dX4_act_117 : decode cX4_act 117 = .ok (.iload_n 2, 1) := by decide +kernel
theorem dX4_act_118 : decode cX4_act 118 = .ok (.iload_n 3, 1) := by decide +kernel
theorem dX4_act_119 : decode cX4_act 119 = .ok (.invokevirtual 111, 3) := by decide +kernel
theorem dX4_act_122 : decode cX4_act 122 = .ok (.pop, 1) := by decide +kernel
theorem dX4_act_123 : decode cX4_act 123 = .ok (.return_, 1) := by decide +kernel
set_option maxRecDepth 20000 in
theorem ggX4_carryOut_X4_readPad : GoodIn wsX4_carryOut wsX4_readPad := goodIn_r _ [8, 1, 9, 10, 3, 11, 12, 13, 7, 14, 2, 15, 16, 17, 18, 19, 20, 21, 22, 23, 24, 25, 26, 27, 28, 29, 30, 31, 32, 33, 34, 35, 36, 37, 38, 153, 154, 155, 156, 157, 158, 159, 160, 161, 162, 163, 164] (by decide +kernel) (by decide +kernel)
set_option maxRecDepth 20000 in
theorem gX4_carryOut_X4_readPad : GoodIn wsX4_carryOut (wsV RX4 193 RX4 yX4_readPad wsX4_readPad) := goodIn_app (goodIn_of _ (by decide +kernel)) ggX4_carryOut_X4_readPad
set_option maxRecDepth 20000 in
theorem ggX4_carryOut_X4_record : GoodIn wsX4_carryOut wsX4_record := goodIn_r _ [42, 43, 44, 45, 153, 154, 155, 156, 157, 158, 159, 160, 161, 162, 163, 164] (by decide +kernel) (by decide +kernel)
set_option maxRecDepth 20000 in
theorem gX4_carryOut_X4_record : GoodIn wsX4_carryOut (wsV RX4 57 RX4 yX4_record wsX4_record) := goodIn_app (goodIn_of _ (by decide +kernel)) ggX4_carryOut_X4_record
set_option maxRecDepth 20000 in
theorem ggX4_carryOut_X4_can : GoodIn wsX4_carryOut wsX4_can := goodIn_r _ [49, 50, 51, 52, 7, 53, 45, 54, 55, 56, 57, 58, 59, 60, 61, 62, 63, 64, 65, 66, 67, 68, 69, 70, 71, 72, 73, 74, 75, 76, 77, 78, 79, 80, 81, 82, 83, 84, 85, 86, 87, 88, 89, 153, 154, 155, 156, 157, 158, 159, 160, 161, 162, 163, 164] (by decide +kernel) (by decide +kernel)
set_option maxRecDepth 20000 in
theorem gX4_carryOut_X4_can : GoodIn wsX4_carryOut (wsV RX4 196 RX4 yX4_can wsX4_can) := goodIn_app (goodIn_of _ (by decide +kernel)) ggX4_carryOut_X4_can
set_option maxRecDepth 20000 in
theorem ggX4_carryOut_X4_act : GoodIn wsX4_carryOut wsX4_act := goodIn_r _ [93, 94, 95, 96, 7, 97, 78, 79, 80, 81, 62, 63, 64, 65, 45, 82, 83, 84, 85, 98, 99, 100, 101, 102, 103, 104, 105, 106, 107, 108, 109, 110, 111, 112, 113, 50, 51, 52, 53, 74, 75, 76, 77, 86, 87, 88, 89, 114, 115, 116, 117, 118, 119, 120, 121, 122, 123, 124, 125, 126, 127, 128, 129, 130, 131, 132, 133, 134, 135, 136, 137, 138, 139, 140, 141, 142, 143, 144, 66, 67, 68, 69, 70, 71, 72, 73, 145, 146, 147, 148, 149, 150, 151, 152, 153, 154, 155, 156, 157, 158, 159, 160, 161, 162, 163, 164] (by decide +kernel) (by decide +kernel)
set_option maxRecDepth 20000 in
theorem gX4_carryOut_X4_act : GoodIn wsX4_carryOut (wsV RX4 199 RX4 yX4_act wsX4_act) := goodIn_app (goodIn_of _ (by decide +kernel)) ggX4_carryOut_X4_act
theorem dX4_carryOut_0 : decode cX4_carryOut 0 = .ok (.aload_n 0, 1) := by decide +kernel
theorem dX4_carryOut_1 : decode cX4_carryOut 1 = .ok (.invokevirtual 193, 3) := by decide +kernel
theorem dX4_carryOut_4 : decode cX4_carryOut 4 = .ok (.bipush (-6), 2) := by decide +kernel
theorem dX4_carryOut_6 : decode cX4_carryOut 6 = .ok (.if_icmp .eq 6, 3) := by decide +kernel
theorem dX4_carryOut_9 : decode cX4_carryOut 9 = .ok (.bipush (-3), 2) := by decide +kernel
theorem dX4_carryOut_11 : decode cX4_carryOut 11 = .ok (.ireturn, 1) := by decide +kernel
theorem dX4_carryOut_12 : decode cX4_carryOut 12 = .ok (.aload_n 0, 1) := by decide +kernel
theorem dX4_carryOut_13 : decode cX4_carryOut 13 = .ok (.invokevirtual 57, 3) := by decide +kernel
theorem dX4_carryOut_16 : decode cX4_carryOut 16 = .ok (.iconst 0, 1) := by decide +kernel
theorem dX4_carryOut_17 : decode cX4_carryOut 17 = .ok (.istore_n 1, 1) := by decide +kernel
theorem dX4_carryOut_18 : decode cX4_carryOut 18 = .ok (.iload_n 1, 1) := by decide +kernel
theorem dX4_carryOut_19 : decode cX4_carryOut 19 = .ok (.aload_n 0, 1) := by decide +kernel
theorem dX4_carryOut_20 : decode cX4_carryOut 20 = .ok (.getfield 181, 3) := by decide +kernel
theorem dX4_carryOut_23 : decode cX4_carryOut 23 = .ok (.if_icmp .ge 86, 3) := by decide +kernel
theorem dX4_carryOut_26 : decode cX4_carryOut 26 = .ok (.aload_n 0, 1) := by decide +kernel
theorem dX4_carryOut_27 : decode cX4_carryOut 27 = .ok (.aload_n 0, 1) := by decide +kernel
theorem dX4_carryOut_28 : decode cX4_carryOut 28 = .ok (.getfield 30, 3) := by decide +kernel
theorem dX4_carryOut_31 : decode cX4_carryOut 31 = .ok (.iconst 4, 1) := by decide +kernel
theorem dX4_carryOut_32 : decode cX4_carryOut 32 = .ok (.iload_n 1, 1) := by decide +kernel
theorem dX4_carryOut_33 : decode cX4_carryOut 33 = .ok (.imul, 1) := by decide +kernel
theorem dX4_carryOut_34 : decode cX4_carryOut 34 = .ok (.iaload, 1) := by decide +kernel
theorem dX4_carryOut_35 : decode cX4_carryOut 35 = .ok (.aload_n 0, 1) := by decide +kernel
theorem dX4_carryOut_36 : decode cX4_carryOut 36 = .ok (.getfield 30, 3) := by decide +kernel
theorem dX4_carryOut_39 : decode cX4_carryOut 39 = .ok (.iconst 4, 1) := by decide +kernel
theorem dX4_carryOut_40 : decode cX4_carryOut 40 = .ok (.iload_n 1, 1) := by decide +kernel
theorem dX4_carryOut_41 : decode cX4_carryOut 41 = .ok (.imul, 1) := by decide +kernel
theorem dX4_carryOut_42 : decode cX4_carryOut 42 = .ok (.iconst 1, 1) := by decide +kernel
theorem dX4_carryOut_43 : decode cX4_carryOut 43 = .ok (.iadd, 1) := by decide +kernel
theorem dX4_carryOut_44 : decode cX4_carryOut 44 = .ok (.iaload, 1) := by decide +kernel
theorem dX4_carryOut_45 : decode cX4_carryOut 45 = .ok (.aload_n 0, 1) := by decide +kernel
theorem dX4_carryOut_46 : decode cX4_carryOut 46 = .ok (.getfield 30, 3) := by decide +kernel
theorem dX4_carryOut_49 : decode cX4_carryOut 49 = .ok (.iconst 4, 1) := by decide +kernel
theorem dX4_carryOut_50 : decode cX4_carryOut 50 = .ok (.iload_n 1, 1) := by decide +kernel
theorem dX4_carryOut_51 : decode cX4_carryOut 51 = .ok (.imul, 1) := by decide +kernel
theorem dX4_carryOut_52 : decode cX4_carryOut 52 = .ok (.iconst 2, 1) := by decide +kernel
theorem dX4_carryOut_53 : decode cX4_carryOut 53 = .ok (.iadd, 1) := by decide +kernel
theorem dX4_carryOut_54 : decode cX4_carryOut 54 = .ok (.iaload, 1) := by decide +kernel
theorem dX4_carryOut_55 : decode cX4_carryOut 55 = .ok (.invokevirtual 196, 3) := by decide +kernel
theorem dX4_carryOut_58 : decode cX4_carryOut 58 = .ok (.ifCond .eq 51, 3) := by decide +kernel
theorem dX4_carryOut_61 : decode cX4_carryOut 61 = .ok (.aload_n 0, 1) := by decide +kernel
theorem dX4_carryOut_62 : decode cX4_carryOut 62 = .ok (.aload_n 0, 1) := by decide +kernel
theorem dX4_carryOut_63 : decode cX4_carryOut 63 = .ok (.getfield 30, 3) := by decide +kernel
theorem dX4_carryOut_66 : decode cX4_carryOut 66 = .ok (.iconst 4, 1) := by decide +kernel
theorem dX4_carryOut_67 : decode cX4_carryOut 67 = .ok (.iload_n 1, 1) := by decide +kernel
theorem dX4_carryOut_68 : decode cX4_carryOut 68 = .ok (.imul, 1) := by decide +kernel
theorem dX4_carryOut_69 : decode cX4_carryOut 69 = .ok (.iaload, 1) := by decide +kernel
theorem dX4_carryOut_70 : decode cX4_carryOut 70 = .ok (.aload_n 0, 1) := by decide +kernel
theorem dX4_carryOut_71 : decode cX4_carryOut 71 = .ok (.getfield 30, 3) := by decide +kernel
theorem dX4_carryOut_74 : decode cX4_carryOut 74 = .ok (.iconst 4, 1) := by decide +kernel
theorem dX4_carryOut_75 : decode cX4_carryOut 75 = .ok (.iload_n 1, 1) := by decide +kernel
theorem dX4_carryOut_76 : decode cX4_carryOut 76 = .ok (.imul, 1) := by decide +kernel
theorem dX4_carryOut_77 : decode cX4_carryOut 77 = .ok (.iconst 1, 1) := by decide +kernel
theorem dX4_carryOut_78 : decode cX4_carryOut 78 = .ok (.iadd, 1) := by decide +kernel
theorem dX4_carryOut_79 : decode cX4_carryOut 79 = .ok (.iaload, 1) := by decide +kernel
theorem dX4_carryOut_80 : decode cX4_carryOut 80 = .ok (.aload_n 0, 1) := by decide +kernel
theorem dX4_carryOut_81 : decode cX4_carryOut 81 = .ok (.getfield 30, 3) := by decide +kernel
theorem dX4_carryOut_84 : decode cX4_carryOut 84 = .ok (.iconst 4, 1) := by decide +kernel
theorem dX4_carryOut_85 : decode cX4_carryOut 85 = .ok (.iload_n 1, 1) := by decide +kernel
theorem dX4_carryOut_86 : decode cX4_carryOut 86 = .ok (.imul, 1) := by decide +kernel
theorem dX4_carryOut_87 : decode cX4_carryOut 87 = .ok (.iconst 2, 1) := by decide +kernel
theorem dX4_carryOut_88 : decode cX4_carryOut 88 = .ok (.iadd, 1) := by decide +kernel
theorem dX4_carryOut_89 : decode cX4_carryOut 89 = .ok (.iaload, 1) := by decide +kernel
theorem dX4_carryOut_90 : decode cX4_carryOut 90 = .ok (.aload_n 0, 1) := by decide +kernel
theorem dX4_carryOut_91 : decode cX4_carryOut 91 = .ok (.getfield 30, 3) := by decide +kernel
theorem dX4_carryOut_94 : decode cX4_carryOut 94 = .ok (.iconst 4, 1) := by decide +kernel
theorem dX4_carryOut_95 : decode cX4_carryOut 95 = .ok (.iload_n 1, 1) := by decide +kernel
theorem dX4_carryOut_96 : decode cX4_carryOut 96 = .ok (.imul, 1) := by decide +kernel
theorem dX4_carryOut_97 : decode cX4_carryOut 97 = .ok (.iconst 3, 1) := by decide +kernel
theorem dX4_carryOut_98 : decode cX4_carryOut 98 = .ok (.iadd, 1) := by decide +kernel
theorem dX4_carryOut_99 : decode cX4_carryOut 99 = .ok (.iaload, 1) := by decide +kernel
theorem dX4_carryOut_100 : decode cX4_carryOut 100 = .ok (.invokevirtual 199, 3) := by decide +kernel
theorem dX4_carryOut_103 : decode cX4_carryOut 103 = .ok (.iinc 1 1, 3) := by decide +kernel
theorem dX4_carryOut_106 : decode cX4_carryOut 106 = .ok (.goto (-88), 3) := by decide +kernel
theorem dX4_carryOut_109 : decode cX4_carryOut 109 = .ok (.aload_n 0, 1) := by decide +kernel
theorem dX4_carryOut_110 : decode cX4_carryOut 110 = .ok (.iconst 0, 1) := by decide +kernel
theorem dX4_carryOut_111 : decode cX4_carryOut 111 = .ok (.putfield 151, 3) := by decide +kernel
theorem dX4_carryOut_114 : decode cX4_carryOut 114 = .ok (.iload_n 1, 1) := by decide +kernel
theorem dX4_carryOut_115 : decode cX4_carryOut 115 = .ok (.ireturn, 1) := by decide +kernel
end
section
-- numbers: an int as the image of a whole number
def iI (x : Int) : Int32 := Int32.ofInt x
abbrev rg (x : Int) : Prop := -2147483648 ≤ x ∧ x < 2147483648
theorem iI_add (a b : Int) : iI a + iI b = iI (a + b) := by
  apply Int32.toInt_inj.mp
  rw [Int32.toInt_add]
  simp only [iI, Int32.toInt_ofInt]
  exact (Int.add_bmod a b (2 ^ 32)).symm
theorem iI_neg (a : Int) : - iI a = iI (-a) := Int32.neg_ofInt
theorem iI_sub (a b : Int) : iI a - iI b = iI (a - b) := by rw [Int32.sub_eq_add_neg, iI_neg, iI_add, Int.sub_eq_add_neg]
theorem iI_mul (a b : Int) : iI a * iI b = iI (a * b) := by
  apply Int32.toInt_inj.mp
  rw [Int32.toInt_mul]
  simp only [iI, Int32.toInt_ofInt]
  exact (Int.mul_bmod a b (2 ^ 32)).symm
theorem iI_toInt (x : Int32) : iI x.toInt = x := Int32.ofInt_toInt x
theorem iI_rg (x : Int32) : rg x.toInt := ⟨x.le_toInt, x.toInt_lt⟩
theorem toInt_iI {x : Int} (h : rg x) : (iI x).toInt = x := Int32.toInt_ofInt_of_le h.1 h.2
theorem iI_le {a b : Int} (ha : rg a) (hb : rg b) : iI a ≤ iI b ↔ a ≤ b := by rw [Int32.le_iff_toInt_le, toInt_iI ha, toInt_iI hb]
theorem iI_lt {a b : Int} (ha : rg a) (hb : rg b) : iI a < iI b ↔ a < b := by rw [Int32.lt_iff_toInt_lt, toInt_iI ha, toInt_iI hb]
theorem iI_eq {a b : Int} (ha : rg a) (hb : rg b) : iI a = iI b ↔ a = b := by rw [← Int32.toInt_inj, toInt_iI ha, toInt_iI hb]
theorem iI_0 : (0 : Int32) = iI 0 := rfl
theorem iI_ix {x : Int} (h : rg x) : (iI x).toNatClampNeg = x.toNat := Int32.toNatClampNeg_ofInt_of_le h.1 h.2
theorem iI_in {x : Int} {n : Nat} (h0 : 0 ≤ x) (h1 : x < n) (hn : x < 2147483648) : vp_in (iI x) n := by
  have hr : rg x := ⟨by omega, hn⟩
  intro h
  rcases h with h | h
  · rw [iI_0, iI_lt hr ⟨by omega, by omega⟩] at h
    omega
  · rw [iI_ix hr] at h
    omega
theorem iI_nI (n : Nat) : iI (n : Int) = nI n := Int32.ofInt_eq_ofNat
theorem iI_rem {a b : Int} (ha : rg a) (hb : rg b) (h0 : 0 < b) : iI a - iI a / iI b * iI b = iI (a.tmod b) := by
  apply Int32.toInt_inj.mp
  have hne : iI b ≠ -1 := fun e => by
    have h1 : (iI b).toInt = (-1 : Int32).toInt := by rw [e]
    rw [toInt_iI hb] at h1
    have h2 : (-1 : Int32).toInt = -1 := rfl
    omega
  have hd : (iI a / iI b).toInt = a.tdiv b := by rw [Int32.toInt_div_of_ne_right _ _ hne, toInt_iI ha, toInt_iI hb]
  have e1 : iI a / iI b = iI (a.tdiv b) := by rw [← hd, iI_toInt]
  rw [e1, iI_mul, iI_sub]
  have e2 : a - a.tdiv b * b = a.tmod b := by
    have h := Int.mul_tdiv_add_tmod a b
    have h3 : a.tdiv b * b = b * a.tdiv b := Int.mul_comm _ _
    omega
  rw [e2]
theorem iI_and7 (x : Int) : iI x &&& iI 7 = iI (x % 8) := by
  apply Int32.toBitVec_inj.mp
  show BitVec.ofInt 32 x &&& BitVec.ofInt 32 7 = BitVec.ofInt 32 (x % 8)
  apply BitVec.eq_of_toNat_eq
  rw [BitVec.toNat_and]
  have e7 : (BitVec.ofInt 32 7).toNat = 2 ^ 3 - 1 := by decide
  rw [e7, Nat.and_two_pow_sub_one_eq_mod, BitVec.toNat_ofInt, BitVec.toNat_ofInt]
  omega
theorem upd_iI (f : Nat → Int) (k : Nat) (x : Int) : upd (fun j => iI (f j)) k (iI x) = fun j => iI (va_up f k x j) := by
  funext j
  show (if j = k then iI x else iI (f j)) = iI (if j = k then x else f j)
  split <;> rfl
-- worlds by members
theorem zP_iff {D : va_G} {cl : List vw_C} {ws : va_W} {H : Heap} : va_P D cl ws H ↔ ∀ q ∈ ws, va_at D cl q H := by
  constructor
  · intro h q hq
    obtain ⟨i, hi⟩ := List.getElem?_of_mem hq
    exact h i q hi
  · intro h k q hk
    exact h q (List.mem_of_getElem? hk)
theorem zP_perm {D : va_G} {cl : List vw_C} {w1 w2 : va_W} {H : Heap} (h : va_P D cl w1 H) (hp : w1.Perm w2) : va_P D cl w2 H :=
  zP_iff.mpr fun q hq => zP_iff.mp h q (hp.mem_iff.mpr hq)
theorem zD_iff {A : Nat → Prop} {ws : va_W} : va_D A ws ↔ (ws.map Prod.fst).Nodup ∧ ∀ q ∈ ws, A q.1 := by
  constructor
  · intro h
    refine ⟨?_, fun q hq => ?_⟩
    · rw [List.nodup_iff_pairwise_ne, List.pairwise_iff_getElem]
      intro i j hi hj hij he
      rw [List.length_map] at hi hj
      rw [List.getElem_map, List.getElem_map] at he
      have := h.1 i j _ _ (List.getElem?_eq_getElem hi) (List.getElem?_eq_getElem hj) he
      omega
    · obtain ⟨i, hi⟩ := List.getElem?_of_mem hq
      exact h.2 i q hi
  · intro h
    refine ⟨fun i j p q hp hq he => ?_, fun k q hk => h.2 q (List.mem_of_getElem? hk)⟩
    have h1 := h.1
    rw [List.nodup_iff_pairwise_ne, List.pairwise_iff_getElem] at h1
    obtain ⟨hi, ei⟩ := List.getElem?_eq_some_iff.mp hp
    obtain ⟨hj, ej⟩ := List.getElem?_eq_some_iff.mp hq
    rcases Nat.lt_trichotomy i j with c | c | c
    · have := h1 i j (by simpa using hi) (by simpa using hj) c
      simp only [List.getElem_map, ei, ej] at this
      exact absurd he this
    · exact c
    · have := h1 j i (by simpa using hj) (by simpa using hi) c
      simp only [List.getElem_map, ei, ej] at this
      exact absurd he.symm this
theorem zD_perm {A : Nat → Prop} {w1 w2 : va_W} (h : va_D A w1) (hp : w1.Perm w2) : va_D A w2 := by
  rw [zD_iff] at h ⊢
  exact ⟨(hp.map Prod.fst).nodup h.1, fun q hq => h.2 q (hp.mem_iff.mpr hq)⟩
theorem zA_perm {w1 w2 : va_W} {sz : Nat} (hp : w1.Perm w2) {q : Nat} (h : va_A w1 sz q) : va_A w2 sz q := by
  rcases h with ⟨k, e, h⟩ | h
  · obtain ⟨i, hi⟩ := List.getElem?_of_mem (hp.mem_iff.mp (List.mem_of_getElem? h))
    exact Or.inl ⟨i, e, hi⟩
  · exact Or.inr h
theorem zP_left {D : va_G} {cl : List vw_C} {w1 w2 : va_W} {H : Heap} (h : va_P D cl (w1 ++ w2) H) : va_P D cl w1 H :=
  zP_iff.mpr fun q hq => zP_iff.mp h q (List.mem_append_left _ hq)
theorem zP_right {D : va_G} {cl : List vw_C} {w1 w2 : va_W} {H : Heap} (h : va_P D cl (w1 ++ w2) H) : va_P D cl w2 H :=
  zP_iff.mpr fun q hq => zP_iff.mp h q (List.mem_append_right _ hq)
theorem zD_app {A : Nat → Prop} {w1 w2 : va_W} : va_D A (w1 ++ w2) ↔ va_D A w1 ∧ va_D A w2 ∧ ∀ p ∈ w1, ∀ q ∈ w2, p.1 ≠ q.1 := by
  rw [zD_iff, zD_iff, zD_iff, List.map_append, List.nodup_append]
  constructor
  · rintro ⟨⟨h1, h2, h3⟩, h4⟩
    refine ⟨⟨h1, fun q hq => h4 q (List.mem_append_left _ hq)⟩, ⟨h2, fun q hq => h4 q (List.mem_append_right _ hq)⟩, fun p hp q hq => ?_⟩
    exact h3 p.1 (List.mem_map_of_mem hp) q.1 (List.mem_map_of_mem hq)
  · rintro ⟨⟨h1, h4⟩, ⟨h2, h5⟩, h3⟩
    refine ⟨⟨h1, h2, fun a ha b hb => ?_⟩, fun q hq => (List.mem_append.mp hq).elim (h4 q) (h5 q)⟩
    obtain ⟨p, hp, rfl⟩ := List.mem_map.mp ha
    obtain ⟨q, hq, rfl⟩ := List.mem_map.mp hb
    exact h3 p hp q hq
/-- behind a call: what came back beside the rest, which is unchanged -/
theorem z_join {D : va_G} {cl : List vw_C} {A0 : Nat → Prop} {w wr w1 : va_W} {H H1 : Heap} (hP : va_P D cl (w ++ wr) H) (hD : va_D A0 (w ++ wr)) (hk : ∀ q : Nat, q < H.size → ¬ va_A w H.size q → H1[q]? = H[q]?) (hF : ∀ q, va_A w H.size q → A0 q) (hP1 : va_P D cl w1 H1) (hD1 : va_D (va_A w H.size) w1) : va_P D cl (w1 ++ wr) H1 ∧ va_D A0 (w1 ++ wr) := by
  have hx := (zD_app.mp hD).2.2
  have hout : ∀ q ∈ wr, q.1 < H.size ∧ ¬ va_A w H.size q.1 := by
    intro q hq
    have hl : q.1 < H.size := by
      obtain ⟨i, hi⟩ := List.getElem?_of_mem (List.mem_append_right w hq)
      exact (hP i q hi).lt
    refine ⟨hl, fun h => ?_⟩
    rcases h with ⟨k, e, h⟩ | h
    · exact hx _ (List.mem_of_getElem? h) q hq rfl
    · omega
  refine ⟨zP_iff.mpr fun q hq => ?_, zD_app.mpr ⟨hD1.weaken (fun _ q _ h => hF q.1 h), (zD_app.mp hD).2.1, fun p hp q hq he => ?_⟩⟩
  · rcases List.mem_append.mp hq with h | h
    · exact zP_iff.mp hP1 q h
    · exact (zP_iff.mp (zP_right hP) q h).kept (hk q.1 (hout q h).1 (hout q h).2)
  · obtain ⟨i, hi⟩ := List.getElem?_of_mem hp
    have := hD1.2 i p hi
    rw [he] at this
    exact (hout q hq).2 this
end
section
-- contracts of methods that make nothing: from a world of cells to a world of cells
abbrev zE : Type := va_G × (Nat → ClassId)
abbrev zT (E : zE) : List (ClassId × FieldType) := [(E.2 0, .int), (E.2 1, .boolean), (E.2 2, .char), (E.2 3, .object RX0), (E.2 4, .object RX2)]
def zPre (E : zE) (w : va_W) (sz : Nat) : State → Prop := fun U => U.heap.size = sz ∧ va_P E.1 vwCl w U.heap ∧ va_K E.1 vwCl (zT E) U ∧ va_D (fun _ => True) w
def zB (E : zE) (A : Nat → Prop) {S : Type} (w : S → va_W) : S → State → Prop := fun u t => va_P E.1 vwCl (w u) t.heap ∧ va_K E.1 vwCl (zT E) t ∧ va_D A (w u)
def zQ (E : zE) (A : Nat → Prop) {S : Type} (post : Int → S → Prop) (w : S → va_W) : Array Value → State → Outcome → State → Prop := va_Qi (fun (r : Int32) (u : S) => ∃ x : Int, r = iI x ∧ post x u) (zB E A w) A
def zQv (E : zE) (A : Nat → Prop) {S : Type} (post : S → Prop) (w : S → va_W) : Array Value → State → Outcome → State → Prop := va_Qv post (zB E A w) A
abbrev zR (fr lc : Nat) : Room := { frames := fr, cells := 0, slots := 0, locals := lc }
def zC (l : Launch) (E : zE) (y : MethodName) (ws : List Cond) (fr lc : Nat) (as : List Value) (w : va_W) {S : Type} (post : Int → S → Prop) (w' : S → va_W) : Prop :=
  ∀ sz : Nat, Met l y ws (zR fr lc) (va_Pc as (zPre E w sz)) (zQ E (va_A w sz) post w') 0 0 (va_A w sz)
def zCv (l : Launch) (E : zE) (y : MethodName) (ws : List Cond) (fr lc : Nat) (as : List Value) (w : va_W) {S : Type} (post : S → Prop) (w' : S → va_W) : Prop :=
  ∀ sz : Nat, Met l y ws (zR fr lc) (va_Pc as (zPre E w sz)) (zQv E (va_A w sz) post w') 0 0 (va_A w sz)
/-- an answer and a world, told outright -/
abbrev zF (l : Launch) (E : zE) (y : MethodName) (ws : List Cond) (fr lc : Nat) (as : List Value) (w : va_W) (r : Int) (w2 : va_W) : Prop := zC l E y ws fr lc as w (S := Unit) (fun x _ => x = r) (fun _ => w2)
abbrev zFv (l : Launch) (E : zE) (y : MethodName) (ws : List Cond) (fr lc : Nat) (as : List Value) (w : va_W) (w2 : va_W) : Prop := zCv l E y ws fr lc as w (S := Unit) (fun _ => True) (fun _ => w2)
theorem zPre_blind {E : zE} {w : va_W} {sz : Nat} {as : List Value} : FrameBlind (va_Pc as (zPre E w sz)) := by
  intro a U g mk q
  obtain ⟨q0, q1, qP, qK, qD⟩ := q
  exact ⟨q0, q1, qP, va_K.moved (u := U) (U := U.calling g mk a) (Vm.Alike.refl U.vm) qK, qD⟩
/-- a method's entry -/
theorem zC_of {l : Launch} {E : zE} {y : MethodName} {ws ws' : List Cond} {fr lc : Nat} {as : List Value} {w : va_W} {S : Type} {post : Int → S → Prop} {w' : S → va_W} {cc : ByteArray} {maxL : Nat} {ty : FieldType}
    (hy : plainName y.cls = true) (hw : ws = Cond.code y cc maxL (some ty) :: ws') (hn : (lg_sl as).length ≤ maxL)
    (body : ∀ (p : Program) (e : Env) (s : State) (m : MethodId) (below : List Frame) (meth : Method) (c : Code) (ls : Array Slot) (A : Nat → Prop), p.tables.exec = Jvm.exec → c.code = cc → meth.sig.returnType = some ty → (∀ v ∈ ws, v.before as.toArray s = true) → s.vm.findClass y.cls = some m.cls → meth.locks = false → c.maxLocals = maxL →
      va_K E.1 vwCl (zT E) s → (∀ q : Nat, s.heap.size ≤ q → A q) → va_S A s.heap s.heap [] → va_P E.1 vwCl w s.heap → va_D A w → lv_has ls maxL (lv_args 0 as) →
      W p l e (zR fr lc) s m as.toArray below meth c s.heap [] 0 0 (MQ below (zQ E A post w') as.toArray s 0 0 A) (F0 m 0 ls [])) : zC l E y ws fr lc as w post w' := by
  intro sz
  refine Met.ofW (cc := cc) (maxL := maxL) (ret := some ty) hy hw ?_
  intro p e s m args below meth c s₁ B hml hv
  obtain ⟨rfl, hsz, hP, hK, hD0⟩ := hv
  have hx := B.exec
  have hb := B.bytes
  have hr := B.returns
  have hts := atoms_spec (ws := ws) B.pre
  have hown : s.vm.findClass y.cls = some m.cls := findClass_of_methodNamed B.named
  have hlocks := B.notSynchronized
  subst hsz
  have hD := hD0.self (sz := s.heap.size)
  rw [lg_entry_eq]
  exact body p e s m below meth c _ (va_A w s.heap.size) hx hb hr hts hown hlocks hml hK (fun q h => Or.inr h) va_S.rf hP hD (lv_entry as hn)
theorem zCv_of {l : Launch} {E : zE} {y : MethodName} {ws ws' : List Cond} {fr lc : Nat} {as : List Value} {w : va_W} {S : Type} {post : S → Prop} {w' : S → va_W} {cc : ByteArray} {maxL : Nat}
    (hy : plainName y.cls = true) (hw : ws = Cond.code y cc maxL none :: ws') (hn : (lg_sl as).length ≤ maxL)
    (body : ∀ (p : Program) (e : Env) (s : State) (m : MethodId) (below : List Frame) (meth : Method) (c : Code) (ls : Array Slot) (A : Nat → Prop), p.tables.exec = Jvm.exec → c.code = cc → meth.sig.returnType = none → (∀ v ∈ ws, v.before as.toArray s = true) → s.vm.findClass y.cls = some m.cls → meth.locks = false → c.maxLocals = maxL →
      va_K E.1 vwCl (zT E) s → (∀ q : Nat, s.heap.size ≤ q → A q) → va_S A s.heap s.heap [] → va_P E.1 vwCl w s.heap → va_D A w → lv_has ls maxL (lv_args 0 as) →
      W p l e (zR fr lc) s m as.toArray below meth c s.heap [] 0 0 (MQ below (zQv E A post w') as.toArray s 0 0 A) (F0 m 0 ls [])) : zCv l E y ws fr lc as w post w' := by
  intro sz
  refine Met.ofW (cc := cc) (maxL := maxL) (ret := none) hy hw ?_
  intro p e s m args below meth c s₁ B hml hv
  obtain ⟨rfl, hsz, hP, hK, hD0⟩ := hv
  have hx := B.exec
  have hb := B.bytes
  have hr := B.returns
  have hts := atoms_spec (ws := ws) B.pre
  have hown : s.vm.findClass y.cls = some m.cls := findClass_of_methodNamed B.named
  have hlocks := B.notSynchronized
  subst hsz
  have hD := hD0.self (sz := s.heap.size)
  rw [lg_entry_eq]
  exact body p e s m below meth c _ (va_A w s.heap.size) hx hb hr hts hown hlocks hml hK (fun q h => Or.inr h) va_S.rf hP hD (lv_entry as hn)
section
variable {p : Program} {l : Launch} {e : Env} {R : Room} {s : State} {m : MethodId} {args : Array Value} {below : List Frame} {meth : Method} {c : Code} {H : Heap} {locs : List Loc} {cells slots : Nat} {Q : State → Prop}
variable {cc : ByteArray} {pc : Nat} {ls : Array Slot} {rest : List Value} {E : zE} {A : Nat → Prop} {H0 : Heap}
/-- the ends of a method -/
theorem z_iret {S : Type} {post : Int → S → Prop} {w' : S → va_W} (hx : p.tables.exec = Jvm.exec) (hb : c.code = cc) (hr : meth.sig.returnType = some .int) (hlocks : meth.locks = false) (hK : va_K E.1 vwCl (zT E) s) (hS : va_S A s.heap H locs) {x : Int} (u : S) (hpost : post x u) (hP : va_P E.1 vwCl (w' u) H) (hD : va_D A (w' u)) (hdg : decode cc pc = .ok (.ireturn, 1)) :
    W p l e R s m args below meth c H locs cells slots (MQ below (zQ E A post w') args s cells slots A) (F0 m pc ls [.int (iI x)]) :=
  W.iret (v := iI x) hx hb hr (fun t ht hW => ⟨⟨iI x, u, rfl, ⟨x, rfl, hpost⟩, by rw [ht]; exact hP, va_K.moved hW.alike hK, hD⟩, hS.F ht⟩) hS.2.2 hdg hlocks
theorem z_zret {S : Type} {post : Int → S → Prop} {w' : S → va_W} (hx : p.tables.exec = Jvm.exec) (hb : c.code = cc) (hr : meth.sig.returnType = some .boolean) (hlocks : meth.locks = false) (hK : va_K E.1 vwCl (zT E) s) (hS : va_S A s.heap H locs) {x : Int} (h01 : x = 0 ∨ x = 1) (u : S) (hpost : post x u) (hP : va_P E.1 vwCl (w' u) H) (hD : va_D A (w' u)) (hdg : decode cc pc = .ok (.ireturn, 1)) :
    W p l e R s m args below meth c H locs cells slots (MQ below (zQ E A post w') args s cells slots A) (F0 m pc ls [.int (iI x)]) :=
  W.zret (v := iI x) hx hb hr (by rcases h01 with rfl | rfl <;> rfl) (fun t ht hW => ⟨⟨iI x, u, rfl, ⟨x, rfl, hpost⟩, by rw [ht]; exact hP, va_K.moved hW.alike hK, hD⟩, hS.F ht⟩) hS.2.2 hdg hlocks
theorem z_vret {S : Type} {post : S → Prop} {w' : S → va_W} (hx : p.tables.exec = Jvm.exec) (hb : c.code = cc) (hr : meth.sig.returnType = none) (hlocks : meth.locks = false) (hK : va_K E.1 vwCl (zT E) s) (hS : va_S A s.heap H locs) (u : S) (hpost : post u) (hP : va_P E.1 vwCl (w' u) H) (hD : va_D A (w' u)) (hdg : decode cc pc = .ok (.return_, 1)) :
    W p l e R s m args below meth c H locs cells slots (MQ below (zQv E A post w') args s cells slots A) (F0 m pc ls []) :=
  W.vret hx hb hr (fun t ht hW => ⟨⟨u, rfl, hpost, by rw [ht]; exact hP, va_K.moved hW.alike hK, hD⟩, hS.F ht⟩) hS.2.2 hdg hlocks
/-- calls: the callee's cells w first, the rest wr unchanged -/
theorem z_callV {own C : String} {index nL maxL n ci qk fr lc : Nat} {y : MethodName} {bytes : ByteArray} {ret : Option FieldType} {Ts ws ws' : List Cond} {b : Nat} {As st0 : List Value} {w wr : va_W} {S : Type} {post : Int → S → Prop} {w' : S → va_W} {q : vw_C} {fs : List Value}
    (hx : p.tables.exec = Jvm.exec) (hb : c.code = cc) (hml : c.maxLocals = nL) (hown : s.vm.findClass own = some m.cls) (hts : ∀ v ∈ Ts, v.before args s = true) (hK : va_K E.1 vwCl (zT E) s) (hA : ∀ q : Nat, H0.size ≤ q → A q) (hls : ls.size = nL)
    (hP : va_P E.1 vwCl (w ++ wr) H) (hD : va_D A (w ++ wr)) (hS : va_S A H0 H locs)
    (hC : zC l E y ws fr lc (.ref b :: As) w post w') (hG : GoodIn Ts (wsV own index C y ws)) (hw : ws = Cond.code y bytes maxL ret :: ws')
    (hd : y.cls = C ∧ y.cls ≠ "java/lang/invoke/MethodHandle" ∧ y.cls ≠ "java/lang/invoke/VarHandle" ∧ (parseMethodDescriptor y.desc).map (fun d => d.parameters.length) = some n)
    (hR : fr + 1 ≤ R.frames ∧ 8 + (maxL + 11) + lc ≤ R.locals) (hc : vwCl[ci]? = some q) (hq : q.1 = C) (he : w[qk]? = some (b, .inr (ci, fs)))
    (hn : As.length = n) (hst : st0 = As.reverse ++ .ref b :: rest) (hroom : (rest.map fun v => v.category).sum ≤ 8) (hdg : decode cc pc = .ok (.invokevirtual index, 3)) (hf : cells ≤ R.cells ∧ slots ≤ R.slots)
    (kk : ∀ (x : Int) (u : S) (H1 : Heap) (locs1 : List Loc), post x u → va_P E.1 vwCl (w' u ++ wr) H1 → va_D A (w' u ++ wr) → va_S A H0 H1 locs1 → W p l e R s m args below meth c H1 locs1 cells slots Q (F0 m (pc + 3) ls (.int (iI x) :: rest))) :
    W p l e R s m args below meth c H locs cells slots Q (F0 m pc ls st0) := by
  subst hq
  have hFc : ∀ q, va_A w H.size q → A q := fun q h => by
    rcases h with ⟨k, e, h⟩ | h
    · exact (zD_iff.mp hD).2 (q, e) (List.mem_append_left _ (List.mem_of_getElem? h))
    · exact hA q (Nat.le_trans hS.1 h)
  have hPc := zP_left hP
  have hDc := (zD_app.mp hD).1
  refine va_calli (mc := 0) (ms := 0) (va_runV (As := As) (rest := rest) ⟨hx, hb, hml, hown, hts⟩ (hC H.size) (cwV n hts hG hw rfl rfl hd hR) ⟨zPre_blind, va_recv hK hPc hc he, fun U hU hW => ⟨rfl, by rw [hU], by rw [hU]; exact hPc, va_K.moved hW.alike hK, hDc.weaken (fun _ _ _ _ => trivial)⟩⟩ rfl hn hls hst (lv_room hroom) hdg hf) hS (fun q _ h => hFc q h) hFc (fun r u t H1 locs1 ht hvm hp hB hz1 hk1 hS1 => ?_)
  obtain ⟨x, rfl, hx1⟩ := hp
  obtain ⟨hP1, hK1, hD1⟩ := hB
  rw [ht] at hP1
  obtain ⟨hP2, hD2⟩ := z_join hP hD hk1 hFc hP1 hD1
  exact kk x u H1 locs1 hx1 hP2 hD2 hS1
theorem z_callVv {own C : String} {index nL maxL n ci qk fr lc : Nat} {y : MethodName} {bytes : ByteArray} {ret : Option FieldType} {Ts ws ws' : List Cond} {b : Nat} {As st0 : List Value} {w wr : va_W} {S : Type} {post : S → Prop} {w' : S → va_W} {q : vw_C} {fs : List Value}
    (hx : p.tables.exec = Jvm.exec) (hb : c.code = cc) (hml : c.maxLocals = nL) (hown : s.vm.findClass own = some m.cls) (hts : ∀ v ∈ Ts, v.before args s = true) (hK : va_K E.1 vwCl (zT E) s) (hA : ∀ q : Nat, H0.size ≤ q → A q) (hls : ls.size = nL)
    (hP : va_P E.1 vwCl (w ++ wr) H) (hD : va_D A (w ++ wr)) (hS : va_S A H0 H locs)
    (hC : zCv l E y ws fr lc (.ref b :: As) w post w') (hG : GoodIn Ts (wsV own index C y ws)) (hw : ws = Cond.code y bytes maxL ret :: ws')
    (hd : y.cls = C ∧ y.cls ≠ "java/lang/invoke/MethodHandle" ∧ y.cls ≠ "java/lang/invoke/VarHandle" ∧ (parseMethodDescriptor y.desc).map (fun d => d.parameters.length) = some n)
    (hR : fr + 1 ≤ R.frames ∧ 8 + (maxL + 11) + lc ≤ R.locals) (hc : vwCl[ci]? = some q) (hq : q.1 = C) (he : w[qk]? = some (b, .inr (ci, fs)))
    (hn : As.length = n) (hst : st0 = As.reverse ++ .ref b :: rest) (hroom : (rest.map fun v => v.category).sum ≤ 8) (hdg : decode cc pc = .ok (.invokevirtual index, 3)) (hf : cells ≤ R.cells ∧ slots ≤ R.slots)
    (kk : ∀ (u : S) (H1 : Heap) (locs1 : List Loc), post u → va_P E.1 vwCl (w' u ++ wr) H1 → va_D A (w' u ++ wr) → va_S A H0 H1 locs1 → W p l e R s m args below meth c H1 locs1 cells slots Q (F0 m (pc + 3) ls rest)) :
    W p l e R s m args below meth c H locs cells slots Q (F0 m pc ls st0) := by
  subst hq
  have hFc : ∀ q, va_A w H.size q → A q := fun q h => by
    rcases h with ⟨k, e, h⟩ | h
    · exact (zD_iff.mp hD).2 (q, e) (List.mem_append_left _ (List.mem_of_getElem? h))
    · exact hA q (Nat.le_trans hS.1 h)
  have hPc := zP_left hP
  have hDc := (zD_app.mp hD).1
  refine va_callv (mc := 0) (ms := 0) (va_runV (As := As) (rest := rest) ⟨hx, hb, hml, hown, hts⟩ (hC H.size) (cwV n hts hG hw rfl rfl hd hR) ⟨zPre_blind, va_recv hK hPc hc he, fun U hU hW => ⟨rfl, by rw [hU], by rw [hU]; exact hPc, va_K.moved hW.alike hK, hDc.weaken (fun _ _ _ _ => trivial)⟩⟩ rfl hn hls hst (lv_room hroom) hdg hf) hS (fun q _ h => hFc q h) hFc (fun u t H1 locs1 ht hvm hp hB hz1 hk1 hS1 => ?_)
  obtain ⟨hP1, hK1, hD1⟩ := hB
  rw [ht] at hP1
  obtain ⟨hP2, hD2⟩ := z_join hP hD hk1 hFc hP1 hD1
  exact kk u H1 locs1 hp hP2 hD2 hS1
theorem z_callS {own : String} {index nL maxL n fr lc : Nat} {y : MethodName} {bytes : ByteArray} {ret : Option FieldType} {Ts ws ws' : List Cond} {As st0 : List Value} {w wr : va_W} {S : Type} {post : Int → S → Prop} {w' : S → va_W}
    (hx : p.tables.exec = Jvm.exec) (hb : c.code = cc) (hml : c.maxLocals = nL) (hown : s.vm.findClass own = some m.cls) (hts : ∀ v ∈ Ts, v.before args s = true) (hK : va_K E.1 vwCl (zT E) s) (hA : ∀ q : Nat, H0.size ≤ q → A q) (hls : ls.size = nL)
    (hP : va_P E.1 vwCl (w ++ wr) H) (hD : va_D A (w ++ wr)) (hS : va_S A H0 H locs)
    (hC : zC l E y ws fr lc As w post w') (hG : GoodIn Ts (wsS own index y ws)) (hw : ws = Cond.code y bytes maxL ret :: ws')
    (hd : y.cls = own ∧ y.cls ≠ "java/lang/invoke/MethodHandle" ∧ y.cls ≠ "java/lang/invoke/VarHandle" ∧ (parseMethodDescriptor y.desc).map (fun d => d.parameters.length) = some n)
    (hR : fr + 1 ≤ R.frames ∧ 8 + (maxL + 11) + lc ≤ R.locals)
    (hn : As.length = n) (hst : st0 = As.reverse ++ rest) (hroom : (rest.map fun v => v.category).sum ≤ 8) (hdg : decode cc pc = .ok (.invokestatic index, 3)) (hf : cells ≤ R.cells ∧ slots ≤ R.slots)
    (kk : ∀ (x : Int) (u : S) (H1 : Heap) (locs1 : List Loc), post x u → va_P E.1 vwCl (w' u ++ wr) H1 → va_D A (w' u ++ wr) → va_S A H0 H1 locs1 → W p l e R s m args below meth c H1 locs1 cells slots Q (F0 m (pc + 3) ls (.int (iI x) :: rest))) :
    W p l e R s m args below meth c H locs cells slots Q (F0 m pc ls st0) := by
  have hFc : ∀ q, va_A w H.size q → A q := fun q h => by
    rcases h with ⟨k, e, h⟩ | h
    · exact (zD_iff.mp hD).2 (q, e) (List.mem_append_left _ (List.mem_of_getElem? h))
    · exact hA q (Nat.le_trans hS.1 h)
  have hPc := zP_left hP
  have hDc := (zD_app.mp hD).1
  refine va_calli (mc := 0) (ms := 0) (va_runS (As := As) (rest := rest) ⟨hx, hb, hml, hown, hts⟩ (hC H.size) (cwS n hts hG hw rfl rfl hd hR) ⟨zPre_blind, fun U hU hW => ⟨rfl, by rw [hU], by rw [hU]; exact hPc, va_K.moved hW.alike hK, hDc.weaken (fun _ _ _ _ => trivial)⟩⟩ rfl hn hls hst (lv_room hroom) hdg hf) hS (fun q _ h => hFc q h) hFc (fun r u t H1 locs1 ht hvm hp hB hz1 hk1 hS1 => ?_)
  obtain ⟨x, rfl, hx1⟩ := hp
  obtain ⟨hP1, hK1, hD1⟩ := hB
  rw [ht] at hP1
  obtain ⟨hP2, hD2⟩ := z_join hP hD hk1 hFc hP1 hD1
  exact kk x u H1 locs1 hx1 hP2 hD2 hS1
end
end
section
-- rows over whole numbers
def iU (f : Int → Int) (k v : Int) : Int → Int := fun j => if j = k then v else f j
theorem iU_same (f : Int → Int) (k v : Int) : iU f k v k = v := if_pos rfl
theorem iU_ne {f : Int → Int} {k v j : Int} (h : j ≠ k) : iU f k v j = f j := if_neg h
def zb (P : Prop) [Decidable P] : Int := if P then 1 else 0
theorem zb_t {P : Prop} [Decidable P] (h : P) : zb P = 1 := if_pos h
theorem zb_f {P : Prop} [Decidable P] (h : ¬ P) : zb P = 0 := if_neg h
theorem zb_t' {P : Prop} [Decidable P] (h : P) : 1 = zb P := (if_pos h).symm
theorem zb_f' {P : Prop} [Decidable P] (h : ¬ P) : 0 = zb P := (if_neg h).symm
theorem zb_01 {P : Prop} [Decidable P] : zb P = 0 ∨ zb P = 1 := by unfold zb; split <;> simp
theorem zb_rg {P : Prop} [Decidable P] : rg (zb P) := by unfold zb; split <;> exact ⟨by omega, by omega⟩
theorem zb_of {P : Prop} [Decidable P] (h : ¬ zb P = 0) : P := by
  by_cases q : P
  · exact q
  · exact absurd (zb_f q) h
theorem row_get (f : Int → Int) {x : Int} (h : 0 ≤ x) (hr : x < 2147483648) : iI (f ((iI x).toNatClampNeg : Int)) = iI (f x) := by
  rw [iI_ix ⟨by omega, hr⟩, Int.toNat_of_nonneg h]
theorem row_set (f : Int → Int) {x v : Int} (h : 0 ≤ x) (hr : x < 2147483648) : upd (fun j : Nat => iI (f j)) (iI x).toNatClampNeg (iI v) = fun j : Nat => iI (iU f x v j) := by
  funext j
  rw [iI_ix ⟨by omega, hr⟩]
  show (if j = x.toNat then iI v else iI (f j)) = iI (if (j : Int) = x then v else f j)
  by_cases hj : j = x.toNat
  · rw [if_pos hj, if_pos (by omega)]
  · rw [if_neg hj, if_neg (by omega)]
section
variable {p : Program} {l : Launch} {e : Env} {R : Room} {s : State} {m : MethodId} {args : Array Value} {below : List Frame} {meth : Method} {c : Code} {H : Heap} {locs : List Loc} {cells slots : Nat} {Q : State → Prop}
variable {cc : ByteArray} {pc : Nat} {ls : Array Slot} {rest : List Value} {A : Nat → Prop} {H0 : Heap} {D : va_G} {cl : List vw_C} {tys : List (ClassId × FieldType)} {ws : va_W} {a : Nat}
theorem z_iadd (hx : p.tables.exec = Jvm.exec) (hb : c.code = cc) {x y : Int} (hdg : decode cc pc = .ok (.iadd, 1)) (k : W p l e R s m args below meth c H locs cells slots Q (F0 m (pc + 1) ls (.int (iI (x + y)) :: rest))) : W p l e R s m args below meth c H locs cells slots Q (F0 m pc ls (.int (iI y) :: .int (iI x) :: rest)) := lv_iadd hx hb hdg (by rw [iI_add]; exact k)
theorem z_isub (hx : p.tables.exec = Jvm.exec) (hb : c.code = cc) {x y : Int} (hdg : decode cc pc = .ok (.isub, 1)) (k : W p l e R s m args below meth c H locs cells slots Q (F0 m (pc + 1) ls (.int (iI (x - y)) :: rest))) : W p l e R s m args below meth c H locs cells slots Q (F0 m pc ls (.int (iI y) :: .int (iI x) :: rest)) := lv_isub hx hb hdg (by rw [iI_sub]; exact k)
theorem z_imul (hx : p.tables.exec = Jvm.exec) (hb : c.code = cc) {x y : Int} (hdg : decode cc pc = .ok (.imul, 1)) (k : W p l e R s m args below meth c H locs cells slots Q (F0 m (pc + 1) ls (.int (iI (x * y)) :: rest))) : W p l e R s m args below meth c H locs cells slots Q (F0 m pc ls (.int (iI y) :: .int (iI x) :: rest)) := lv_imul hx hb hdg (by rw [iI_mul]; exact k)
theorem z_ineg (hx : p.tables.exec = Jvm.exec) (hb : c.code = cc) {x : Int} (hdg : decode cc pc = .ok (.ineg, 1)) (k : W p l e R s m args below meth c H locs cells slots Q (F0 m (pc + 1) ls (.int (iI (-x)) :: rest))) : W p l e R s m args below meth c H locs cells slots Q (F0 m pc ls (.int (iI x) :: rest)) := lv_ineg hx hb hdg (by rw [iI_neg]; exact k)
theorem z_irem (hx : p.tables.exec = Jvm.exec) (hb : c.code = cc) {x y : Int} (hdg : decode cc pc = .ok (.irem, 1)) (h0 : 0 ≤ x) (h1 : x < 2147483648) (h2 : 0 < y) (h3 : y < 2147483648) (k : W p l e R s m args below meth c H locs cells slots Q (F0 m (pc + 1) ls (.int (iI (x % y)) :: rest))) : W p l e R s m args below meth c H locs cells slots Q (F0 m pc ls (.int (iI y) :: .int (iI x) :: rest)) := lv_irem hx hb hdg (fun e => by rw [iI_0, iI_eq ⟨by omega, by omega⟩ ⟨by omega, by omega⟩] at e; omega) (by rw [iI_rem ⟨by omega, by omega⟩ ⟨by omega, by omega⟩ h2, Int.tmod_eq_emod_of_nonneg h0]; exact k)
theorem z_iand7 (hx : p.tables.exec = Jvm.exec) (hb : c.code = cc) {x : Int} (hdg : decode cc pc = .ok (.iand, 1)) (k : W p l e R s m args below meth c H locs cells slots Q (F0 m (pc + 1) ls (.int (iI (x % 8)) :: rest))) : W p l e R s m args below meth c H locs cells slots Q (F0 m pc ls (.int (iI 7) :: .int (iI x) :: rest)) := lv_iand hx hb hdg (by rw [iI_and7]; exact k)
theorem z_icmp_eq (hx : p.tables.exec = Jvm.exec) (hb : c.code = cc) {x y : Int} {off : Int} {tgt : Nat} (hdg : decode cc pc = .ok (.if_icmp .eq off, 3)) (ht : (pc : Int) + off = (tgt : Int)) (hX : rg x) (hy : rg y) (kt : x = y → W p l e R s m args below meth c H locs cells slots Q (F0 m tgt ls rest)) (kf : ¬ x = y → W p l e R s m args below meth c H locs cells slots Q (F0 m (pc + 3) ls rest)) : W p l e R s m args below meth c H locs cells slots Q (F0 m pc ls (.int (iI y) :: .int (iI x) :: rest)) := lv_icmp_eq hx hb hdg ht (fun h => kt ((iI_eq hX hy).mp h)) (fun h => kf (fun e => h ((iI_eq hX hy).mpr e)))
theorem z_icmp_ne (hx : p.tables.exec = Jvm.exec) (hb : c.code = cc) {x y : Int} {off : Int} {tgt : Nat} (hdg : decode cc pc = .ok (.if_icmp .ne off, 3)) (ht : (pc : Int) + off = (tgt : Int)) (hX : rg x) (hy : rg y) (kt : ¬ x = y → W p l e R s m args below meth c H locs cells slots Q (F0 m tgt ls rest)) (kf : x = y → W p l e R s m args below meth c H locs cells slots Q (F0 m (pc + 3) ls rest)) : W p l e R s m args below meth c H locs cells slots Q (F0 m pc ls (.int (iI y) :: .int (iI x) :: rest)) := lv_icmp_ne hx hb hdg ht (fun h => kt (fun e => h ((iI_eq hX hy).mpr e))) (fun h => kf ((iI_eq hX hy).mp h))
theorem z_icmp_lt (hx : p.tables.exec = Jvm.exec) (hb : c.code = cc) {x y : Int} {off : Int} {tgt : Nat} (hdg : decode cc pc = .ok (.if_icmp .lt off, 3)) (ht : (pc : Int) + off = (tgt : Int)) (hX : rg x) (hy : rg y) (kt : x < y → W p l e R s m args below meth c H locs cells slots Q (F0 m tgt ls rest)) (kf : ¬ x < y → W p l e R s m args below meth c H locs cells slots Q (F0 m (pc + 3) ls rest)) : W p l e R s m args below meth c H locs cells slots Q (F0 m pc ls (.int (iI y) :: .int (iI x) :: rest)) := lv_icmp_lt hx hb hdg ht (fun h => kt ((iI_lt hX hy).mp h)) (fun h => kf (fun e => h ((iI_lt hX hy).mpr e)))
theorem z_icmp_ge (hx : p.tables.exec = Jvm.exec) (hb : c.code = cc) {x y : Int} {off : Int} {tgt : Nat} (hdg : decode cc pc = .ok (.if_icmp .ge off, 3)) (ht : (pc : Int) + off = (tgt : Int)) (hX : rg x) (hy : rg y) (kt : y ≤ x → W p l e R s m args below meth c H locs cells slots Q (F0 m tgt ls rest)) (kf : ¬ y ≤ x → W p l e R s m args below meth c H locs cells slots Q (F0 m (pc + 3) ls rest)) : W p l e R s m args below meth c H locs cells slots Q (F0 m pc ls (.int (iI y) :: .int (iI x) :: rest)) := lv_icmp_ge hx hb hdg ht (fun h => kt ((iI_le hy hX).mp h)) (fun h => kf (fun e => h ((iI_le hy hX).mpr e)))
theorem z_icmp_gt (hx : p.tables.exec = Jvm.exec) (hb : c.code = cc) {x y : Int} {off : Int} {tgt : Nat} (hdg : decode cc pc = .ok (.if_icmp .gt off, 3)) (ht : (pc : Int) + off = (tgt : Int)) (hX : rg x) (hy : rg y) (kt : y < x → W p l e R s m args below meth c H locs cells slots Q (F0 m tgt ls rest)) (kf : ¬ y < x → W p l e R s m args below meth c H locs cells slots Q (F0 m (pc + 3) ls rest)) : W p l e R s m args below meth c H locs cells slots Q (F0 m pc ls (.int (iI y) :: .int (iI x) :: rest)) := lv_icmp_gt hx hb hdg ht (fun h => kt ((iI_lt hy hX).mp h)) (fun h => kf (fun e => h ((iI_lt hy hX).mpr e)))
theorem z_icmp_le (hx : p.tables.exec = Jvm.exec) (hb : c.code = cc) {x y : Int} {off : Int} {tgt : Nat} (hdg : decode cc pc = .ok (.if_icmp .le off, 3)) (ht : (pc : Int) + off = (tgt : Int)) (hX : rg x) (hy : rg y) (kt : x ≤ y → W p l e R s m args below meth c H locs cells slots Q (F0 m tgt ls rest)) (kf : ¬ x ≤ y → W p l e R s m args below meth c H locs cells slots Q (F0 m (pc + 3) ls rest)) : W p l e R s m args below meth c H locs cells slots Q (F0 m pc ls (.int (iI y) :: .int (iI x) :: rest)) := lv_icmp_le hx hb hdg ht (fun h => kt ((iI_le hX hy).mp h)) (fun h => kf (fun e => h ((iI_le hX hy).mpr e)))
theorem z_if_eq (hx : p.tables.exec = Jvm.exec) (hb : c.code = cc) {x : Int} {off : Int} {tgt : Nat} (hdg : decode cc pc = .ok (.ifCond .eq off, 3)) (ht : (pc : Int) + off = (tgt : Int)) (hX : rg x) (kt : x = 0 → W p l e R s m args below meth c H locs cells slots Q (F0 m tgt ls rest)) (kf : ¬ x = 0 → W p l e R s m args below meth c H locs cells slots Q (F0 m (pc + 3) ls rest)) : W p l e R s m args below meth c H locs cells slots Q (F0 m pc ls (.int (iI x) :: rest)) := have h0 : rg (0 : Int) := ⟨by omega, by omega⟩; lv_if_eq hx hb hdg ht (fun h => kt ((iI_eq hX h0).mp h)) (fun h => kf (fun e => h ((iI_eq hX h0).mpr e)))
theorem z_if_ne (hx : p.tables.exec = Jvm.exec) (hb : c.code = cc) {x : Int} {off : Int} {tgt : Nat} (hdg : decode cc pc = .ok (.ifCond .ne off, 3)) (ht : (pc : Int) + off = (tgt : Int)) (hX : rg x) (kt : ¬ x = 0 → W p l e R s m args below meth c H locs cells slots Q (F0 m tgt ls rest)) (kf : x = 0 → W p l e R s m args below meth c H locs cells slots Q (F0 m (pc + 3) ls rest)) : W p l e R s m args below meth c H locs cells slots Q (F0 m pc ls (.int (iI x) :: rest)) := have h0 : rg (0 : Int) := ⟨by omega, by omega⟩; lv_if_ne hx hb hdg ht (fun h => kt (fun e => h ((iI_eq hX h0).mpr e))) (fun h => kf ((iI_eq hX h0).mp h))
theorem z_if_lt (hx : p.tables.exec = Jvm.exec) (hb : c.code = cc) {x : Int} {off : Int} {tgt : Nat} (hdg : decode cc pc = .ok (.ifCond .lt off, 3)) (ht : (pc : Int) + off = (tgt : Int)) (hX : rg x) (kt : x < 0 → W p l e R s m args below meth c H locs cells slots Q (F0 m tgt ls rest)) (kf : ¬ x < 0 → W p l e R s m args below meth c H locs cells slots Q (F0 m (pc + 3) ls rest)) : W p l e R s m args below meth c H locs cells slots Q (F0 m pc ls (.int (iI x) :: rest)) := have h0 : rg (0 : Int) := ⟨by omega, by omega⟩; lv_if_lt hx hb hdg ht (fun h => kt ((iI_lt hX h0).mp h)) (fun h => kf (fun e => h ((iI_lt hX h0).mpr e)))
theorem z_if_ge (hx : p.tables.exec = Jvm.exec) (hb : c.code = cc) {x : Int} {off : Int} {tgt : Nat} (hdg : decode cc pc = .ok (.ifCond .ge off, 3)) (ht : (pc : Int) + off = (tgt : Int)) (hX : rg x) (kt : 0 ≤ x → W p l e R s m args below meth c H locs cells slots Q (F0 m tgt ls rest)) (kf : ¬ 0 ≤ x → W p l e R s m args below meth c H locs cells slots Q (F0 m (pc + 3) ls rest)) : W p l e R s m args below meth c H locs cells slots Q (F0 m pc ls (.int (iI x) :: rest)) := have h0 : rg (0 : Int) := ⟨by omega, by omega⟩; lv_if_ge hx hb hdg ht (fun h => kt ((iI_le h0 hX).mp h)) (fun h => kf (fun e => h ((iI_le h0 hX).mpr e)))
theorem z_if_gt (hx : p.tables.exec = Jvm.exec) (hb : c.code = cc) {x : Int} {off : Int} {tgt : Nat} (hdg : decode cc pc = .ok (.ifCond .gt off, 3)) (ht : (pc : Int) + off = (tgt : Int)) (hX : rg x) (kt : 0 < x → W p l e R s m args below meth c H locs cells slots Q (F0 m tgt ls rest)) (kf : ¬ 0 < x → W p l e R s m args below meth c H locs cells slots Q (F0 m (pc + 3) ls rest)) : W p l e R s m args below meth c H locs cells slots Q (F0 m pc ls (.int (iI x) :: rest)) := have h0 : rg (0 : Int) := ⟨by omega, by omega⟩; lv_if_gt hx hb hdg ht (fun h => kt ((iI_lt h0 hX).mp h)) (fun h => kf (fun e => h ((iI_lt h0 hX).mpr e)))
theorem z_if_le (hx : p.tables.exec = Jvm.exec) (hb : c.code = cc) {x : Int} {off : Int} {tgt : Nat} (hdg : decode cc pc = .ok (.ifCond .le off, 3)) (ht : (pc : Int) + off = (tgt : Int)) (hX : rg x) (kt : x ≤ 0 → W p l e R s m args below meth c H locs cells slots Q (F0 m tgt ls rest)) (kf : ¬ x ≤ 0 → W p l e R s m args below meth c H locs cells slots Q (F0 m (pc + 3) ls rest)) : W p l e R s m args below meth c H locs cells slots Q (F0 m pc ls (.int (iI x) :: rest)) := have h0 : rg (0 : Int) := ⟨by omega, by omega⟩; lv_if_le hx hb hdg ht (fun h => kt ((iI_le hX h0).mp h)) (fun h => kf (fun e => h ((iI_le hX h0).mpr e)))
theorem z_ifb_eq (hx : p.tables.exec = Jvm.exec) (hb : c.code = cc) {P : Prop} [Decidable P] {off : Int} {tgt : Nat} (hdg : decode cc pc = .ok (.ifCond .eq off, 3)) (ht : (pc : Int) + off = (tgt : Int)) (kt : ¬ P → W p l e R s m args below meth c H locs cells slots Q (F0 m tgt ls rest)) (kf : P → W p l e R s m args below meth c H locs cells slots Q (F0 m (pc + 3) ls rest)) : W p l e R s m args below meth c H locs cells slots Q (F0 m pc ls (.int (iI (zb P)) :: rest)) := z_if_eq hx hb hdg ht zb_rg (fun h => kt (fun q => by rw [zb_t q] at h; omega)) (fun h => kf (zb_of h))
theorem z_ifb_ne (hx : p.tables.exec = Jvm.exec) (hb : c.code = cc) {P : Prop} [Decidable P] {off : Int} {tgt : Nat} (hdg : decode cc pc = .ok (.ifCond .ne off, 3)) (ht : (pc : Int) + off = (tgt : Int)) (kt : P → W p l e R s m args below meth c H locs cells slots Q (F0 m tgt ls rest)) (kf : ¬ P → W p l e R s m args below meth c H locs cells slots Q (F0 m (pc + 3) ls rest)) : W p l e R s m args below meth c H locs cells slots Q (F0 m pc ls (.int (iI (zb P)) :: rest)) := z_if_ne hx hb hdg ht zb_rg (fun h => kt (zb_of h)) (fun h => kf (fun q => by rw [zb_t q] at h; omega))
theorem z_iald (hx : p.tables.exec = Jvm.exec) (hb : c.code = cc) (hK : va_K D cl tys s) (hP : va_P D cl ws H) (q0 t0 : Nat) {cA : ClassId} {n : Nat} {f : Int → Int} (ha : ws[q0]? = some (a, .inl (cA, n, .inl (fun j : Nat => iI (f j))))) (ht : tys[t0]? = some (cA, .int)) {x : Int} (h0 : 0 ≤ x) (h1 : x < n) (h2 : x < 2147483648) (hdg : decode cc pc = .ok (.iaload, 1)) (k : W p l e R s m args below meth c H locs cells slots Q (F0 m (pc + 1) ls (.int (iI (f x)) :: rest))) : W p l e R s m args below meth c H locs cells slots Q (F0 m pc ls (.int (iI x) :: .ref a :: rest)) := va_iald hx hb hK hP q0 t0 ha ht (iI_in h0 h1 h2) hdg (by rw [row_get f h0 h2]; exact k)
theorem z_zald (hx : p.tables.exec = Jvm.exec) (hb : c.code = cc) (hK : va_K D cl tys s) (hP : va_P D cl ws H) (q0 t0 : Nat) {cA : ClassId} {n : Nat} {f : Int → Int} (ha : ws[q0]? = some (a, .inl (cA, n, .inl (fun j : Nat => iI (f j))))) (ht : tys[t0]? = some (cA, .boolean)) {x : Int} (h0 : 0 ≤ x) (h1 : x < n) (h2 : x < 2147483648) (hdg : decode cc pc = .ok (.baload, 1)) (k : W p l e R s m args below meth c H locs cells slots Q (F0 m (pc + 1) ls (.int (iI (f x)) :: rest))) : W p l e R s m args below meth c H locs cells slots Q (F0 m pc ls (.int (iI x) :: .ref a :: rest)) := va_zald hx hb hK hP q0 t0 ha ht (iI_in h0 h1 h2) hdg (by rw [row_get f h0 h2]; exact k)
theorem z_cald (hx : p.tables.exec = Jvm.exec) (hb : c.code = cc) (hK : va_K D cl tys s) (hP : va_P D cl ws H) (q0 t0 : Nat) {cA : ClassId} {n : Nat} {f : Int → Int} (ha : ws[q0]? = some (a, .inl (cA, n, .inl (fun j : Nat => iI (f j))))) (ht : tys[t0]? = some (cA, .char)) {x : Int} (h0 : 0 ≤ x) (h1 : x < n) (h2 : x < 2147483648) (hdg : decode cc pc = .ok (.caload, 1)) (k : W p l e R s m args below meth c H locs cells slots Q (F0 m (pc + 1) ls (.int (iI (f x)) :: rest))) : W p l e R s m args below meth c H locs cells slots Q (F0 m pc ls (.int (iI x) :: .ref a :: rest)) := va_cald hx hb hK hP q0 t0 ha ht (iI_in h0 h1 h2) hdg (by rw [row_get f h0 h2]; exact k)
theorem z_iast (hx : p.tables.exec = Jvm.exec) (hb : c.code = cc) (hK : va_K D cl tys s) (hP : va_P D cl ws H) (hD : va_D A ws) (hS : va_S A H0 H locs) (q0 t0 : Nat) {cA : ClassId} {n : Nat} {f : Int → Int} (ha : ws[q0]? = some (a, .inl (cA, n, .inl (fun j : Nat => iI (f j))))) (ht : tys[t0]? = some (cA, .int)) {x v : Int} (h0 : 0 ≤ x) (h1 : x < n) (h2 : x < 2147483648) (hdg : decode cc pc = .ok (.iastore, 1))
    (kk : ∀ (H1 : Heap) (locs1 : List Loc), va_P D cl (ws.set q0 (a, .inl (cA, n, .inl (fun j : Nat => iI (iU f x v j))))) H1 → va_D A (ws.set q0 (a, .inl (cA, n, .inl (fun j : Nat => iI (iU f x v j))))) → va_S A H0 H1 locs1 → W p l e R s m args below meth c H1 locs1 cells slots Q (F0 m (pc + 1) ls rest)) : W p l e R s m args below meth c H locs cells slots Q (F0 m pc ls (.int (iI v) :: .int (iI x) :: .ref a :: rest)) :=
  va_iast hx hb hK hP hD hS q0 t0 ha ht (iI_in h0 h1 h2) hdg (fun H1 locs1 hP hD hS => by rw [row_set f h0 h2] at hP hD; exact kk H1 locs1 hP hD hS)
end
end
section
-- the worlds: the model's cells, a group's, the pad's
def wM (E : zE) (q : Nat → Nat) (z pa sl sv sp pd od : Int → Int) (pm ty om st wr : Int) : va_W := [(q 0, .inr (4, [.ref (q 1), .ref (q 2), .ref (q 3), .ref (q 4), .int (iI pm), .ref (q 5), .ref (q 6), .int (iI ty), .ref (q 7), .int (iI om), .int (iI st), .int (iI wr)])), (q 1, .inl (E.2 0, 367, .inl (fun j : Nat => iI (z j)))), (q 2, .inl (E.2 0, 2202, .inl (fun j : Nat => iI (pa j)))), (q 3, .inl (E.2 0, 734, .inl (fun j : Nat => iI (sl j)))), (q 4, .inl (E.2 1, 2, .inl (fun j : Nat => iI (sv j)))), (q 5, .inl (E.2 0, 367, .inl (fun j : Nat => iI (sp j)))), (q 6, .inl (E.2 2, 80, .inl (fun j : Nat => iI (pd j)))), (q 7, .inl (E.2 0, 164, .inl (fun j : Nat => iI (od j))))]
def wG (E : zE) (q : Nat → Nat) (ke ne si ro de nj mj : Int) (da re jo : Int → Int) : va_W := [(q 0, .inr (0, [.int (iI ke), .int (iI ne), .int (iI si), .int (iI ro), .int (iI de), .int (iI nj), .int (iI mj), .ref (q 1), .ref (q 2), .ref (q 3)])), (q 1, .inl (E.2 0, 8, .inl (fun j : Nat => iI (da j)))), (q 2, .inl (E.2 0, 8, .inl (fun j : Nat => iI (re j)))), (q 3, .inl (E.2 0, 8, .inl (fun j : Nat => iI (jo j))))]
def wPd (E : zE) (q : Nat → Nat) (sg : Int → Int) (le : Int) : va_W := [(q 0, .inr (1, [.ref (q 1), .int (iI le)])), (q 1, .inl (E.2 2, 80, .inl (fun j : Nat => iI (sg j))))]
section
variable {p : Program} {l : Launch} {e : Env} {R : Room} {s : State} {m : MethodId} {args : Array Value} {below : List Frame} {meth : Method} {c : Code} {H : Heap} {locs : List Loc} {cells slots : Nat} {Q : State → Prop}
variable {cc : ByteArray} {pc : Nat} {ls : Array Slot} {rest : List Value} {E : zE} {A : Nat → Prop} {H0 : Heap}
/-- the whole world is the callee's -/
theorem z_callV0 {own C : String} {index nL maxL n ci qk fr lc : Nat} {y : MethodName} {bytes : ByteArray} {ret : Option FieldType} {Ts ws ws' : List Cond} {b : Nat} {As st0 : List Value} {w : va_W} {S : Type} {post : Int → S → Prop} {w' : S → va_W} {q : vw_C} {fs : List Value}
    (hx : p.tables.exec = Jvm.exec) (hb : c.code = cc) (hml : c.maxLocals = nL) (hown : s.vm.findClass own = some m.cls) (hts : ∀ v ∈ Ts, v.before args s = true) (hK : va_K E.1 vwCl (zT E) s) (hA : ∀ q : Nat, H0.size ≤ q → A q) (hls : ls.size = nL)
    (hP : va_P E.1 vwCl w H) (hD : va_D A w) (hS : va_S A H0 H locs)
    (hC : zC l E y ws fr lc (.ref b :: As) w post w') (hG : GoodIn Ts (wsV own index C y ws)) (hw : ws = Cond.code y bytes maxL ret :: ws')
    (hd : y.cls = C ∧ y.cls ≠ "java/lang/invoke/MethodHandle" ∧ y.cls ≠ "java/lang/invoke/VarHandle" ∧ (parseMethodDescriptor y.desc).map (fun d => d.parameters.length) = some n)
    (hR : fr + 1 ≤ R.frames ∧ 8 + (maxL + 11) + lc ≤ R.locals) (hc : vwCl[ci]? = some q) (hq : q.1 = C) (he : w[qk]? = some (b, .inr (ci, fs)))
    (hn : As.length = n) (hst : st0 = As.reverse ++ .ref b :: rest) (hroom : (rest.map fun v => v.category).sum ≤ 8) (hdg : decode cc pc = .ok (.invokevirtual index, 3)) (hf : cells ≤ R.cells ∧ slots ≤ R.slots)
    (kk : ∀ (x : Int) (u : S) (H1 : Heap) (locs1 : List Loc), post x u → va_P E.1 vwCl (w' u) H1 → va_D A (w' u) → va_S A H0 H1 locs1 → W p l e R s m args below meth c H1 locs1 cells slots Q (F0 m (pc + 3) ls (.int (iI x) :: rest))) :
    W p l e R s m args below meth c H locs cells slots Q (F0 m pc ls st0) :=
  z_callV (wr := []) hx hb hml hown hts hK hA hls (by rw [List.append_nil]; exact hP) (by rw [List.append_nil]; exact hD) hS hC hG hw hd hR hc hq he hn hst hroom hdg hf (fun x u H1 locs1 h1 h2 h3 h4 => kk x u H1 locs1 h1 (by rw [List.append_nil] at h2; exact h2) (by rw [List.append_nil] at h3; exact h3) h4)
theorem z_callVv0 {own C : String} {index nL maxL n ci qk fr lc : Nat} {y : MethodName} {bytes : ByteArray} {ret : Option FieldType} {Ts ws ws' : List Cond} {b : Nat} {As st0 : List Value} {w : va_W} {S : Type} {post : S → Prop} {w' : S → va_W} {q : vw_C} {fs : List Value}
    (hx : p.tables.exec = Jvm.exec) (hb : c.code = cc) (hml : c.maxLocals = nL) (hown : s.vm.findClass own = some m.cls) (hts : ∀ v ∈ Ts, v.before args s = true) (hK : va_K E.1 vwCl (zT E) s) (hA : ∀ q : Nat, H0.size ≤ q → A q) (hls : ls.size = nL)
    (hP : va_P E.1 vwCl w H) (hD : va_D A w) (hS : va_S A H0 H locs)
    (hC : zCv l E y ws fr lc (.ref b :: As) w post w') (hG : GoodIn Ts (wsV own index C y ws)) (hw : ws = Cond.code y bytes maxL ret :: ws')
    (hd : y.cls = C ∧ y.cls ≠ "java/lang/invoke/MethodHandle" ∧ y.cls ≠ "java/lang/invoke/VarHandle" ∧ (parseMethodDescriptor y.desc).map (fun d => d.parameters.length) = some n)
    (hR : fr + 1 ≤ R.frames ∧ 8 + (maxL + 11) + lc ≤ R.locals) (hc : vwCl[ci]? = some q) (hq : q.1 = C) (he : w[qk]? = some (b, .inr (ci, fs)))
    (hn : As.length = n) (hst : st0 = As.reverse ++ .ref b :: rest) (hroom : (rest.map fun v => v.category).sum ≤ 8) (hdg : decode cc pc = .ok (.invokevirtual index, 3)) (hf : cells ≤ R.cells ∧ slots ≤ R.slots)
    (kk : ∀ (u : S) (H1 : Heap) (locs1 : List Loc), post u → va_P E.1 vwCl (w' u) H1 → va_D A (w' u) → va_S A H0 H1 locs1 → W p l e R s m args below meth c H1 locs1 cells slots Q (F0 m (pc + 3) ls rest)) :
    W p l e R s m args below meth c H locs cells slots Q (F0 m pc ls st0) :=
  z_callVv (wr := []) hx hb hml hown hts hK hA hls (by rw [List.append_nil]; exact hP) (by rw [List.append_nil]; exact hD) hS hC hG hw hd hR hc hq he hn hst hroom hdg hf (fun u H1 locs1 h1 h2 h3 h4 => kk u H1 locs1 h1 (by rw [List.append_nil] at h2; exact h2) (by rw [List.append_nil] at h3; exact h3) h4)
/-- a static method that asks no cell -/
theorem z_callS0 {own : String} {index nL maxL n fr lc : Nat} {y : MethodName} {bytes : ByteArray} {ret : Option FieldType} {Ts ws ws' : List Cond} {As st0 : List Value} {w : va_W} {r : Int}
    (hx : p.tables.exec = Jvm.exec) (hb : c.code = cc) (hml : c.maxLocals = nL) (hown : s.vm.findClass own = some m.cls) (hts : ∀ v ∈ Ts, v.before args s = true) (hK : va_K E.1 vwCl (zT E) s) (hA : ∀ q : Nat, H0.size ≤ q → A q) (hls : ls.size = nL)
    (hP : va_P E.1 vwCl w H) (hD : va_D A w) (hS : va_S A H0 H locs)
    (hC : zF l E y ws fr lc As [] r []) (hG : GoodIn Ts (wsS own index y ws)) (hw : ws = Cond.code y bytes maxL ret :: ws')
    (hd : y.cls = own ∧ y.cls ≠ "java/lang/invoke/MethodHandle" ∧ y.cls ≠ "java/lang/invoke/VarHandle" ∧ (parseMethodDescriptor y.desc).map (fun d => d.parameters.length) = some n)
    (hR : fr + 1 ≤ R.frames ∧ 8 + (maxL + 11) + lc ≤ R.locals)
    (hn : As.length = n) (hst : st0 = As.reverse ++ rest) (hroom : (rest.map fun v => v.category).sum ≤ 8) (hdg : decode cc pc = .ok (.invokestatic index, 3)) (hf : cells ≤ R.cells ∧ slots ≤ R.slots)
    (kk : ∀ (x : Int) (H1 : Heap) (locs1 : List Loc), x = r → va_P E.1 vwCl w H1 → va_D A w → va_S A H0 H1 locs1 → W p l e R s m args below meth c H1 locs1 cells slots Q (F0 m (pc + 3) ls (.int (iI x) :: rest))) :
    W p l e R s m args below meth c H locs cells slots Q (F0 m pc ls st0) :=
  z_callS (w := []) (wr := w) hx hb hml hown hts hK hA hls hP hD hS hC hG hw hd hR hn hst hroom hdg hf (fun x _ H1 locs1 h1 h2 h3 h4 => kk x H1 locs1 h1 h2 h3 h4)
end
-- the model's state, group by group
def zg (z : Int → Int) (g k : Int) : Int := z (7 + 60 * g + k)
def zs (z : Int → Int) (g k v : Int) : Int → Int := iU z (7 + 60 * g + k) v
end
section
theorem ndX4_in : yX4_in.cls = RX4 ∧ yX4_in.cls ≠ "java/lang/invoke/MethodHandle" ∧ yX4_in.cls ≠ "java/lang/invoke/VarHandle" ∧ (parseMethodDescriptor yX4_in.desc).map (fun d => d.parameters.length) = some 3 := by decide +kernel
set_option maxRecDepth 100000 in
set_option maxHeartbeats 4000000 in
theorem c_X4_in (l : Launch) (E : zE) (v : Int) (lo : Int) (hi : Int) (h0 : rg v) (h1 : rg lo) (h2 : rg hi) : zF l E yX4_in wsX4_in 0 0 [.int (iI v), .int (iI lo), .int (iI hi)] ([]) (zb (lo ≤ v ∧ v ≤ hi)) ([]) := by
  refine zC_of (cc := cX4_in) (maxL := 3) (by decide) rfl (Nat.le_of_ble_eq_true rfl) ?_
  intro p e s m below meth c ls A hx hb hr hts hown hlocks hml hK hA hS hP hD hl
  have hown : s.vm.findClass RX4 = some m.cls := hown
  have hl : lv_has ls 3 [(0, .int (iI v)), (1, .int (iI lo)), (2, .int (iI hi))] := hl
  refine lv_iload_n hx hb dX4_in_0 rfl (lv_at hl 0 rfl) ?_
  refine lv_iload_n hx hb dX4_in_1 rfl (lv_at hl 1 rfl) ?_
  refine z_icmp_lt (tgt := 14) hx hb dX4_in_2 (by decide) ⟨by omega, by omega⟩ ⟨by omega, by omega⟩ (fun c_2 => ?_) (fun c_2 => ?_)
  · refine lv_iconst (v := iI 0) hx hb dX4_in_14 (by decide) ?_
    exact z_zret hx hb hr hlocks hK hS (Or.inl rfl) () (by first | rfl | trivial | exact zb_t' (by omega) | exact zb_f' (by omega) | omega) hP hD dX4_in_15
  · refine lv_iload_n hx hb dX4_in_5 rfl (lv_at hl 0 rfl) ?_
    refine lv_iload_n hx hb dX4_in_6 rfl (lv_at hl 2 rfl) ?_
    refine z_icmp_gt (tgt := 14) hx hb dX4_in_7 (by decide) ⟨by omega, by omega⟩ ⟨by omega, by omega⟩ (fun c_7 => ?_) (fun c_7 => ?_)
    · refine lv_iconst (v := iI 0) hx hb dX4_in_14 (by decide) ?_
      exact z_zret hx hb hr hlocks hK hS (Or.inl rfl) () (by first | rfl | trivial | exact zb_t' (by omega) | exact zb_f' (by omega) | omega) hP hD dX4_in_15
    · refine lv_iconst (v := iI 1) hx hb dX4_in_10 (by decide) ?_
      refine lv_goto (tgt := 15) hx hb dX4_in_11 (by decide) ?_
      exact z_zret hx hb hr hlocks hK hS (Or.inr rfl) () (by first | rfl | trivial | exact zb_t' (by omega) | exact zb_f' (by omega) | omega) hP hD dX4_in_15

theorem ndX4_isGroup : yX4_isGroup.cls = RX4 ∧ yX4_isGroup.cls ≠ "java/lang/invoke/MethodHandle" ∧ yX4_isGroup.cls ≠ "java/lang/invoke/VarHandle" ∧ (parseMethodDescriptor yX4_isGroup.desc).map (fun d => d.parameters.length) = some 1 := by decide +kernel
set_option maxRecDepth 100000 in
set_option maxHeartbeats 4000000 in
theorem c_X4_isGroup (l : Launch) (E : zE) (g : Int) (h0 : rg g) : zF l E yX4_isGroup wsX4_isGroup 1 22 [.int (iI g)] ([]) (zb (0 ≤ g ∧ g ≤ 5)) ([]) := by
  refine zC_of (cc := cX4_isGroup) (maxL := 1) (by decide) rfl (Nat.le_of_ble_eq_true rfl) ?_
  intro p e s m below meth c ls A hx hb hr hts hown hlocks hml hK hA hS hP hD hl
  have hown : s.vm.findClass RX4 = some m.cls := hown
  have hl : lv_has ls 1 [(0, .int (iI g))] := hl
  refine lv_iload_n hx hb dX4_isGroup_0 rfl (lv_at hl 0 rfl) ?_
  refine lv_iconst (v := iI 0) hx hb dX4_isGroup_1 (by decide) ?_
  refine lv_iconst (v := iI 5) hx hb dX4_isGroup_2 (by decide) ?_
  refine z_callS0 (As := [.int (iI g), .int (iI 0), .int (iI 5)]) (rest := []) hx hb hml hown hts hK hA hl.1 hP hD hS (c_X4_in l E  g 0 5  (⟨by omega, by omega⟩) (⟨by omega, by omega⟩) (⟨by omega, by omega⟩)) gX4_isGroup_X4_in rfl ndX4_in ⟨Nat.le_of_ble_eq_true rfl, Nat.le_of_ble_eq_true rfl⟩ rfl rfl (Nat.le_of_ble_eq_true rfl) dX4_isGroup_3 ⟨Nat.le_of_ble_eq_true rfl, Nat.le_of_ble_eq_true rfl⟩ (fun x H locs hpost hP hD hS => ?_)
  subst hpost
  exact z_zret hx hb hr hlocks hK hS zb_01 () (by first | rfl | trivial | exact zb_t' (by omega) | exact zb_f' (by omega) | omega) hP hD dX4_isGroup_6

theorem ndX4_of : yX4_of.cls = RX4 ∧ yX4_of.cls ≠ "java/lang/invoke/MethodHandle" ∧ yX4_of.cls ≠ "java/lang/invoke/VarHandle" ∧ (parseMethodDescriptor yX4_of.desc).map (fun d => d.parameters.length) = some 2 := by decide +kernel
set_option maxRecDepth 100000 in
set_option maxHeartbeats 4000000 in
theorem c_X4_of (l : Launch) (E : zE) (q : Nat → Nat) (z pa sl sv sp pd od : Int → Int) (pm ty om st wr : Int) (g : Int) (k : Int) (h0 : 0 ≤ g ∧ g ≤ 5) (h1 : 0 ≤ k ∧ k < 60) : zF l E yX4_of wsX4_of 0 0 [.ref (q 0), .int (iI g), .int (iI k)] (wM E q z pa sl sv sp pd od pm ty om st wr) (zg z g k) (wM E q z pa sl sv sp pd od pm ty om st wr) := by
  refine zC_of (cc := cX4_of) (maxL := 3) (by decide) rfl (Nat.le_of_ble_eq_true rfl) ?_
  intro p e s m below meth c ls A hx hb hr hts hown hlocks hml hK hA hS hP hD hl
  have hown : s.vm.findClass RX4 = some m.cls := hown
  have hl : lv_has ls 3 [(0, .ref (q 0)), (1, .int (iI g)), (2, .int (iI k))] := hl
  have hinX4 : ∀ v ∈ u_ws RX4 TX4 12, v ∈ wsX4_of := by decide +kernel
  have hf_7 := hts (.fieldLink RX4 7 "GenerationNamesModel" "z" "[I") (by decide +kernel)
  refine lv_aload_n hx hb dX4_of_0 rfl (lv_at hl 0 rfl) ?_
  refine va_get (D := E.1) (cl := vwCl) (ci := 4) (v := .ref (q 1)) (C := RX4) (T := TX4) (N := 12) hx hb hts hinX4 hown hK hP 0 rfl rfl 0 (by decide) hf_7 (fun _ h => h) rfl dX4_of_1 ?_
  refine lv_bipush (v := iI 7) hx hb dX4_of_4 (by decide) ?_
  refine lv_bipush (v := iI 60) hx hb dX4_of_6 (by decide) ?_
  refine lv_iload_n hx hb dX4_of_8 rfl (lv_at hl 1 rfl) ?_
  refine z_imul hx hb dX4_of_9 ?_
  refine z_iadd hx hb dX4_of_10 ?_
  refine lv_iload_n hx hb dX4_of_11 rfl (lv_at hl 2 rfl) ?_
  refine z_iadd hx hb dX4_of_12 ?_
  refine z_iald (D := E.1) (cl := vwCl) (tys := zT E) (f := z) hx hb hK hP 1 0 rfl rfl (by omega) (by omega) (by omega) dX4_of_13 ?_
  exact z_iret hx hb hr hlocks hK hS () (by first | rfl | trivial | exact zb_t' (by omega) | exact zb_f' (by omega) | omega) hP hD dX4_of_14

theorem ndX4_lay : yX4_lay.cls = RX4 ∧ yX4_lay.cls ≠ "java/lang/invoke/MethodHandle" ∧ yX4_lay.cls ≠ "java/lang/invoke/VarHandle" ∧ (parseMethodDescriptor yX4_lay.desc).map (fun d => d.parameters.length) = some 3 := by decide +kernel
set_option maxRecDepth 100000 in
set_option maxHeartbeats 4000000 in
theorem c_X4_lay (l : Launch) (E : zE) (q : Nat → Nat) (z pa sl sv sp pd od : Int → Int) (pm ty om st wr : Int) (g : Int) (k : Int) (v : Int) (h0 : 0 ≤ g ∧ g ≤ 5) (h1 : 0 ≤ k ∧ k < 60) : zFv l E yX4_lay wsX4_lay 0 0 [.ref (q 0), .int (iI g), .int (iI k), .int (iI v)] (wM E q z pa sl sv sp pd od pm ty om st wr) (wM E q (zs z g k v) pa sl sv sp pd od pm ty om st wr) := by
  refine zCv_of (cc := cX4_lay) (maxL := 4) (by decide) rfl (Nat.le_of_ble_eq_true rfl) ?_
  intro p e s m below meth c ls A hx hb hr hts hown hlocks hml hK hA hS hP hD hl
  have hown : s.vm.findClass RX4 = some m.cls := hown
  have hl : lv_has ls 4 [(0, .ref (q 0)), (1, .int (iI g)), (2, .int (iI k)), (3, .int (iI v))] := hl
  have hinX4 : ∀ v ∈ u_ws RX4 TX4 12, v ∈ wsX4_lay := by decide +kernel
  have hf_7 := hts (.fieldLink RX4 7 "GenerationNamesModel" "z" "[I") (by decide +kernel)
  refine lv_aload_n hx hb dX4_lay_0 rfl (lv_at hl 0 rfl) ?_
  refine va_get (D := E.1) (cl := vwCl) (ci := 4) (v := .ref (q 1)) (C := RX4) (T := TX4) (N := 12) hx hb hts hinX4 hown hK hP 0 rfl rfl 0 (by decide) hf_7 (fun _ h => h) rfl dX4_lay_1 ?_
  refine lv_bipush (v := iI 7) hx hb dX4_lay_4 (by decide) ?_
  refine lv_bipush (v := iI 60) hx hb dX4_lay_6 (by decide) ?_
  refine lv_iload_n hx hb dX4_lay_8 rfl (lv_at hl 1 rfl) ?_
  refine z_imul hx hb dX4_lay_9 ?_
  refine z_iadd hx hb dX4_lay_10 ?_
  refine lv_iload_n hx hb dX4_lay_11 rfl (lv_at hl 2 rfl) ?_
  refine z_iadd hx hb dX4_lay_12 ?_
  refine lv_iload_n hx hb dX4_lay_13 rfl (lv_at hl 3 rfl) ?_
  refine z_iast (D := E.1) (cl := vwCl) (tys := zT E) (f := z) hx hb hK hP hD hS 1 0 rfl rfl (by omega) (by omega) (by omega) dX4_lay_14 (fun H locs hP hD hS => ?_)
  have hP : va_P E.1 vwCl (wM E q (iU z ((7 + (60 * g)) + k) v) pa sl sv sp pd od pm ty om st wr) H := hP
  have hD : va_D A (wM E q (iU z ((7 + (60 * g)) + k) v) pa sl sv sp pd od pm ty om st wr) := hD
  exact z_vret hx hb hr hlocks hK hS () (by first | rfl | trivial | exact zb_t' (by omega) | exact zb_f' (by omega) | omega) hP hD dX4_lay_15

theorem ndX4_many : yX4_many.cls = RX4 ∧ yX4_many.cls ≠ "java/lang/invoke/MethodHandle" ∧ yX4_many.cls ≠ "java/lang/invoke/VarHandle" ∧ (parseMethodDescriptor yX4_many.desc).map (fun d => d.parameters.length) = some 1 := by decide +kernel
set_option maxRecDepth 100000 in
set_option maxHeartbeats 4000000 in
theorem c_X4_many (l : Launch) (E : zE) (q : Nat → Nat) (z pa sl sv sp pd od : Int → Int) (pm ty om st wr : Int) (g : Int) (h0 : 0 ≤ g ∧ g ≤ 5) : zF l E yX4_many wsX4_many 1 22 [.ref (q 0), .int (iI g)] (wM E q z pa sl sv sp pd od pm ty om st wr) (zg z g 1) (wM E q z pa sl sv sp pd od pm ty om st wr) := by
  refine zC_of (cc := cX4_many) (maxL := 2) (by decide) rfl (Nat.le_of_ble_eq_true rfl) ?_
  intro p e s m below meth c ls A hx hb hr hts hown hlocks hml hK hA hS hP hD hl
  have hown : s.vm.findClass RX4 = some m.cls := hown
  have hl : lv_has ls 2 [(0, .ref (q 0)), (1, .int (iI g))] := hl
  refine lv_aload_n hx hb dX4_many_0 rfl (lv_at hl 0 rfl) ?_
  refine lv_iload_n hx hb dX4_many_1 rfl (lv_at hl 1 rfl) ?_
  refine lv_iconst (v := iI 1) hx hb dX4_many_2 (by decide) ?_
  refine z_callV0 (ci := 4) (qk := 0) (As := [.int (iI g), .int (iI 1)]) (rest := []) hx hb hml hown hts hK hA hl.1 hP hD hS (c_X4_of l E q z pa sl sv sp pd od pm ty om st wr g 1  (by first | omega | exact hz | exact hz _ | exact ⟨by omega, by omega⟩) (by first | omega | exact hz | exact hz _ | exact ⟨by omega, by omega⟩)) gX4_many_X4_of rfl ndX4_of ⟨Nat.le_of_ble_eq_true rfl, Nat.le_of_ble_eq_true rfl⟩ rfl rfl rfl rfl rfl (Nat.le_of_ble_eq_true rfl) dX4_many_3 ⟨Nat.le_of_ble_eq_true rfl, Nat.le_of_ble_eq_true rfl⟩ (fun x u H locs hpost hP hD hS => ?_)
  subst hpost
  have hP : va_P E.1 vwCl (wM E q z pa sl sv sp pd od pm ty om st wr) H := hP
  have hD : va_D A (wM E q z pa sl sv sp pd od pm ty om st wr) := hD
  exact z_iret hx hb hr hlocks hK hS () (by first | rfl | trivial | exact zb_t' (by omega) | exact zb_f' (by omega) | omega) hP hD dX4_many_6

theorem ndX4_gen : yX4_gen.cls = RX4 ∧ yX4_gen.cls ≠ "java/lang/invoke/MethodHandle" ∧ yX4_gen.cls ≠ "java/lang/invoke/VarHandle" ∧ (parseMethodDescriptor yX4_gen.desc).map (fun d => d.parameters.length) = some 3 := by decide +kernel
set_option maxRecDepth 100000 in
set_option maxHeartbeats 4000000 in
theorem c_X4_gen (l : Launch) (E : zE) (q : Nat → Nat) (z pa sl sv sp pd od : Int → Int) (pm ty om st wr : Int) (g : Int) (pl : Int) (k : Int) (h0 : 0 ≤ g ∧ g ≤ 5) (h1 : 0 ≤ 15 + 5 * pl + k ∧ 15 + 5 * pl + k < 60) : zF l E yX4_gen wsX4_gen 1 22 [.ref (q 0), .int (iI g), .int (iI pl), .int (iI k)] (wM E q z pa sl sv sp pd od pm ty om st wr) (zg z g (15 + 5 * pl + k)) (wM E q z pa sl sv sp pd od pm ty om st wr) := by
  refine zC_of (cc := cX4_gen) (maxL := 4) (by decide) rfl (Nat.le_of_ble_eq_true rfl) ?_
  intro p e s m below meth c ls A hx hb hr hts hown hlocks hml hK hA hS hP hD hl
  have hown : s.vm.findClass RX4 = some m.cls := hown
  have hl : lv_has ls 4 [(0, .ref (q 0)), (1, .int (iI g)), (2, .int (iI pl)), (3, .int (iI k))] := hl
  refine lv_aload_n hx hb dX4_gen_0 rfl (lv_at hl 0 rfl) ?_
  refine lv_iload_n hx hb dX4_gen_1 rfl (lv_at hl 1 rfl) ?_
  refine lv_bipush (v := iI 15) hx hb dX4_gen_2 (by decide) ?_
  refine lv_iconst (v := iI 5) hx hb dX4_gen_4 (by decide) ?_
  refine lv_iload_n hx hb dX4_gen_5 rfl (lv_at hl 2 rfl) ?_
  refine z_imul hx hb dX4_gen_6 ?_
  refine z_iadd hx hb dX4_gen_7 ?_
  refine lv_iload_n hx hb dX4_gen_8 rfl (lv_at hl 3 rfl) ?_
  refine z_iadd hx hb dX4_gen_9 ?_
  refine z_callV0 (ci := 4) (qk := 0) (As := [.int (iI g), .int (iI ((15 + (5 * pl)) + k))]) (rest := []) hx hb hml hown hts hK hA hl.1 hP hD hS (c_X4_of l E q z pa sl sv sp pd od pm ty om st wr g ((15 + (5 * pl)) + k)  (by first | omega | exact hz | exact hz _ | exact ⟨by omega, by omega⟩) (by first | omega | exact hz | exact hz _ | exact ⟨by omega, by omega⟩)) gX4_gen_X4_of rfl ndX4_of ⟨Nat.le_of_ble_eq_true rfl, Nat.le_of_ble_eq_true rfl⟩ rfl rfl rfl rfl rfl (Nat.le_of_ble_eq_true rfl) dX4_gen_10 ⟨Nat.le_of_ble_eq_true rfl, Nat.le_of_ble_eq_true rfl⟩ (fun x u H locs hpost hP hD hS => ?_)
  subst hpost
  have hP : va_P E.1 vwCl (wM E q z pa sl sv sp pd od pm ty om st wr) H := hP
  have hD : va_D A (wM E q z pa sl sv sp pd od pm ty om st wr) := hD
  exact z_iret hx hb hr hlocks hK hS () (by first | rfl | trivial | exact zb_t' (by omega) | exact zb_f' (by omega) | omega) hP hD dX4_gen_13

theorem ndX4_layGen : yX4_layGen.cls = RX4 ∧ yX4_layGen.cls ≠ "java/lang/invoke/MethodHandle" ∧ yX4_layGen.cls ≠ "java/lang/invoke/VarHandle" ∧ (parseMethodDescriptor yX4_layGen.desc).map (fun d => d.parameters.length) = some 4 := by decide +kernel
set_option maxRecDepth 100000 in
set_option maxHeartbeats 4000000 in
theorem c_X4_layGen (l : Launch) (E : zE) (q : Nat → Nat) (z pa sl sv sp pd od : Int → Int) (pm ty om st wr : Int) (g : Int) (pl : Int) (k : Int) (v : Int) (h0 : 0 ≤ g ∧ g ≤ 5) (h1 : 0 ≤ 15 + 5 * pl + k ∧ 15 + 5 * pl + k < 60) : zFv l E yX4_layGen wsX4_layGen 1 23 [.ref (q 0), .int (iI g), .int (iI pl), .int (iI k), .int (iI v)] (wM E q z pa sl sv sp pd od pm ty om st wr) (wM E q (zs z g (15 + 5 * pl + k) v) pa sl sv sp pd od pm ty om st wr) := by
  refine zCv_of (cc := cX4_layGen) (maxL := 5) (by decide) rfl (Nat.le_of_ble_eq_true rfl) ?_
  intro p e s m below meth c ls A hx hb hr hts hown hlocks hml hK hA hS hP hD hl
  have hown : s.vm.findClass RX4 = some m.cls := hown
  have hl : lv_has ls 5 [(0, .ref (q 0)), (1, .int (iI g)), (2, .int (iI pl)), (3, .int (iI k)), (4, .int (iI v))] := hl
  refine lv_aload_n hx hb dX4_layGen_0 rfl (lv_at hl 0 rfl) ?_
  refine lv_iload_n hx hb dX4_layGen_1 rfl (lv_at hl 1 rfl) ?_
  refine lv_bipush (v := iI 15) hx hb dX4_layGen_2 (by decide) ?_
  refine lv_iconst (v := iI 5) hx hb dX4_layGen_4 (by decide) ?_
  refine lv_iload_n hx hb dX4_layGen_5 rfl (lv_at hl 2 rfl) ?_
  refine z_imul hx hb dX4_layGen_6 ?_
  refine z_iadd hx hb dX4_layGen_7 ?_
  refine lv_iload_n hx hb dX4_layGen_8 rfl (lv_at hl 3 rfl) ?_
  refine z_iadd hx hb dX4_layGen_9 ?_
  refine lv_iload hx hb dX4_layGen_10 (lv_at hl 4 rfl) ?_
  refine z_callVv0 (ci := 4) (qk := 0) (As := [.int (iI g), .int (iI ((15 + (5 * pl)) + k)), .int (iI v)]) (rest := []) hx hb hml hown hts hK hA hl.1 hP hD hS (c_X4_lay l E q z pa sl sv sp pd od pm ty om st wr g ((15 + (5 * pl)) + k) v  (by first | omega | exact hz | exact hz _ | exact ⟨by omega, by omega⟩) (by first | omega | exact hz | exact hz _ | exact ⟨by omega, by omega⟩)) gX4_layGen_X4_lay rfl ndX4_lay ⟨Nat.le_of_ble_eq_true rfl, Nat.le_of_ble_eq_true rfl⟩ rfl rfl rfl rfl rfl (Nat.le_of_ble_eq_true rfl) dX4_layGen_12 ⟨Nat.le_of_ble_eq_true rfl, Nat.le_of_ble_eq_true rfl⟩ (fun u H locs hpost hP hD hS => ?_)
  have hP : va_P E.1 vwCl (wM E q (zs z g ((15 + (5 * pl)) + k) v) pa sl sv sp pd od pm ty om st wr) H := hP
  have hD : va_D A (wM E q (zs z g ((15 + (5 * pl)) + k) v) pa sl sv sp pd od pm ty om st wr) := hD
  exact z_vret hx hb hr hlocks hK hS () (by first | rfl | trivial | exact zb_t' (by omega) | exact zb_f' (by omega) | omega) hP hD dX4_layGen_15

theorem ndX4_isHole : yX4_isHole.cls = RX4 ∧ yX4_isHole.cls ≠ "java/lang/invoke/MethodHandle" ∧ yX4_isHole.cls ≠ "java/lang/invoke/VarHandle" ∧ (parseMethodDescriptor yX4_isHole.desc).map (fun d => d.parameters.length) = some 2 := by decide +kernel
set_option maxRecDepth 100000 in
set_option maxHeartbeats 4000000 in
theorem c_X4_isHole (l : Launch) (E : zE) (q : Nat → Nat) (z pa sl sv sp pd od : Int → Int) (pm ty om st wr : Int) (g : Int) (pl : Int) (h0 : 0 ≤ g ∧ g ≤ 5) (h1 : 0 ≤ pl ∧ pl ≤ 8) (h2 : rg (zg z g (15 + 5 * pl + 2))) : zF l E yX4_isHole wsX4_isHole 2 45 [.ref (q 0), .int (iI g), .int (iI pl)] (wM E q z pa sl sv sp pd od pm ty om st wr) (zb (zg z g (15 + 5 * pl + 2) = -6)) (wM E q z pa sl sv sp pd od pm ty om st wr) := by
  refine zC_of (cc := cX4_isHole) (maxL := 3) (by decide) rfl (Nat.le_of_ble_eq_true rfl) ?_
  intro p e s m below meth c ls A hx hb hr hts hown hlocks hml hK hA hS hP hD hl
  have hown : s.vm.findClass RX4 = some m.cls := hown
  have hl : lv_has ls 3 [(0, .ref (q 0)), (1, .int (iI g)), (2, .int (iI pl))] := hl
  refine lv_aload_n hx hb dX4_isHole_0 rfl (lv_at hl 0 rfl) ?_
  refine lv_iload_n hx hb dX4_isHole_1 rfl (lv_at hl 1 rfl) ?_
  refine lv_iload_n hx hb dX4_isHole_2 rfl (lv_at hl 2 rfl) ?_
  refine lv_iconst (v := iI 2) hx hb dX4_isHole_3 (by decide) ?_
  refine z_callV0 (ci := 4) (qk := 0) (As := [.int (iI g), .int (iI pl), .int (iI 2)]) (rest := []) hx hb hml hown hts hK hA hl.1 hP hD hS (c_X4_gen l E q z pa sl sv sp pd od pm ty om st wr g pl 2  (by first | omega | exact hz | exact hz _ | exact ⟨by omega, by omega⟩) (by first | omega | exact hz | exact hz _ | exact ⟨by omega, by omega⟩)) gX4_isHole_X4_gen rfl ndX4_gen ⟨Nat.le_of_ble_eq_true rfl, Nat.le_of_ble_eq_true rfl⟩ rfl rfl rfl rfl rfl (Nat.le_of_ble_eq_true rfl) dX4_isHole_4 ⟨Nat.le_of_ble_eq_true rfl, Nat.le_of_ble_eq_true rfl⟩ (fun x u H locs hpost hP hD hS => ?_)
  subst hpost
  have hP : va_P E.1 vwCl (wM E q z pa sl sv sp pd od pm ty om st wr) H := hP
  have hD : va_D A (wM E q z pa sl sv sp pd od pm ty om st wr) := hD
  refine lv_bipush (v := iI (-6)) hx hb dX4_isHole_7 (by decide) ?_
  refine z_icmp_ne (tgt := 16) hx hb dX4_isHole_9 (by decide) ⟨by first | omega | exact (hz _).1 | exact (hz _).2, by first | omega | exact (hz _).1 | exact (hz _).2⟩ ⟨by first | omega | exact (hz _).1 | exact (hz _).2, by first | omega | exact (hz _).1 | exact (hz _).2⟩ (fun c_9 => ?_) (fun c_9 => ?_)
  · refine lv_iconst (v := iI 0) hx hb dX4_isHole_16 (by decide) ?_
    exact z_zret hx hb hr hlocks hK hS (Or.inl rfl) () (by first | rfl | trivial | exact zb_t' (by omega) | exact zb_f' (by omega) | omega) hP hD dX4_isHole_17
  · refine lv_iconst (v := iI 1) hx hb dX4_isHole_12 (by decide) ?_
    refine lv_goto (tgt := 17) hx hb dX4_isHole_13 (by decide) ?_
    exact z_zret hx hb hr hlocks hK hS (Or.inr rfl) () (by first | rfl | trivial | exact zb_t' (by omega) | exact zb_f' (by omega) | omega) hP hD dX4_isHole_17

theorem ndX4_runs : yX4_runs.cls = RX4 ∧ yX4_runs.cls ≠ "java/lang/invoke/MethodHandle" ∧ yX4_runs.cls ≠ "java/lang/invoke/VarHandle" ∧ (parseMethodDescriptor yX4_runs.desc).map (fun d => d.parameters.length) = some 0 := by decide +kernel
set_option maxRecDepth 100000 in
set_option maxHeartbeats 4000000 in
theorem c_X4_runs (l : Launch) (E : zE) (q : Nat → Nat) (z pa sl sv sp pd od : Int → Int) (pm ty om st wr : Int) (h0 : rg (z 1)) : zF l E yX4_runs wsX4_runs 0 0 [.ref (q 0)] (wM E q z pa sl sv sp pd od pm ty om st wr) (zb (z 1 = 1)) (wM E q z pa sl sv sp pd od pm ty om st wr) := by
  refine zC_of (cc := cX4_runs) (maxL := 1) (by decide) rfl (Nat.le_of_ble_eq_true rfl) ?_
  intro p e s m below meth c ls A hx hb hr hts hown hlocks hml hK hA hS hP hD hl
  have hown : s.vm.findClass RX4 = some m.cls := hown
  have hl : lv_has ls 1 [(0, .ref (q 0))] := hl
  have hinX4 : ∀ v ∈ u_ws RX4 TX4 12, v ∈ wsX4_runs := by decide +kernel
  have hf_7 := hts (.fieldLink RX4 7 "GenerationNamesModel" "z" "[I") (by decide +kernel)
  refine lv_aload_n hx hb dX4_runs_0 rfl (lv_at hl 0 rfl) ?_
  refine va_get (D := E.1) (cl := vwCl) (ci := 4) (v := .ref (q 1)) (C := RX4) (T := TX4) (N := 12) hx hb hts hinX4 hown hK hP 0 rfl rfl 0 (by decide) hf_7 (fun _ h => h) rfl dX4_runs_1 ?_
  refine lv_iconst (v := iI 1) hx hb dX4_runs_4 (by decide) ?_
  refine z_iald (D := E.1) (cl := vwCl) (tys := zT E) (f := z) hx hb hK hP 1 0 rfl rfl (by omega) (by omega) (by omega) dX4_runs_5 ?_
  refine lv_iconst (v := iI 1) hx hb dX4_runs_6 (by decide) ?_
  refine z_icmp_ne (tgt := 14) hx hb dX4_runs_7 (by decide) ⟨by first | omega | exact (hz _).1 | exact (hz _).2, by first | omega | exact (hz _).1 | exact (hz _).2⟩ ⟨by first | omega | exact (hz _).1 | exact (hz _).2, by first | omega | exact (hz _).1 | exact (hz _).2⟩ (fun c_7 => ?_) (fun c_7 => ?_)
  · refine lv_iconst (v := iI 0) hx hb dX4_runs_14 (by decide) ?_
    exact z_zret hx hb hr hlocks hK hS (Or.inl rfl) () (by first | rfl | trivial | exact zb_t' (by omega) | exact zb_f' (by omega) | omega) hP hD dX4_runs_15
  · refine lv_iconst (v := iI 1) hx hb dX4_runs_10 (by decide) ?_
    refine lv_goto (tgt := 15) hx hb dX4_runs_11 (by decide) ?_
    exact z_zret hx hb hr hlocks hK hS (Or.inr rfl) () (by first | rfl | trivial | exact zb_t' (by omega) | exact zb_f' (by omega) | omega) hP hD dX4_runs_15
end
section
-- the model's methods as functions of its state
def itr {A : Type} (f : Int → A → A) (a : A) : Nat → A
  | 0 => a
  | n + 1 => f n (itr f a n)
theorem itr_step {A : Type} {f : Int → A → A} {a : A} {i : Int} (h : 0 ≤ i) : itr f a (i + 1).toNat = f i (itr f a i.toNat) := by
  obtain ⟨n, rfl⟩ := Int.eq_ofNat_of_zero_le h
  have e : ((n : Int) + 1).toNat = n + 1 := by omega
  rw [e]
  rfl
theorem itr_inv {A : Type} (P : A → Prop) (f : Int → A → A) (a : A) (h0 : P a) (hs : ∀ (i : Int) (x : A), 0 ≤ i → P x → P (f i x)) : ∀ n : Nat, P (itr f a n)
  | 0 => h0
  | n + 1 => hs n _ (by omega) (itr_inv P f a h0 hs n)
theorem zg_zs (z : Int → Int) (g k v : Int) : zg (zs z g k v) g k = v := if_pos rfl
theorem zg_zs_ne {z : Int → Int} {g k k' v : Int} (h : k' ≠ k) : zg (zs z g k v) g k' = zg z g k' := if_neg (by omega)
theorem zg_zs_g {z : Int → Int} {g g' k k' v : Int} (h : g' ≠ g) (h1 : 0 ≤ k ∧ k < 60) (h2 : 0 ≤ k' ∧ k' < 60) : zg (zs z g k v) g' k' = zg z g' k' := if_neg (by omega)
theorem zs_hd {z : Int → Int} {g k v j : Int} (h : 0 ≤ g) (h1 : 0 ≤ k) (h2 : j < 7) : zs z g k v j = z j := if_neg (by omega)
theorem zg_hd {z : Int → Int} {g k v j : Int} (h : 0 ≤ g) (h1 : 0 ≤ k) (h2 : j < 7) : zg (iU z j v) g k = zg z g k := if_neg (by omega)
theorem zs_self (z : Int → Int) (g k : Int) : zs z g k (zg z g k) = z := by
  funext j
  show (if j = 7 + 60 * g + k then z (7 + 60 * g + k) else z j) = z j
  split
  · rename_i h; rw [h]
  · rfl
/-- the cells that are compared are ints -/
def CZ (z : Int → Int) : Prop := ∀ g k : Int, (0 ≤ g ∧ g ≤ 5 ∧ 0 ≤ k ∧ k < 60 ∧ k ≠ 3 ∧ k ≠ 4 ∧ (k < 15 ∨ (k - 15) % 5 < 3)) → rg (zg z g k)
theorem CZ_zs {z : Int → Int} {g k v : Int} (h : CZ z) (h1 : 0 ≤ g ∧ g ≤ 5) (h2 : 0 ≤ k ∧ k < 60) (hv : k ≠ 3 ∧ k ≠ 4 ∧ (k < 15 ∨ (k - 15) % 5 < 3) → rg v) : CZ (zs z g k v) := by
  intro g' k' hk
  by_cases e : g' = g
  · subst e
    by_cases e2 : k' = k
    · subst e2
      rw [zg_zs]
      exact hv (by omega)
    · rw [zg_zs_ne e2]
      exact h _ _ hk
  · rw [zg_zs_g e h2 (by omega)]
    exact h _ _ hk
theorem CZ_hd {z : Int → Int} {j v : Int} (h : CZ z) (h2 : j < 7) : CZ (iU z j v) := by
  intro g k hk
  rw [zg_hd (by omega) (by omega) h2]
  exact h _ _ hk
def tr (d : Int → Int) : Nat → Nat
  | 0 => 0
  | n + 1 => if d n = -6 then tr d n else n + 1
theorem tr_congr {d d' : Int → Int} : ∀ {n : Nat}, (∀ p : Int, 0 ≤ p → p < n → d p = d' p) → tr d n = tr d' n
  | 0, _ => rfl
  | n + 1, h => by
    show (if d n = -6 then tr d n else n + 1) = (if d' n = -6 then tr d' n else n + 1)
    rw [h n (by omega) (by omega), tr_congr (n := n) (fun p h1 h2 => h p h1 (by omega))]
theorem tr_le (d : Int → Int) : ∀ n : Nat, tr d n ≤ n
  | 0 => Nat.le_refl 0
  | n + 1 => by
    show (if d n = -6 then tr d n else n + 1) ≤ n + 1
    have := tr_le d n
    split <;> omega
def mTrim (z : Int → Int) (g : Int) : Int → Int := zs z g 1 (tr (fun p => zg z g (15 + 5 * p + 2)) (zg z g 1).toNat)
theorem mTrim_0 {z : Int → Int} {g : Int} (h : zg z g 1 = 0) : mTrim z g = z := by
  unfold mTrim
  rw [h]
  have e := zs_self z g 1
  rw [h] at e
  exact e
theorem mTrim_stop {z : Int → Int} {g : Int} (h : 0 < zg z g 1) (hh : ¬ zg z g (15 + 5 * (zg z g 1 - 1) + 2) = -6) : mTrim z g = z := by
  unfold mTrim
  obtain ⟨n, hn⟩ : ∃ n : Nat, zg z g 1 = (n : Int) + 1 := ⟨(zg z g 1 - 1).toNat, by omega⟩
  have e1 : (zg z g 1).toNat = n + 1 := by omega
  have e2 : zg z g 1 - 1 = n := by omega
  rw [e2] at hh
  rw [e1]
  have e3 : tr (fun p => zg z g (15 + 5 * p + 2)) (n + 1) = n + 1 := if_neg hh
  rw [e3]
  have e := zs_self z g 1
  rw [hn] at e
  exact e
theorem mTrim_step {z : Int → Int} {g : Int} (h : 0 < zg z g 1) (hh : zg z g (15 + 5 * (zg z g 1 - 1) + 2) = -6) : mTrim (zs z g 1 (zg z g 1 - 1)) g = mTrim z g := by
  unfold mTrim
  obtain ⟨n, hn⟩ : ∃ n : Nat, zg z g 1 = (n : Int) + 1 := ⟨(zg z g 1 - 1).toNat, by omega⟩
  have e1 : (zg z g 1).toNat = n + 1 := by omega
  have e2 : zg z g 1 - 1 = n := by omega
  rw [e2] at hh
  rw [zg_zs, e1, e2]
  have e3 : tr (fun p => zg z g (15 + 5 * p + 2)) (n + 1) = tr (fun p => zg z g (15 + 5 * p + 2)) n := if_pos hh
  have e4 : tr (fun p => zg (zs z g 1 n) g (15 + 5 * p + 2)) ((n : Int)).toNat = tr (fun p => zg z g (15 + 5 * p + 2)) n := by
    rw [Int.toNat_natCast]
    exact tr_congr (fun p h1 h2 => zg_zs_ne (by omega))
  rw [e3, e4]
  funext j
  show (if j = 7 + 60 * g + 1 then _ else (if j = 7 + 60 * g + 1 then _ else z j)) = (if j = 7 + 60 * g + 1 then _ else z j)
  split
  · rfl
  · rfl
def mRollN : Nat → (Int → Int) → Int → (Int → Int)
  | 0, z, g => mTrim z g
  | n + 1, z, g => if zg z g 0 < zg z g 1 then mRollN n (zs (zs z g 3 (zg z g 3 + (if zg z g (15 + 5 * (zg z g 1 - 1) + 2) = -6 then 0 else 1))) g 1 (zg z g 1 - 1)) g else mTrim z g
def mRoll (z : Int → Int) (g : Int) : Int → Int := mRollN 9 z g
theorem mRollN_stop {z : Int → Int} {g : Int} (h : zg z g 1 ≤ zg z g 0) : ∀ n : Nat, mRollN n z g = mTrim z g
  | 0 => rfl
  | _ + 1 => if_neg (by omega)
theorem mRollN_step {z : Int → Int} {g : Int} (h : ¬ zg z g 1 ≤ zg z g 0) (n : Nat) : mRollN (n + 1) z g = mRollN n (zs (zs z g 3 (zg z g 3 + (if zg z g (15 + 5 * (zg z g 1 - 1) + 2) = -6 then 0 else 1))) g 1 (zg z g 1 - 1)) g := if_pos (by omega)
def mCopy1 (z : Int → Int) (g p : Int) : Int → Int := itr (fun k y => zs y g (15 + 5 * p + k) (zg y g (15 + 5 * (p - 1) + k))) z 5
def mShiftN : Nat → (Int → Int) → Int → (Int → Int)
  | 0, z, _ => z
  | n + 1, z, g => mShiftN n (mCopy1 z g ((n : Int) + 1)) g
def mk1 (z : Int → Int) : Int → Int := iU z 6 (z 6 + 1)
def mk2 (z : Int → Int) (g : Int) : Int → Int := zs z g 2 (zg z g 2 % 99 + 1)
def mk3 (z : Int → Int) (g : Int) : Int → Int := zs z g (15 + 5 * 0 + 0) (z 6)
def mk4 (z : Int → Int) (g : Int) : Int → Int := zs z g (15 + 5 * 0 + 1) (zg z g 2)
def mk5 (z : Int → Int) (g d : Int) : Int → Int := zs z g (15 + 5 * 0 + 2) d
def mk6 (z : Int → Int) (g : Int) : Int → Int := zs z g (15 + 5 * 0 + 3) 0
def mk7 (z : Int → Int) (g : Int) : Int → Int := zs z g (15 + 5 * 0 + 4) (if z 1 = 1 then z 0 else 0)
def mk8 (z : Int → Int) (g : Int) : Int → Int := zs z g 1 (zg z g 1 + 1)
def mNew (z : Int → Int) (g d : Int) : Int → Int := mk8 (mk7 (mk6 (mk5 (mk4 (mk3 (mk2 (mk1 (mShiftN (zg z g 1).toNat z g)) g) g) g) g d) g) g) g
def mMake (z : Int → Int) (g d : Int) : Int → Int := mRoll (mNew z g d) g
def mDel (z : Int → Int) (g p : Int) : Int → Int := mTrim (zs (zs z g (15 + 5 * p + 2) (-6)) g 4 (zg z g 4 + 1)) g
/-- the last index with a mark -/
def fd (mk : Int → Int) (m : Int) (n : Nat) : Int := itr (fun p r => if mk p = m then p else r) (-6) n
theorem fd_rg (mk : Int → Int) (m : Int) : ∀ n : Nat, fd mk m n = -6 ∨ (0 ≤ fd mk m n ∧ fd mk m n < n)
  | 0 => Or.inl rfl
  | n + 1 => by
    show (if mk n = m then (n : Int) else fd mk m n) = -6 ∨ (0 ≤ (if mk n = m then (n : Int) else fd mk m n) ∧ (if mk n = m then (n : Int) else fd mk m n) < ((n + 1 : Nat) : Int))
    have := fd_rg mk m n
    split <;> omega
def mPlace (z : Int → Int) (g m : Int) : Int := fd (fun p => zg z g (15 + 5 * p + 0)) m (zg z g 1).toNat
theorem mPlace_rg {z : Int → Int} {g m : Int} (h : 0 ≤ zg z g 1) : mPlace z g m = -6 ∨ (0 ≤ mPlace z g m ∧ mPlace z g m < zg z g 1) := by
  have := fd_rg (fun p => zg z g (15 + 5 * p + 0)) m (zg z g 1).toNat
  unfold mPlace
  omega
def mMark (z : Int → Int) (g n : Int) : Int := if n = 1 then zg z g 5 else zg z g (7 - n)
def mTold0 (z : Int → Int) (g n : Int) : Int := if z 1 = 1 then (if mMark z g n = 0 then -6 else mPlace z g (mMark z g n)) else if n < 1 ∧ -n < zg z g 1 then -n else -6
def noHole (z : Int → Int) (g p : Int) : Int := if p = -6 ∨ zg z g (15 + 5 * p + 2) = -6 then -6 else p
def mTold (z : Int → Int) (g n : Int) : Int := noHole z g (mTold0 z g n)
theorem mTold0_rg {z : Int → Int} {g n : Int} (h : 0 ≤ zg z g 1) : mTold0 z g n = -6 ∨ (0 ≤ mTold0 z g n ∧ mTold0 z g n < zg z g 1) := by
  have := mPlace_rg (z := z) (g := g) (m := mMark z g n) h
  unfold mTold0
  split
  · split <;> omega
  · split <;> omega
theorem noHole_rg {z : Int → Int} {g p : Int} {n : Int} (h : p = -6 ∨ (0 ≤ p ∧ p < n)) : noHole z g p = -6 ∨ (0 ≤ noHole z g p ∧ noHole z g p < n) := by
  unfold noHole
  split <;> omega
theorem mTold_rg {z : Int → Int} {g n : Int} (h : 0 ≤ zg z g 1) : mTold z g n = -6 ∨ (0 ≤ mTold z g n ∧ mTold z g n < zg z g 1) := noHole_rg (mTold0_rg h)
def mStart0 (z : Int → Int) : Int → Int := iU (iU (iU z 1 1) 2 0) 0 (z 0 + 1)
def mStart (z : Int → Int) : Int → Int := itr (fun g y => zs y g 5 0) (mStart0 z) 6
def mNames1 (z : Int → Int) (g : Int) : Int → Int := itr (fun p y => zs y g (7 + p) (if p < zg y g 1 then zg y g (15 + 5 * p + 0) else 0)) z 8
def mNames (z : Int → Int) : Int → Int := itr (fun g y => mNames1 y g) z 6
def mBegin (z : Int → Int) : Int → Int := mStart (mNames z)
def mMade0 (z : Int → Int) (g : Int) : Int := if zg z g 5 = 0 ∨ ¬ z 1 = 1 then -6 else mPlace z g (zg z g 5)
def mMade (z : Int → Int) (g : Int) : Int := noHole z g (mMade0 z g)
theorem mMade_rg {z : Int → Int} {g : Int} (h : 0 ≤ zg z g 1) : mMade z g = -6 ∨ (0 ≤ mMade z g ∧ mMade z g < zg z g 1) := by
  have := mPlace_rg (z := z) (g := g) (m := zg z g 5) h
  refine noHole_rg ?_
  unfold mMade0
  split <;> omega
def mMany7 (z : Int → Int) : Int := itr (fun g n => n + (if mMade z g = -6 then 0 else 1)) 0 6
def mFail1 (z : Int → Int) (g : Int) : Int → Int := if mMade z g = -6 then z else mDel z g (mMade z g)
def mFail (z : Int → Int) (w : Int) : Int → Int := if w = 0 then itr (fun g y => mFail1 y g) z 6 else z
def mEnd0 (z : Int → Int) (w : Int) : Int → Int := iU (iU (iU z 1 0) 2 (1 - w)) 3 (z 3 + (1 - w))
def mEnd (z : Int → Int) (w : Int) : Int → Int := mEnd0 (mFail z w) w
def mHoles (z : Int → Int) (g : Int) : Int := itr (fun p n => n + (if zg z g (15 + 5 * p + 2) = -6 then 1 else 0)) 0 (zg z g 1).toNat
def mSum (z : Int → Int) (g : Int) : Int := itr (fun p n => n + (if zg z g (15 + 5 * p + 2) = -6 then 0 else zg z g (15 + 5 * p + 2))) 0 (zg z g 1).toNat
def mNameOf (z : Int → Int) (g pl : Int) : Int := if z 1 = 1 then itr (fun k r => if mTold z g (k - 7) = pl then (k - 7) + 10 else r) (-6) 9 else -6
def mAllHoles (z : Int → Int) : Int := itr (fun g n => n + mHoles z g) 0 6
def mAll (z : Int → Int) : Int := itr (fun g n => n + zg z g 1) 0 6
def mWholes (z : Int → Int) : Int := mAll z - mAllHoles z
def recP (z pa : Int → Int) (pm : Int) : Int → Int := itr (fun k y => iU y ((if pm = 6 then pm - 1 else pm) * 367 + k) (z k)) (if pm = 6 then itr (fun k y => iU y k (y (k + 367))) pa 1835 else pa) 367
def recM (pm : Int) : Int := (if pm = 6 then pm - 1 else pm) + 1
end
section
theorem ndX4_trim : yX4_trim.cls = RX4 ∧ yX4_trim.cls ≠ "java/lang/invoke/MethodHandle" ∧ yX4_trim.cls ≠ "java/lang/invoke/VarHandle" ∧ (parseMethodDescriptor yX4_trim.desc).map (fun d => d.parameters.length) = some 1 := by decide +kernel
set_option maxRecDepth 100000 in
set_option maxHeartbeats 4000000 in
theorem c_X4_trim (l : Launch) (E : zE) (q : Nat → Nat) (z pa sl sv sp pd od : Int → Int) (pm ty om st wr : Int) (g : Int) (h0 : 0 ≤ g ∧ g ≤ 5) (h1 : 0 ≤ zg z g 1 ∧ zg z g 1 ≤ 9) (h2 : CZ z) : zFv l E yX4_trim wsX4_trim 3 67 [.ref (q 0), .int (iI g)] (wM E q z pa sl sv sp pd od pm ty om st wr) (wM E q (mTrim z g) pa sl sv sp pd od pm ty om st wr) := by
  have hz := h2
  refine zCv_of (cc := cX4_trim) (maxL := 2) (by decide) rfl (Nat.le_of_ble_eq_true rfl) ?_
  intro p e s m below meth c ls A hx hb hr hts hown hlocks hml hK hA hS hP hD hl
  have hown : s.vm.findClass RX4 = some m.cls := hown
  have hl : lv_has ls 2 [(0, .ref (q 0)), (1, .int (iI g))] := hl
  have hloop0 : ∀ (n : Nat) (z1 : Int → Int) (hmu : zg z1 g 1 = (n : Int)) (hi0_0 : mTrim z1 g = mTrim z g) (hi0_1 : 0 ≤ zg z1 g 1 ∧ zg z1 g 1 ≤ 9) (hi0_2 : CZ z1) (H : Heap) (locs : List Loc) (ls : Array Slot), va_P E.1 vwCl (wM E q z1 pa sl sv sp pd od pm ty om st wr) H → va_D A (wM E q z1 pa sl sv sp pd od pm ty om st wr) → va_S A s.heap H locs → lv_has ls 2 [(0, .ref (q 0)), (1, .int (iI g))] → W p l e (zR 3 67) s m ([.ref (q 0), .int (iI g)] : List Value).toArray below meth c H locs 0 0 (MQ below (zQv E A (S := Unit) (fun _ => True) (fun _ => wM E q (mTrim z g) pa sl sv sp pd od pm ty om st wr)) ([.ref (q 0), .int (iI g)] : List Value).toArray s 0 0 A) (F0 m 0 ls []) := by
    intro n
    induction n using Nat.strongRecOn with
    | ind n ih0 =>
      intro z1 hmu0 hi0_0 hi0_1 hi0_2 H locs ls hP hD hS hl
      have hz := hi0_2
      refine lv_aload_n hx hb dX4_trim_0 rfl (lv_at hl 0 rfl) ?_
      refine lv_iload_n hx hb dX4_trim_1 rfl (lv_at hl 1 rfl) ?_
      refine z_callV0 (ci := 4) (qk := 0) (As := [.int (iI g)]) (rest := []) hx hb hml hown hts hK hA hl.1 hP hD hS (c_X4_many l E q z1 pa sl sv sp pd od pm ty om st wr g  (by first | omega | exact hz _ _ (by omega) | exact hz | exact ⟨by omega, by omega⟩)) gX4_trim_X4_many rfl ndX4_many ⟨Nat.le_of_ble_eq_true rfl, Nat.le_of_ble_eq_true rfl⟩ rfl rfl rfl rfl rfl (Nat.le_of_ble_eq_true rfl) dX4_trim_2 ⟨Nat.le_of_ble_eq_true rfl, Nat.le_of_ble_eq_true rfl⟩ (fun x u H locs hpost hP hD hS => ?_)
      subst hpost
      have hP : va_P E.1 vwCl (wM E q z1 pa sl sv sp pd od pm ty om st wr) H := hP
      have hD : va_D A (wM E q z1 pa sl sv sp pd od pm ty om st wr) := hD
      refine z_if_le (tgt := 39) hx hb dX4_trim_5 (by decide) ⟨by first | omega | exact (hz _ _ (by omega)).1 | exact (hz _ _ (by omega)).2, by first | omega | exact (hz _ _ (by omega)).1 | exact (hz _ _ (by omega)).2⟩ (fun c_5 => ?_) (fun c_5 => ?_)
      · have eqc_z : (mTrim z g) = z1 := by rw [← hi0_0]; first | exact mTrim_0 (by omega) | exact mTrim_stop (by omega) c_20
        have hP : va_P E.1 vwCl (wM E q (mTrim z g) pa sl sv sp pd od pm ty om st wr) H := by rw [eqc_z]; exact hP
        have hD : va_D A (wM E q (mTrim z g) pa sl sv sp pd od pm ty om st wr) := by rw [eqc_z]; exact hD
        exact z_vret hx hb hr hlocks hK hS () (by first | rfl | trivial | exact zb_t' (by omega) | exact zb_f' (by omega) | omega) hP hD dX4_trim_39
      · refine lv_aload_n hx hb dX4_trim_8 rfl (lv_at hl 0 rfl) ?_
        refine lv_iload_n hx hb dX4_trim_9 rfl (lv_at hl 1 rfl) ?_
        refine lv_aload_n hx hb dX4_trim_10 rfl (lv_at hl 0 rfl) ?_
        refine lv_iload_n hx hb dX4_trim_11 rfl (lv_at hl 1 rfl) ?_
        refine z_callV0 (ci := 4) (qk := 0) (As := [.int (iI g)]) (rest := [.int (iI g), .ref (q 0)]) hx hb hml hown hts hK hA hl.1 hP hD hS (c_X4_many l E q z1 pa sl sv sp pd od pm ty om st wr g  (by first | omega | exact hz _ _ (by omega) | exact hz | exact ⟨by omega, by omega⟩)) gX4_trim_X4_many rfl ndX4_many ⟨Nat.le_of_ble_eq_true rfl, Nat.le_of_ble_eq_true rfl⟩ rfl rfl rfl rfl rfl (Nat.le_of_ble_eq_true rfl) dX4_trim_12 ⟨Nat.le_of_ble_eq_true rfl, Nat.le_of_ble_eq_true rfl⟩ (fun x u H locs hpost hP hD hS => ?_)
        subst hpost
        have hP : va_P E.1 vwCl (wM E q z1 pa sl sv sp pd od pm ty om st wr) H := hP
        have hD : va_D A (wM E q z1 pa sl sv sp pd od pm ty om st wr) := hD
        refine lv_iconst (v := iI 1) hx hb dX4_trim_15 (by decide) ?_
        refine z_isub hx hb dX4_trim_16 ?_
        refine z_callV0 (ci := 4) (qk := 0) (As := [.int (iI g), .int (iI ((zg z1 g 1) - 1))]) (rest := []) hx hb hml hown hts hK hA hl.1 hP hD hS (c_X4_isHole l E q z1 pa sl sv sp pd od pm ty om st wr g ((zg z1 g 1) - 1)  (by first | omega | exact hz _ _ (by omega) | exact hz | exact ⟨by omega, by omega⟩) (by first | omega | exact hz _ _ (by omega) | exact hz | exact ⟨by omega, by omega⟩) (by first | omega | exact hz _ _ (by omega) | exact hz | exact ⟨by omega, by omega⟩)) gX4_trim_X4_isHole rfl ndX4_isHole ⟨Nat.le_of_ble_eq_true rfl, Nat.le_of_ble_eq_true rfl⟩ rfl rfl rfl rfl rfl (Nat.le_of_ble_eq_true rfl) dX4_trim_17 ⟨Nat.le_of_ble_eq_true rfl, Nat.le_of_ble_eq_true rfl⟩ (fun x u H locs hpost hP hD hS => ?_)
        subst hpost
        have hP : va_P E.1 vwCl (wM E q z1 pa sl sv sp pd od pm ty om st wr) H := hP
        have hD : va_D A (wM E q z1 pa sl sv sp pd od pm ty om st wr) := hD
        refine z_ifb_eq (tgt := 39) hx hb dX4_trim_20 (by decide) (fun c_20 => ?_) (fun c_20 => ?_)
        · have eqc_z : (mTrim z g) = z1 := by rw [← hi0_0]; first | exact mTrim_0 (by omega) | exact mTrim_stop (by omega) c_20
          have hP : va_P E.1 vwCl (wM E q (mTrim z g) pa sl sv sp pd od pm ty om st wr) H := by rw [eqc_z]; exact hP
          have hD : va_D A (wM E q (mTrim z g) pa sl sv sp pd od pm ty om st wr) := by rw [eqc_z]; exact hD
          exact z_vret hx hb hr hlocks hK hS () (by first | rfl | trivial | exact zb_t' (by omega) | exact zb_f' (by omega) | omega) hP hD dX4_trim_39
        · refine lv_aload_n hx hb dX4_trim_23 rfl (lv_at hl 0 rfl) ?_
          refine lv_iload_n hx hb dX4_trim_24 rfl (lv_at hl 1 rfl) ?_
          refine lv_iconst (v := iI 1) hx hb dX4_trim_25 (by decide) ?_
          refine lv_aload_n hx hb dX4_trim_26 rfl (lv_at hl 0 rfl) ?_
          refine lv_iload_n hx hb dX4_trim_27 rfl (lv_at hl 1 rfl) ?_
          refine z_callV0 (ci := 4) (qk := 0) (As := [.int (iI g)]) (rest := [.int (iI 1), .int (iI g), .ref (q 0)]) hx hb hml hown hts hK hA hl.1 hP hD hS (c_X4_many l E q z1 pa sl sv sp pd od pm ty om st wr g  (by first | omega | exact hz _ _ (by omega) | exact hz | exact ⟨by omega, by omega⟩)) gX4_trim_X4_many rfl ndX4_many ⟨Nat.le_of_ble_eq_true rfl, Nat.le_of_ble_eq_true rfl⟩ rfl rfl rfl rfl rfl (Nat.le_of_ble_eq_true rfl) dX4_trim_28 ⟨Nat.le_of_ble_eq_true rfl, Nat.le_of_ble_eq_true rfl⟩ (fun x u H locs hpost hP hD hS => ?_)
          subst hpost
          have hP : va_P E.1 vwCl (wM E q z1 pa sl sv sp pd od pm ty om st wr) H := hP
          have hD : va_D A (wM E q z1 pa sl sv sp pd od pm ty om st wr) := hD
          refine lv_iconst (v := iI 1) hx hb dX4_trim_31 (by decide) ?_
          refine z_isub hx hb dX4_trim_32 ?_
          refine z_callVv0 (ci := 4) (qk := 0) (As := [.int (iI g), .int (iI 1), .int (iI ((zg z1 g 1) - 1))]) (rest := []) hx hb hml hown hts hK hA hl.1 hP hD hS (c_X4_lay l E q z1 pa sl sv sp pd od pm ty om st wr g 1 ((zg z1 g 1) - 1)  (by first | omega | exact hz _ _ (by omega) | exact hz | exact ⟨by omega, by omega⟩) (by first | omega | exact hz _ _ (by omega) | exact hz | exact ⟨by omega, by omega⟩)) gX4_trim_X4_lay rfl ndX4_lay ⟨Nat.le_of_ble_eq_true rfl, Nat.le_of_ble_eq_true rfl⟩ rfl rfl rfl rfl rfl (Nat.le_of_ble_eq_true rfl) dX4_trim_33 ⟨Nat.le_of_ble_eq_true rfl, Nat.le_of_ble_eq_true rfl⟩ (fun u H locs hpost hP hD hS => ?_)
          have hP : va_P E.1 vwCl (wM E q (zs z1 g 1 ((zg z1 g 1) - 1)) pa sl sv sp pd od pm ty om st wr) H := hP
          have hD : va_D A (wM E q (zs z1 g 1 ((zg z1 g 1) - 1)) pa sl sv sp pd od pm ty om st wr) := hD
          refine lv_goto (tgt := 0) hx hb dX4_trim_36 (by decide) ?_
          have hm : zg (zs z1 g 1 ((zg z1 g 1) - 1)) g 1 = zg z1 g 1 - 1 := zg_zs _ _ _ _
          exact ih0 (zg (zs z1 g 1 ((zg z1 g 1) - 1)) g 1 : Int).toNat (by omega) (zs z1 g 1 ((zg z1 g 1) - 1)) (by omega) (by rw [← hi0_0]; exact mTrim_step (by omega) c_20) (by omega) (CZ_zs hz (by omega) (by omega) (fun _ => ⟨by omega, by omega⟩)) _ _ ls hP hD hS (lv_sub hl [0, 1] rfl)
  exact hloop0 (zg z g 1 : Int).toNat z (by omega) (rfl) (by omega) (hz) _ _ ls hP hD hS (lv_sub hl [0, 1] rfl)

theorem ndX4_roll : yX4_roll.cls = RX4 ∧ yX4_roll.cls ≠ "java/lang/invoke/MethodHandle" ∧ yX4_roll.cls ≠ "java/lang/invoke/VarHandle" ∧ (parseMethodDescriptor yX4_roll.desc).map (fun d => d.parameters.length) = some 1 := by decide +kernel
set_option maxRecDepth 100000 in
set_option maxHeartbeats 4000000 in
theorem c_X4_roll (l : Launch) (E : zE) (q : Nat → Nat) (z pa sl sv sp pd od : Int → Int) (pm ty om st wr : Int) (g : Int) (h0 : 0 ≤ g ∧ g ≤ 5) (h1 : 0 ≤ zg z g 1 ∧ zg z g 1 ≤ 9) (h2 : 1 ≤ zg z g 0 ∧ zg z g 0 ≤ 8) (h3 : CZ z) : zFv l E yX4_roll wsX4_roll 4 88 [.ref (q 0), .int (iI g)] (wM E q z pa sl sv sp pd od pm ty om st wr) (wM E q (mRoll z g) pa sl sv sp pd od pm ty om st wr) := by
  have hz := h3
  refine zCv_of (cc := cX4_roll) (maxL := 2) (by decide) rfl (Nat.le_of_ble_eq_true rfl) ?_
  intro p e s m below meth c ls A hx hb hr hts hown hlocks hml hK hA hS hP hD hl
  have hown : s.vm.findClass RX4 = some m.cls := hown
  have hl : lv_has ls 2 [(0, .ref (q 0)), (1, .int (iI g))] := hl
  have hloop0 : ∀ (n : Nat) (z1 : Int → Int) (hmu : zg z1 g 1 = (n : Int)) (hi0_0 : ∃ k : Nat, zg z1 g 1 - zg z1 g 0 ≤ k ∧ mRollN k z1 g = mRoll z g) (hi0_1 : 0 ≤ zg z1 g 1 ∧ zg z1 g 1 ≤ 9) (hi0_2 : 1 ≤ zg z1 g 0 ∧ zg z1 g 0 ≤ 8) (hi0_3 : CZ z1) (H : Heap) (locs : List Loc) (ls : Array Slot), va_P E.1 vwCl (wM E q z1 pa sl sv sp pd od pm ty om st wr) H → va_D A (wM E q z1 pa sl sv sp pd od pm ty om st wr) → va_S A s.heap H locs → lv_has ls 2 [(0, .ref (q 0)), (1, .int (iI g))] → W p l e (zR 4 88) s m ([.ref (q 0), .int (iI g)] : List Value).toArray below meth c H locs 0 0 (MQ below (zQv E A (S := Unit) (fun _ => True) (fun _ => wM E q (mRoll z g) pa sl sv sp pd od pm ty om st wr)) ([.ref (q 0), .int (iI g)] : List Value).toArray s 0 0 A) (F0 m 0 ls []) := by
    intro n
    induction n using Nat.strongRecOn with
    | ind n ih0 =>
      intro z1 hmu0 hi0_0 hi0_1 hi0_2 hi0_3 H locs ls hP hD hS hl
      have hz := hi0_3
      obtain ⟨k, hk, hi0_0⟩ := hi0_0
      refine lv_aload_n hx hb dX4_roll_0 rfl (lv_at hl 0 rfl) ?_
      refine lv_iload_n hx hb dX4_roll_1 rfl (lv_at hl 1 rfl) ?_
      refine z_callV0 (ci := 4) (qk := 0) (As := [.int (iI g)]) (rest := []) hx hb hml hown hts hK hA hl.1 hP hD hS (c_X4_many l E q z1 pa sl sv sp pd od pm ty om st wr g  (by first | omega | exact hz _ _ (by omega) | exact hz | exact ⟨by omega, by omega⟩)) gX4_roll_X4_many rfl ndX4_many ⟨Nat.le_of_ble_eq_true rfl, Nat.le_of_ble_eq_true rfl⟩ rfl rfl rfl rfl rfl (Nat.le_of_ble_eq_true rfl) dX4_roll_2 ⟨Nat.le_of_ble_eq_true rfl, Nat.le_of_ble_eq_true rfl⟩ (fun x u H locs hpost hP hD hS => ?_)
      subst hpost
      have hP : va_P E.1 vwCl (wM E q z1 pa sl sv sp pd od pm ty om st wr) H := hP
      have hD : va_D A (wM E q z1 pa sl sv sp pd od pm ty om st wr) := hD
      refine lv_aload_n hx hb dX4_roll_5 rfl (lv_at hl 0 rfl) ?_
      refine lv_iload_n hx hb dX4_roll_6 rfl (lv_at hl 1 rfl) ?_
      refine lv_iconst (v := iI 0) hx hb dX4_roll_7 (by decide) ?_
      refine z_callV0 (ci := 4) (qk := 0) (As := [.int (iI g), .int (iI 0)]) (rest := [.int (iI (zg z1 g 1))]) hx hb hml hown hts hK hA hl.1 hP hD hS (c_X4_of l E q z1 pa sl sv sp pd od pm ty om st wr g 0  (by first | omega | exact hz _ _ (by omega) | exact hz | exact ⟨by omega, by omega⟩) (by first | omega | exact hz _ _ (by omega) | exact hz | exact ⟨by omega, by omega⟩)) gX4_roll_X4_of rfl ndX4_of ⟨Nat.le_of_ble_eq_true rfl, Nat.le_of_ble_eq_true rfl⟩ rfl rfl rfl rfl rfl (Nat.le_of_ble_eq_true rfl) dX4_roll_8 ⟨Nat.le_of_ble_eq_true rfl, Nat.le_of_ble_eq_true rfl⟩ (fun x u H locs hpost hP hD hS => ?_)
      subst hpost
      have hP : va_P E.1 vwCl (wM E q z1 pa sl sv sp pd od pm ty om st wr) H := hP
      have hD : va_D A (wM E q z1 pa sl sv sp pd od pm ty om st wr) := hD
      refine z_icmp_le (tgt := 63) hx hb dX4_roll_11 (by decide) ⟨by first | omega | exact (hz _ _ (by omega)).1 | exact (hz _ _ (by omega)).2, by first | omega | exact (hz _ _ (by omega)).1 | exact (hz _ _ (by omega)).2⟩ ⟨by first | omega | exact (hz _ _ (by omega)).1 | exact (hz _ _ (by omega)).2, by first | omega | exact (hz _ _ (by omega)).1 | exact (hz _ _ (by omega)).2⟩ (fun c_11 => ?_) (fun c_11 => ?_)
      · refine lv_aload_n hx hb dX4_roll_63 rfl (lv_at hl 0 rfl) ?_
        refine lv_iload_n hx hb dX4_roll_64 rfl (lv_at hl 1 rfl) ?_
        refine z_callVv0 (ci := 4) (qk := 0) (As := [.int (iI g)]) (rest := []) hx hb hml hown hts hK hA hl.1 hP hD hS (c_X4_trim l E q z1 pa sl sv sp pd od pm ty om st wr g  (by first | omega | exact hz _ _ (by omega) | exact hz | exact ⟨by omega, by omega⟩) (by first | omega | exact hz _ _ (by omega) | exact hz | exact ⟨by omega, by omega⟩) (by first | omega | exact hz _ _ (by omega) | exact hz | exact ⟨by omega, by omega⟩)) gX4_roll_X4_trim rfl ndX4_trim ⟨Nat.le_of_ble_eq_true rfl, Nat.le_of_ble_eq_true rfl⟩ rfl rfl rfl rfl rfl (Nat.le_of_ble_eq_true rfl) dX4_roll_65 ⟨Nat.le_of_ble_eq_true rfl, Nat.le_of_ble_eq_true rfl⟩ (fun u H locs hpost hP hD hS => ?_)
        have hP : va_P E.1 vwCl (wM E q (mTrim z1 g) pa sl sv sp pd od pm ty om st wr) H := hP
        have hD : va_D A (wM E q (mTrim z1 g) pa sl sv sp pd od pm ty om st wr) := hD
        have eqc_z : (mRoll z g) = mTrim z1 g := by rw [← hi0_0]; exact mRollN_stop c_11 k
        have hP : va_P E.1 vwCl (wM E q (mRoll z g) pa sl sv sp pd od pm ty om st wr) H := by rw [eqc_z]; exact hP
        have hD : va_D A (wM E q (mRoll z g) pa sl sv sp pd od pm ty om st wr) := by rw [eqc_z]; exact hD
        exact z_vret hx hb hr hlocks hK hS () (by first | rfl | trivial | exact zb_t' (by omega) | exact zb_f' (by omega) | omega) hP hD dX4_roll_68
      · refine lv_aload_n hx hb dX4_roll_14 rfl (lv_at hl 0 rfl) ?_
        refine lv_iload_n hx hb dX4_roll_15 rfl (lv_at hl 1 rfl) ?_
        refine lv_iconst (v := iI 3) hx hb dX4_roll_16 (by decide) ?_
        refine lv_aload_n hx hb dX4_roll_17 rfl (lv_at hl 0 rfl) ?_
        refine lv_iload_n hx hb dX4_roll_18 rfl (lv_at hl 1 rfl) ?_
        refine lv_iconst (v := iI 3) hx hb dX4_roll_19 (by decide) ?_
        refine z_callV0 (ci := 4) (qk := 0) (As := [.int (iI g), .int (iI 3)]) (rest := [.int (iI 3), .int (iI g), .ref (q 0)]) hx hb hml hown hts hK hA hl.1 hP hD hS (c_X4_of l E q z1 pa sl sv sp pd od pm ty om st wr g 3  (by first | omega | exact hz _ _ (by omega) | exact hz | exact ⟨by omega, by omega⟩) (by first | omega | exact hz _ _ (by omega) | exact hz | exact ⟨by omega, by omega⟩)) gX4_roll_X4_of rfl ndX4_of ⟨Nat.le_of_ble_eq_true rfl, Nat.le_of_ble_eq_true rfl⟩ rfl rfl rfl rfl rfl (Nat.le_of_ble_eq_true rfl) dX4_roll_20 ⟨Nat.le_of_ble_eq_true rfl, Nat.le_of_ble_eq_true rfl⟩ (fun x u H locs hpost hP hD hS => ?_)
        subst hpost
        have hP : va_P E.1 vwCl (wM E q z1 pa sl sv sp pd od pm ty om st wr) H := hP
        have hD : va_D A (wM E q z1 pa sl sv sp pd od pm ty om st wr) := hD
        refine lv_aload_n hx hb dX4_roll_23 rfl (lv_at hl 0 rfl) ?_
        refine lv_iload_n hx hb dX4_roll_24 rfl (lv_at hl 1 rfl) ?_
        refine lv_aload_n hx hb dX4_roll_25 rfl (lv_at hl 0 rfl) ?_
        refine lv_iload_n hx hb dX4_roll_26 rfl (lv_at hl 1 rfl) ?_
        refine z_callV0 (ci := 4) (qk := 0) (As := [.int (iI g)]) (rest := [.int (iI g), .ref (q 0), .int (iI (zg z1 g 3)), .int (iI 3), .int (iI g), .ref (q 0)]) hx hb hml hown hts hK hA hl.1 hP hD hS (c_X4_many l E q z1 pa sl sv sp pd od pm ty om st wr g  (by first | omega | exact hz _ _ (by omega) | exact hz | exact ⟨by omega, by omega⟩)) gX4_roll_X4_many rfl ndX4_many ⟨Nat.le_of_ble_eq_true rfl, Nat.le_of_ble_eq_true rfl⟩ rfl rfl rfl rfl rfl (Nat.le_of_ble_eq_true rfl) dX4_roll_27 ⟨Nat.le_of_ble_eq_true rfl, Nat.le_of_ble_eq_true rfl⟩ (fun x u H locs hpost hP hD hS => ?_)
        subst hpost
        have hP : va_P E.1 vwCl (wM E q z1 pa sl sv sp pd od pm ty om st wr) H := hP
        have hD : va_D A (wM E q z1 pa sl sv sp pd od pm ty om st wr) := hD
        refine lv_iconst (v := iI 1) hx hb dX4_roll_30 (by decide) ?_
        refine z_isub hx hb dX4_roll_31 ?_
        refine z_callV0 (ci := 4) (qk := 0) (As := [.int (iI g), .int (iI ((zg z1 g 1) - 1))]) (rest := [.int (iI (zg z1 g 3)), .int (iI 3), .int (iI g), .ref (q 0)]) hx hb hml hown hts hK hA hl.1 hP hD hS (c_X4_isHole l E q z1 pa sl sv sp pd od pm ty om st wr g ((zg z1 g 1) - 1)  (by first | omega | exact hz _ _ (by omega) | exact hz | exact ⟨by omega, by omega⟩) (by first | omega | exact hz _ _ (by omega) | exact hz | exact ⟨by omega, by omega⟩) (by first | omega | exact hz _ _ (by omega) | exact hz | exact ⟨by omega, by omega⟩)) gX4_roll_X4_isHole rfl ndX4_isHole ⟨Nat.le_of_ble_eq_true rfl, Nat.le_of_ble_eq_true rfl⟩ rfl rfl rfl rfl rfl (Nat.le_of_ble_eq_true rfl) dX4_roll_32 ⟨Nat.le_of_ble_eq_true rfl, Nat.le_of_ble_eq_true rfl⟩ (fun x u H locs hpost hP hD hS => ?_)
        subst hpost
        have hP : va_P E.1 vwCl (wM E q z1 pa sl sv sp pd od pm ty om st wr) H := hP
        have hD : va_D A (wM E q z1 pa sl sv sp pd od pm ty om st wr) := hD
        refine z_ifb_eq (tgt := 42) hx hb dX4_roll_35 (by decide) (fun c_35 => ?_) (fun c_35 => ?_)
        · refine lv_iconst (v := iI 1) hx hb dX4_roll_42 (by decide) ?_
          refine z_iadd hx hb dX4_roll_43 ?_
          have hz1 := hz
          refine z_callVv0 (ci := 4) (qk := 0) (As := [.int (iI g), .int (iI 3), .int (iI ((zg z1 g 3) + 1))]) (rest := []) hx hb hml hown hts hK hA hl.1 hP hD hS (c_X4_lay l E q z1 pa sl sv sp pd od pm ty om st wr g 3 ((zg z1 g 3) + 1)  (by first | omega | exact hz _ _ (by omega) | exact hz | exact ⟨by omega, by omega⟩) (by first | omega | exact hz _ _ (by omega) | exact hz | exact ⟨by omega, by omega⟩)) gX4_roll_X4_lay rfl ndX4_lay ⟨Nat.le_of_ble_eq_true rfl, Nat.le_of_ble_eq_true rfl⟩ rfl rfl rfl rfl rfl (Nat.le_of_ble_eq_true rfl) dX4_roll_44 ⟨Nat.le_of_ble_eq_true rfl, Nat.le_of_ble_eq_true rfl⟩ (fun u H locs hpost hP hD hS => ?_)
          have hP : va_P E.1 vwCl (wM E q (zs z1 g 3 ((zg z1 g 3) + 1)) pa sl sv sp pd od pm ty om st wr) H := hP
          have hD : va_D A (wM E q (zs z1 g 3 ((zg z1 g 3) + 1)) pa sl sv sp pd od pm ty om st wr) := hD
          refine lv_aload_n hx hb dX4_roll_47 rfl (lv_at hl 0 rfl) ?_
          refine lv_iload_n hx hb dX4_roll_48 rfl (lv_at hl 1 rfl) ?_
          refine lv_iconst (v := iI 1) hx hb dX4_roll_49 (by decide) ?_
          refine lv_aload_n hx hb dX4_roll_50 rfl (lv_at hl 0 rfl) ?_
          refine lv_iload_n hx hb dX4_roll_51 rfl (lv_at hl 1 rfl) ?_
          refine z_callV0 (ci := 4) (qk := 0) (As := [.int (iI g)]) (rest := [.int (iI 1), .int (iI g), .ref (q 0)]) hx hb hml hown hts hK hA hl.1 hP hD hS (c_X4_many l E q (zs z1 g 3 ((zg z1 g 3) + 1)) pa sl sv sp pd od pm ty om st wr g  (by first | omega | exact hz _ _ (by omega) | exact hz | exact ⟨by omega, by omega⟩)) gX4_roll_X4_many rfl ndX4_many ⟨Nat.le_of_ble_eq_true rfl, Nat.le_of_ble_eq_true rfl⟩ rfl rfl rfl rfl rfl (Nat.le_of_ble_eq_true rfl) dX4_roll_52 ⟨Nat.le_of_ble_eq_true rfl, Nat.le_of_ble_eq_true rfl⟩ (fun x u H locs hpost hP hD hS => ?_)
          subst hpost
          have hP : va_P E.1 vwCl (wM E q (zs z1 g 3 ((zg z1 g 3) + 1)) pa sl sv sp pd od pm ty om st wr) H := hP
          have hD : va_D A (wM E q (zs z1 g 3 ((zg z1 g 3) + 1)) pa sl sv sp pd od pm ty om st wr) := hD
          refine lv_iconst (v := iI 1) hx hb dX4_roll_55 (by decide) ?_
          refine z_isub hx hb dX4_roll_56 ?_
          refine z_callVv0 (ci := 4) (qk := 0) (As := [.int (iI g), .int (iI 1), .int (iI ((zg (zs z1 g 3 ((zg z1 g 3) + 1)) g 1) - 1))]) (rest := []) hx hb hml hown hts hK hA hl.1 hP hD hS (c_X4_lay l E q (zs z1 g 3 ((zg z1 g 3) + 1)) pa sl sv sp pd od pm ty om st wr g 1 ((zg (zs z1 g 3 ((zg z1 g 3) + 1)) g 1) - 1)  (by first | omega | exact hz _ _ (by omega) | exact hz | exact ⟨by omega, by omega⟩) (by first | omega | exact hz _ _ (by omega) | exact hz | exact ⟨by omega, by omega⟩)) gX4_roll_X4_lay rfl ndX4_lay ⟨Nat.le_of_ble_eq_true rfl, Nat.le_of_ble_eq_true rfl⟩ rfl rfl rfl rfl rfl (Nat.le_of_ble_eq_true rfl) dX4_roll_57 ⟨Nat.le_of_ble_eq_true rfl, Nat.le_of_ble_eq_true rfl⟩ (fun u H locs hpost hP hD hS => ?_)
          have hP : va_P E.1 vwCl (wM E q (zs (zs z1 g 3 ((zg z1 g 3) + 1)) g 1 ((zg (zs z1 g 3 ((zg z1 g 3) + 1)) g 1) - 1)) pa sl sv sp pd od pm ty om st wr) H := hP
          have hD : va_D A (wM E q (zs (zs z1 g 3 ((zg z1 g 3) + 1)) g 1 ((zg (zs z1 g 3 ((zg z1 g 3) + 1)) g 1) - 1)) pa sl sv sp pd od pm ty om st wr) := hD
          refine lv_goto (tgt := 0) hx hb dX4_roll_60 (by decide) ?_
          have hm : zg (zs (zs z1 g 3 ((zg z1 g 3) + 1)) g 1 ((zg (zs z1 g 3 ((zg z1 g 3) + 1)) g 1) - 1)) g 1 = zg z1 g 1 - 1 := by rw [zg_zs, zg_zs_ne (by omega)]
          have hm0 : zg (zs (zs z1 g 3 ((zg z1 g 3) + 1)) g 1 ((zg (zs z1 g 3 ((zg z1 g 3) + 1)) g 1) - 1)) g 0 = zg z1 g 0 := by rw [zg_zs_ne (by omega), zg_zs_ne (by omega)]
          obtain ⟨k, rfl⟩ : ∃ j : Nat, k = j + 1 := ⟨k - 1, by omega⟩
          exact ih0 (zg (zs (zs z1 g 3 ((zg z1 g 3) + 1)) g 1 ((zg (zs z1 g 3 ((zg z1 g 3) + 1)) g 1) - 1)) g 1 : Int).toNat (by omega) (zs (zs z1 g 3 ((zg z1 g 3) + 1)) g 1 ((zg (zs z1 g 3 ((zg z1 g 3) + 1)) g 1) - 1)) (by omega) (⟨k, by omega, by rw [← hi0_0, mRollN_step c_11, zg_zs_ne (by omega)]; first | rw [if_pos c_35] | rw [if_neg c_35]⟩) (by omega) (by omega) (CZ_zs (CZ_zs hz (by omega) (by omega) (fun q => absurd q (by omega))) (by omega) (by omega) (fun _ => by rw [zg_zs_ne (by omega)]; exact ⟨by omega, by omega⟩)) _ _ ls hP hD hS (lv_sub hl [0, 1] rfl)
        · refine lv_iconst (v := iI 0) hx hb dX4_roll_38 (by decide) ?_
          refine lv_goto (tgt := 43) hx hb dX4_roll_39 (by decide) ?_
          refine z_iadd hx hb dX4_roll_43 ?_
          have hz1 := hz
          refine z_callVv0 (ci := 4) (qk := 0) (As := [.int (iI g), .int (iI 3), .int (iI ((zg z1 g 3) + 0))]) (rest := []) hx hb hml hown hts hK hA hl.1 hP hD hS (c_X4_lay l E q z1 pa sl sv sp pd od pm ty om st wr g 3 ((zg z1 g 3) + 0)  (by first | omega | exact hz _ _ (by omega) | exact hz | exact ⟨by omega, by omega⟩) (by first | omega | exact hz _ _ (by omega) | exact hz | exact ⟨by omega, by omega⟩)) gX4_roll_X4_lay rfl ndX4_lay ⟨Nat.le_of_ble_eq_true rfl, Nat.le_of_ble_eq_true rfl⟩ rfl rfl rfl rfl rfl (Nat.le_of_ble_eq_true rfl) dX4_roll_44 ⟨Nat.le_of_ble_eq_true rfl, Nat.le_of_ble_eq_true rfl⟩ (fun u H locs hpost hP hD hS => ?_)
          have hP : va_P E.1 vwCl (wM E q (zs z1 g 3 ((zg z1 g 3) + 0)) pa sl sv sp pd od pm ty om st wr) H := hP
          have hD : va_D A (wM E q (zs z1 g 3 ((zg z1 g 3) + 0)) pa sl sv sp pd od pm ty om st wr) := hD
          refine lv_aload_n hx hb dX4_roll_47 rfl (lv_at hl 0 rfl) ?_
          refine lv_iload_n hx hb dX4_roll_48 rfl (lv_at hl 1 rfl) ?_
          refine lv_iconst (v := iI 1) hx hb dX4_roll_49 (by decide) ?_
          refine lv_aload_n hx hb dX4_roll_50 rfl (lv_at hl 0 rfl) ?_
          refine lv_iload_n hx hb dX4_roll_51 rfl (lv_at hl 1 rfl) ?_
          refine z_callV0 (ci := 4) (qk := 0) (As := [.int (iI g)]) (rest := [.int (iI 1), .int (iI g), .ref (q 0)]) hx hb hml hown hts hK hA hl.1 hP hD hS (c_X4_many l E q (zs z1 g 3 ((zg z1 g 3) + 0)) pa sl sv sp pd od pm ty om st wr g  (by first | omega | exact hz _ _ (by omega) | exact hz | exact ⟨by omega, by omega⟩)) gX4_roll_X4_many rfl ndX4_many ⟨Nat.le_of_ble_eq_true rfl, Nat.le_of_ble_eq_true rfl⟩ rfl rfl rfl rfl rfl (Nat.le_of_ble_eq_true rfl) dX4_roll_52 ⟨Nat.le_of_ble_eq_true rfl, Nat.le_of_ble_eq_true rfl⟩ (fun x u H locs hpost hP hD hS => ?_)
          subst hpost
          have hP : va_P E.1 vwCl (wM E q (zs z1 g 3 ((zg z1 g 3) + 0)) pa sl sv sp pd od pm ty om st wr) H := hP
          have hD : va_D A (wM E q (zs z1 g 3 ((zg z1 g 3) + 0)) pa sl sv sp pd od pm ty om st wr) := hD
          refine lv_iconst (v := iI 1) hx hb dX4_roll_55 (by decide) ?_
          refine z_isub hx hb dX4_roll_56 ?_
          refine z_callVv0 (ci := 4) (qk := 0) (As := [.int (iI g), .int (iI 1), .int (iI ((zg (zs z1 g 3 ((zg z1 g 3) + 0)) g 1) - 1))]) (rest := []) hx hb hml hown hts hK hA hl.1 hP hD hS (c_X4_lay l E q (zs z1 g 3 ((zg z1 g 3) + 0)) pa sl sv sp pd od pm ty om st wr g 1 ((zg (zs z1 g 3 ((zg z1 g 3) + 0)) g 1) - 1)  (by first | omega | exact hz _ _ (by omega) | exact hz | exact ⟨by omega, by omega⟩) (by first | omega | exact hz _ _ (by omega) | exact hz | exact ⟨by omega, by omega⟩)) gX4_roll_X4_lay rfl ndX4_lay ⟨Nat.le_of_ble_eq_true rfl, Nat.le_of_ble_eq_true rfl⟩ rfl rfl rfl rfl rfl (Nat.le_of_ble_eq_true rfl) dX4_roll_57 ⟨Nat.le_of_ble_eq_true rfl, Nat.le_of_ble_eq_true rfl⟩ (fun u H locs hpost hP hD hS => ?_)
          have hP : va_P E.1 vwCl (wM E q (zs (zs z1 g 3 ((zg z1 g 3) + 0)) g 1 ((zg (zs z1 g 3 ((zg z1 g 3) + 0)) g 1) - 1)) pa sl sv sp pd od pm ty om st wr) H := hP
          have hD : va_D A (wM E q (zs (zs z1 g 3 ((zg z1 g 3) + 0)) g 1 ((zg (zs z1 g 3 ((zg z1 g 3) + 0)) g 1) - 1)) pa sl sv sp pd od pm ty om st wr) := hD
          refine lv_goto (tgt := 0) hx hb dX4_roll_60 (by decide) ?_
          have hm : zg (zs (zs z1 g 3 ((zg z1 g 3) + 0)) g 1 ((zg (zs z1 g 3 ((zg z1 g 3) + 0)) g 1) - 1)) g 1 = zg z1 g 1 - 1 := by rw [zg_zs, zg_zs_ne (by omega)]
          have hm0 : zg (zs (zs z1 g 3 ((zg z1 g 3) + 0)) g 1 ((zg (zs z1 g 3 ((zg z1 g 3) + 0)) g 1) - 1)) g 0 = zg z1 g 0 := by rw [zg_zs_ne (by omega), zg_zs_ne (by omega)]
          obtain ⟨k, rfl⟩ : ∃ j : Nat, k = j + 1 := ⟨k - 1, by omega⟩
          exact ih0 (zg (zs (zs z1 g 3 ((zg z1 g 3) + 0)) g 1 ((zg (zs z1 g 3 ((zg z1 g 3) + 0)) g 1) - 1)) g 1 : Int).toNat (by omega) (zs (zs z1 g 3 ((zg z1 g 3) + 0)) g 1 ((zg (zs z1 g 3 ((zg z1 g 3) + 0)) g 1) - 1)) (by omega) (⟨k, by omega, by rw [← hi0_0, mRollN_step c_11, zg_zs_ne (by omega)]; first | rw [if_pos c_35] | rw [if_neg c_35]⟩) (by omega) (by omega) (CZ_zs (CZ_zs hz (by omega) (by omega) (fun q => absurd q (by omega))) (by omega) (by omega) (fun _ => by rw [zg_zs_ne (by omega)]; exact ⟨by omega, by omega⟩)) _ _ ls hP hD hS (lv_sub hl [0, 1] rfl)
  exact hloop0 (zg z g 1 : Int).toNat z (by omega) (⟨9, by omega, rfl⟩) (by omega) (by omega) (hz) _ _ ls hP hD hS (lv_sub hl [0, 1] rfl)

theorem ndX4_numberBehind : yX4_numberBehind.cls = RX4 ∧ yX4_numberBehind.cls ≠ "java/lang/invoke/MethodHandle" ∧ yX4_numberBehind.cls ≠ "java/lang/invoke/VarHandle" ∧ (parseMethodDescriptor yX4_numberBehind.desc).map (fun d => d.parameters.length) = some 1 := by decide +kernel
set_option maxRecDepth 100000 in
set_option maxHeartbeats 4000000 in
theorem c_X4_numberBehind (l : Launch) (E : zE) (v : Int) (h0 : 0 ≤ v ∧ v < 2147483648) : zF l E yX4_numberBehind wsX4_numberBehind 0 0 [.int (iI v)] ([]) (v % 99 + 1) ([]) := by
  refine zC_of (cc := cX4_numberBehind) (maxL := 1) (by decide) rfl (Nat.le_of_ble_eq_true rfl) ?_
  intro p e s m below meth c ls A hx hb hr hts hown hlocks hml hK hA hS hP hD hl
  have hown : s.vm.findClass RX4 = some m.cls := hown
  have hl : lv_has ls 1 [(0, .int (iI v))] := hl
  refine lv_iload_n hx hb dX4_numberBehind_0 rfl (lv_at hl 0 rfl) ?_
  refine lv_bipush (v := iI 99) hx hb dX4_numberBehind_1 (by decide) ?_
  refine z_irem hx hb dX4_numberBehind_3 (by omega) (by omega) (by omega) (by omega) ?_
  refine lv_iconst (v := iI 1) hx hb dX4_numberBehind_4 (by decide) ?_
  refine z_iadd hx hb dX4_numberBehind_5 ?_
  exact z_iret hx hb hr hlocks hK hS () (by first | rfl | trivial | exact zb_t' (by omega) | exact zb_f' (by omega) | omega) hP hD dX4_numberBehind_6

theorem ndX4_isName : yX4_isName.cls = RX4 ∧ yX4_isName.cls ≠ "java/lang/invoke/MethodHandle" ∧ yX4_isName.cls ≠ "java/lang/invoke/VarHandle" ∧ (parseMethodDescriptor yX4_isName.desc).map (fun d => d.parameters.length) = some 1 := by decide +kernel
set_option maxRecDepth 100000 in
set_option maxHeartbeats 4000000 in
theorem c_X4_isName (l : Launch) (E : zE) (n : Int) (h0 : rg n) : zF l E yX4_isName wsX4_isName 1 22 [.int (iI n)] ([]) (zb (-7 ≤ n ∧ n ≤ 1)) ([]) := by
  refine zC_of (cc := cX4_isName) (maxL := 1) (by decide) rfl (Nat.le_of_ble_eq_true rfl) ?_
  intro p e s m below meth c ls A hx hb hr hts hown hlocks hml hK hA hS hP hD hl
  have hown : s.vm.findClass RX4 = some m.cls := hown
  have hl : lv_has ls 1 [(0, .int (iI n))] := hl
  refine lv_iload_n hx hb dX4_isName_0 rfl (lv_at hl 0 rfl) ?_
  refine lv_bipush (v := iI (-7)) hx hb dX4_isName_1 (by decide) ?_
  refine lv_iconst (v := iI 1) hx hb dX4_isName_3 (by decide) ?_
  refine z_callS0 (As := [.int (iI n), .int (iI (-7)), .int (iI 1)]) (rest := []) hx hb hml hown hts hK hA hl.1 hP hD hS (c_X4_in l E  n (-7) 1  (by first | omega | exact hz _ _ (by omega) | exact hz | exact ⟨by omega, by omega⟩) (by first | omega | exact hz _ _ (by omega) | exact hz | exact ⟨by omega, by omega⟩) (by first | omega | exact hz _ _ (by omega) | exact hz | exact ⟨by omega, by omega⟩)) gX4_isName_X4_in rfl ndX4_in ⟨Nat.le_of_ble_eq_true rfl, Nat.le_of_ble_eq_true rfl⟩ rfl rfl (Nat.le_of_ble_eq_true rfl) dX4_isName_4 ⟨Nat.le_of_ble_eq_true rfl, Nat.le_of_ble_eq_true rfl⟩ (fun x H locs hpost hP hD hS => ?_)
  subst hpost
  exact z_zret hx hb hr hlocks hK hS zb_01 () (by first | rfl | trivial | exact zb_t' (by omega) | exact zb_f' (by omega) | omega) hP hD dX4_isName_7

theorem ndX4_markOf : yX4_markOf.cls = RX4 ∧ yX4_markOf.cls ≠ "java/lang/invoke/MethodHandle" ∧ yX4_markOf.cls ≠ "java/lang/invoke/VarHandle" ∧ (parseMethodDescriptor yX4_markOf.desc).map (fun d => d.parameters.length) = some 2 := by decide +kernel
set_option maxRecDepth 100000 in
set_option maxHeartbeats 4000000 in
theorem c_X4_markOf (l : Launch) (E : zE) (q : Nat → Nat) (z pa sl sv sp pd od : Int → Int) (pm ty om st wr : Int) (g : Int) (n : Int) (h0 : 0 ≤ g ∧ g ≤ 5) (h1 : -7 ≤ n ∧ n ≤ 1) : zF l E yX4_markOf wsX4_markOf 1 22 [.ref (q 0), .int (iI g), .int (iI n)] (wM E q z pa sl sv sp pd od pm ty om st wr) (mMark z g n) (wM E q z pa sl sv sp pd od pm ty om st wr) := by
  refine zC_of (cc := cX4_markOf) (maxL := 3) (by decide) rfl (Nat.le_of_ble_eq_true rfl) ?_
  intro p e s m below meth c ls A hx hb hr hts hown hlocks hml hK hA hS hP hD hl
  have hown : s.vm.findClass RX4 = some m.cls := hown
  have hl : lv_has ls 3 [(0, .ref (q 0)), (1, .int (iI g)), (2, .int (iI n))] := hl
  refine lv_iload_n hx hb dX4_markOf_0 rfl (lv_at hl 2 rfl) ?_
  refine lv_iconst (v := iI 1) hx hb dX4_markOf_1 (by decide) ?_
  refine z_icmp_ne (tgt := 14) hx hb dX4_markOf_2 (by decide) ⟨by first | omega | exact (hz _ _ (by omega)).1 | exact (hz _ _ (by omega)).2, by first | omega | exact (hz _ _ (by omega)).1 | exact (hz _ _ (by omega)).2⟩ ⟨by first | omega | exact (hz _ _ (by omega)).1 | exact (hz _ _ (by omega)).2, by first | omega | exact (hz _ _ (by omega)).1 | exact (hz _ _ (by omega)).2⟩ (fun c_2 => ?_) (fun c_2 => ?_)
  · refine lv_aload_n hx hb dX4_markOf_14 rfl (lv_at hl 0 rfl) ?_
    refine lv_iload_n hx hb dX4_markOf_15 rfl (lv_at hl 1 rfl) ?_
    refine lv_bipush (v := iI 7) hx hb dX4_markOf_16 (by decide) ?_
    refine lv_iload_n hx hb dX4_markOf_18 rfl (lv_at hl 2 rfl) ?_
    refine z_isub hx hb dX4_markOf_19 ?_
    refine z_callV0 (ci := 4) (qk := 0) (As := [.int (iI g), .int (iI (7 - n))]) (rest := []) hx hb hml hown hts hK hA hl.1 hP hD hS (c_X4_of l E q z pa sl sv sp pd od pm ty om st wr g (7 - n)  (by first | omega | exact hz _ _ (by omega) | exact hz | exact ⟨by omega, by omega⟩) (by first | omega | exact hz _ _ (by omega) | exact hz | exact ⟨by omega, by omega⟩)) gX4_markOf_X4_of rfl ndX4_of ⟨Nat.le_of_ble_eq_true rfl, Nat.le_of_ble_eq_true rfl⟩ rfl rfl rfl rfl rfl (Nat.le_of_ble_eq_true rfl) dX4_markOf_20 ⟨Nat.le_of_ble_eq_true rfl, Nat.le_of_ble_eq_true rfl⟩ (fun x u H locs hpost hP hD hS => ?_)
    subst hpost
    have hP : va_P E.1 vwCl (wM E q z pa sl sv sp pd od pm ty om st wr) H := hP
    have hD : va_D A (wM E q z pa sl sv sp pd od pm ty om st wr) := hD
    exact z_iret hx hb hr hlocks hK hS () (by unfold mMark; first | rw [if_pos (by omega)] | rw [if_neg (by omega)]) hP hD dX4_markOf_23
  · refine lv_aload_n hx hb dX4_markOf_5 rfl (lv_at hl 0 rfl) ?_
    refine lv_iload_n hx hb dX4_markOf_6 rfl (lv_at hl 1 rfl) ?_
    refine lv_iconst (v := iI 5) hx hb dX4_markOf_7 (by decide) ?_
    refine z_callV0 (ci := 4) (qk := 0) (As := [.int (iI g), .int (iI 5)]) (rest := []) hx hb hml hown hts hK hA hl.1 hP hD hS (c_X4_of l E q z pa sl sv sp pd od pm ty om st wr g 5  (by first | omega | exact hz _ _ (by omega) | exact hz | exact ⟨by omega, by omega⟩) (by first | omega | exact hz _ _ (by omega) | exact hz | exact ⟨by omega, by omega⟩)) gX4_markOf_X4_of rfl ndX4_of ⟨Nat.le_of_ble_eq_true rfl, Nat.le_of_ble_eq_true rfl⟩ rfl rfl rfl rfl rfl (Nat.le_of_ble_eq_true rfl) dX4_markOf_8 ⟨Nat.le_of_ble_eq_true rfl, Nat.le_of_ble_eq_true rfl⟩ (fun x u H locs hpost hP hD hS => ?_)
    subst hpost
    have hP : va_P E.1 vwCl (wM E q z pa sl sv sp pd od pm ty om st wr) H := hP
    have hD : va_D A (wM E q z pa sl sv sp pd od pm ty om st wr) := hD
    refine lv_goto (tgt := 23) hx hb dX4_markOf_11 (by decide) ?_
    exact z_iret hx hb hr hlocks hK hS () (by unfold mMark; first | rw [if_pos (by omega)] | rw [if_neg (by omega)]) hP hD dX4_markOf_23

theorem ndX4_placeOf : yX4_placeOf.cls = RX4 ∧ yX4_placeOf.cls ≠ "java/lang/invoke/MethodHandle" ∧ yX4_placeOf.cls ≠ "java/lang/invoke/VarHandle" ∧ (parseMethodDescriptor yX4_placeOf.desc).map (fun d => d.parameters.length) = some 2 := by decide +kernel
set_option maxRecDepth 100000 in
set_option maxHeartbeats 4000000 in
theorem c_X4_placeOf (l : Launch) (E : zE) (q : Nat → Nat) (z pa sl sv sp pd od : Int → Int) (pm ty om st wr : Int) (g : Int) (mk : Int) (h0 : 0 ≤ g ∧ g ≤ 5) (h1 : 0 ≤ zg z g 1 ∧ zg z g 1 ≤ 8) (h2 : CZ z) (h3 : rg mk) : zF l E yX4_placeOf wsX4_placeOf 2 45 [.ref (q 0), .int (iI g), .int (iI mk)] (wM E q z pa sl sv sp pd od pm ty om st wr) (mPlace z g mk) (wM E q z pa sl sv sp pd od pm ty om st wr) := by
  have hz := h2
  refine zC_of (cc := cX4_placeOf) (maxL := 5) (by decide) rfl (Nat.le_of_ble_eq_true rfl) ?_
  intro p e s m below meth c ls A hx hb hr hts hown hlocks hml hK hA hS hP hD hl
  have hown : s.vm.findClass RX4 = some m.cls := hown
  have hl : lv_has ls 5 [(0, .ref (q 0)), (1, .int (iI g)), (2, .int (iI mk))] := hl
  refine lv_bipush (v := iI (-6)) hx hb dX4_placeOf_0 (by decide) ?_
  refine lv_istore_n (lv' := [(3, .int (iI (-6))), (0, .ref (q 0)), (1, .int (iI g)), (2, .int (iI mk))]) hx hb dX4_placeOf_2 rfl hl (by decide) rfl (fun ls hl => ?_)
  refine lv_iconst (v := iI 0) hx hb dX4_placeOf_3 (by decide) ?_
  refine lv_istore (lv' := [(4, .int (iI 0)), (3, .int (iI (-6))), (0, .ref (q 0)), (1, .int (iI g)), (2, .int (iI mk))]) hx hb dX4_placeOf_4 hl (by decide) rfl (fun ls hl => ?_)
  have hloop6 : ∀ (n : Nat) (f1 : Int) (i1 : Int) (hmu : zg z g 1 - i1 = (n : Int)) (hi6_0 : f1 = fd (fun p => zg z g (15 + 5 * p + 0)) mk (i1).toNat) (hi6_1 : 0 ≤ i1 ∧ i1 ≤ zg z g 1) (H : Heap) (locs : List Loc) (ls : Array Slot), va_P E.1 vwCl (wM E q z pa sl sv sp pd od pm ty om st wr) H → va_D A (wM E q z pa sl sv sp pd od pm ty om st wr) → va_S A s.heap H locs → lv_has ls 5 [(4, .int (iI i1)), (3, .int (iI f1)), (0, .ref (q 0)), (1, .int (iI g)), (2, .int (iI mk))] → W p l e (zR 2 45) s m ([.ref (q 0), .int (iI g), .int (iI mk)] : List Value).toArray below meth c H locs 0 0 (MQ below (zQ E A (S := Unit) (fun x _ => x = (mPlace z g mk)) (fun _ => wM E q z pa sl sv sp pd od pm ty om st wr)) ([.ref (q 0), .int (iI g), .int (iI mk)] : List Value).toArray s 0 0 A) (F0 m 6 ls []) := by
    intro n
    induction n using Nat.strongRecOn with
    | ind n ih6 =>
      intro f1 i1 hmu6 hi6_0 hi6_1 H locs ls hP hD hS hl
      refine lv_iload hx hb dX4_placeOf_6 (lv_at hl 0 rfl) ?_
      refine lv_aload_n hx hb dX4_placeOf_8 rfl (lv_at hl 2 rfl) ?_
      refine lv_iload_n hx hb dX4_placeOf_9 rfl (lv_at hl 3 rfl) ?_
      refine z_callV0 (ci := 4) (qk := 0) (As := [.int (iI g)]) (rest := [.int (iI i1)]) hx hb hml hown hts hK hA hl.1 hP hD hS (c_X4_many l E q z pa sl sv sp pd od pm ty om st wr g  (by first | omega | exact hz _ _ (by omega) | exact hz | exact ⟨by omega, by omega⟩)) gX4_placeOf_X4_many rfl ndX4_many ⟨Nat.le_of_ble_eq_true rfl, Nat.le_of_ble_eq_true rfl⟩ rfl rfl rfl rfl rfl (Nat.le_of_ble_eq_true rfl) dX4_placeOf_10 ⟨Nat.le_of_ble_eq_true rfl, Nat.le_of_ble_eq_true rfl⟩ (fun x u H locs hpost hP hD hS => ?_)
      subst hpost
      have hP : va_P E.1 vwCl (wM E q z pa sl sv sp pd od pm ty om st wr) H := hP
      have hD : va_D A (wM E q z pa sl sv sp pd od pm ty om st wr) := hD
      refine z_icmp_ge (tgt := 41) hx hb dX4_placeOf_13 (by decide) ⟨by first | omega | exact (hz _ _ (by omega)).1 | exact (hz _ _ (by omega)).2, by first | omega | exact (hz _ _ (by omega)).1 | exact (hz _ _ (by omega)).2⟩ ⟨by first | omega | exact (hz _ _ (by omega)).1 | exact (hz _ _ (by omega)).2, by first | omega | exact (hz _ _ (by omega)).1 | exact (hz _ _ (by omega)).2⟩ (fun c_13 => ?_) (fun c_13 => ?_)
      · refine lv_iload_n hx hb dX4_placeOf_41 rfl (lv_at hl 1 rfl) ?_
        exact z_iret hx hb hr hlocks hK hS () (by rw [hi6_0, show i1 = zg z g 1 by omega]; rfl) hP hD dX4_placeOf_42
      · refine lv_aload_n hx hb dX4_placeOf_16 rfl (lv_at hl 2 rfl) ?_
        refine lv_iload_n hx hb dX4_placeOf_17 rfl (lv_at hl 3 rfl) ?_
        refine lv_iload hx hb dX4_placeOf_18 (lv_at hl 0 rfl) ?_
        refine lv_iconst (v := iI 0) hx hb dX4_placeOf_20 (by decide) ?_
        refine z_callV0 (ci := 4) (qk := 0) (As := [.int (iI g), .int (iI i1), .int (iI 0)]) (rest := []) hx hb hml hown hts hK hA hl.1 hP hD hS (c_X4_gen l E q z pa sl sv sp pd od pm ty om st wr g i1 0  (by first | omega | exact hz _ _ (by omega) | exact hz | exact ⟨by omega, by omega⟩) (by first | omega | exact hz _ _ (by omega) | exact hz | exact ⟨by omega, by omega⟩)) gX4_placeOf_X4_gen rfl ndX4_gen ⟨Nat.le_of_ble_eq_true rfl, Nat.le_of_ble_eq_true rfl⟩ rfl rfl rfl rfl rfl (Nat.le_of_ble_eq_true rfl) dX4_placeOf_21 ⟨Nat.le_of_ble_eq_true rfl, Nat.le_of_ble_eq_true rfl⟩ (fun x u H locs hpost hP hD hS => ?_)
        subst hpost
        have hP : va_P E.1 vwCl (wM E q z pa sl sv sp pd od pm ty om st wr) H := hP
        have hD : va_D A (wM E q z pa sl sv sp pd od pm ty om st wr) := hD
        refine lv_iload_n hx hb dX4_placeOf_24 rfl (lv_at hl 4 rfl) ?_
        refine z_icmp_ne (tgt := 33) hx hb dX4_placeOf_25 (by decide) ⟨by first | omega | exact (hz _ _ (by omega)).1 | exact (hz _ _ (by omega)).2, by first | omega | exact (hz _ _ (by omega)).1 | exact (hz _ _ (by omega)).2⟩ ⟨by first | omega | exact (hz _ _ (by omega)).1 | exact (hz _ _ (by omega)).2, by first | omega | exact (hz _ _ (by omega)).1 | exact (hz _ _ (by omega)).2⟩ (fun c_25 => ?_) (fun c_25 => ?_)
        · refine lv_iload_n hx hb dX4_placeOf_33 rfl (lv_at hl 1 rfl) ?_
          refine lv_istore_n (lv' := [(3, .int (iI f1)), (4, .int (iI i1)), (0, .ref (q 0)), (1, .int (iI g)), (2, .int (iI mk))]) hx hb dX4_placeOf_34 rfl hl (by decide) rfl (fun ls hl => ?_)
          refine lv_iinc (v := iI (i1 + 1)) (lv' := [(4, .int (iI (i1 + 1))), (3, .int (iI f1)), (0, .ref (q 0)), (1, .int (iI g)), (2, .int (iI mk))]) hx hb dX4_placeOf_35 hl (k := 1) rfl (iI_add _ _) (by decide) rfl (fun ls hl => ?_)
          refine lv_goto (tgt := 6) hx hb dX4_placeOf_38 (by decide) ?_
          exact ih6 (zg z g 1 - (i1 + 1) : Int).toNat (by omega) f1 (i1 + 1) (by omega) (by unfold fd; rw [itr_step (by omega)]; first | rw [if_pos c_25] | (rw [if_neg c_25, hi6_0]; rfl)) (by omega) _ _ ls hP hD hS (lv_sub hl [0, 1, 2, 3, 4] rfl)
        · refine lv_iload hx hb dX4_placeOf_28 (lv_at hl 0 rfl) ?_
          refine lv_goto (tgt := 34) hx hb dX4_placeOf_30 (by decide) ?_
          refine lv_istore_n (lv' := [(3, .int (iI i1)), (4, .int (iI i1)), (0, .ref (q 0)), (1, .int (iI g)), (2, .int (iI mk))]) hx hb dX4_placeOf_34 rfl hl (by decide) rfl (fun ls hl => ?_)
          refine lv_iinc (v := iI (i1 + 1)) (lv' := [(4, .int (iI (i1 + 1))), (3, .int (iI i1)), (0, .ref (q 0)), (1, .int (iI g)), (2, .int (iI mk))]) hx hb dX4_placeOf_35 hl (k := 1) rfl (iI_add _ _) (by decide) rfl (fun ls hl => ?_)
          refine lv_goto (tgt := 6) hx hb dX4_placeOf_38 (by decide) ?_
          exact ih6 (zg z g 1 - (i1 + 1) : Int).toNat (by omega) i1 (i1 + 1) (by omega) (by unfold fd; rw [itr_step (by omega)]; first | rw [if_pos c_25] | (rw [if_neg c_25, hi6_0]; rfl)) (by omega) _ _ ls hP hD hS (lv_sub hl [0, 1, 2, 3, 4] rfl)
  exact hloop6 (zg z g 1 - 0 : Int).toNat (-6) 0 (by omega) (rfl) (by omega) _ _ ls hP hD hS (lv_sub hl [0, 1, 2, 3, 4] rfl)
end
section
theorem mMark_rg {z : Int → Int} {g n : Int} (hz : CZ z) (hg : 0 ≤ g ∧ g ≤ 5) (hn : -7 ≤ n ∧ n ≤ 1) : rg (mMark z g n) := by
  unfold mMark
  split
  · exact hz _ _ (by omega)
  · exact hz _ _ (by omega)
theorem told_a {z : Int → Int} {g n : Int} (h : z 1 = 1) (h2 : mMark z g n = 0) : mTold0 z g n = -6 := by unfold mTold0; rw [if_pos h, if_pos h2]
theorem told_b {z : Int → Int} {g n : Int} (h : z 1 = 1) (h2 : ¬ mMark z g n = 0) : mTold0 z g n = mPlace z g (mMark z g n) := by unfold mTold0; rw [if_pos h, if_neg h2]
theorem told_c {z : Int → Int} {g n : Int} (h : ¬ z 1 = 1) (h2 : n < 1 ∧ -n < zg z g 1) : mTold0 z g n = -n := by unfold mTold0; rw [if_neg h, if_pos h2]
theorem told_d {z : Int → Int} {g n : Int} (h : ¬ z 1 = 1) (h2 : ¬ (n < 1 ∧ -n < zg z g 1)) : mTold0 z g n = -6 := by unfold mTold0; rw [if_neg h, if_neg h2]
theorem noHole_a {z : Int → Int} {g p : Int} (h : p = -6) : noHole z g p = -6 := if_pos (Or.inl h)
theorem noHole_b {z : Int → Int} {g p : Int} (h : zg z g (15 + 5 * p + 2) = -6) : noHole z g p = -6 := if_pos (Or.inr h)
theorem noHole_c {z : Int → Int} {g p : Int} (h : ¬ p = -6) (h2 : ¬ zg z g (15 + 5 * p + 2) = -6) : noHole z g p = p := if_neg (fun q => q.elim h h2)
theorem made_a {z : Int → Int} {g : Int} (h : zg z g 5 = 0) : mMade0 z g = -6 := if_pos (Or.inl h)
theorem made_b {z : Int → Int} {g : Int} (h : ¬ z 1 = 1) : mMade0 z g = -6 := if_pos (Or.inr h)
theorem made_c {z : Int → Int} {g : Int} (h : ¬ zg z g 5 = 0) (h2 : z 1 = 1) : mMade0 z g = mPlace z g (zg z g 5) := if_neg (fun q => q.elim h (fun k => k h2))
theorem mHoles_rg {z : Int → Int} {g : Int} (h : 0 ≤ zg z g 1 ∧ zg z g 1 ≤ 8) : 0 ≤ mHoles z g ∧ mHoles z g ≤ 8 := by
  have key : ∀ n : Nat, 0 ≤ itr (fun p (n : Int) => n + (if zg z g (15 + 5 * p + 2) = -6 then 1 else 0)) 0 n ∧ itr (fun p (n : Int) => n + (if zg z g (15 + 5 * p + 2) = -6 then 1 else 0)) 0 n ≤ n := by
    intro n
    induction n with
    | zero => exact ⟨Int.le_refl 0, Int.le_refl 0⟩
    | succ n ih =>
      show 0 ≤ itr (fun p (n : Int) => n + (if zg z g (15 + 5 * p + 2) = -6 then 1 else 0)) 0 n + (if zg z g (15 + 5 * n + 2) = -6 then 1 else 0) ∧ itr (fun p (n : Int) => n + (if zg z g (15 + 5 * p + 2) = -6 then 1 else 0)) 0 n + (if zg z g (15 + 5 * n + 2) = -6 then 1 else 0) ≤ ((n + 1 : Nat) : Int)
      split <;> omega
  have := key (zg z g 1).toNat
  unfold mHoles
  omega
end
section
theorem ndX4_told : yX4_told.cls = RX4 ∧ yX4_told.cls ≠ "java/lang/invoke/MethodHandle" ∧ yX4_told.cls ≠ "java/lang/invoke/VarHandle" ∧ (parseMethodDescriptor yX4_told.desc).map (fun d => d.parameters.length) = some 2 := by decide +kernel
set_option maxRecDepth 100000 in
set_option maxHeartbeats 4000000 in
theorem c_X4_told (l : Launch) (E : zE) (q : Nat → Nat) (z pa sl sv sp pd od : Int → Int) (pm ty om st wr : Int) (g : Int) (n : Int) (h0 : 0 ≤ g ∧ g ≤ 5) (h1 : -7 ≤ n ∧ n ≤ 1) (h2 : 0 ≤ zg z g 1 ∧ zg z g 1 ≤ 8) (h3 : CZ z) (h4 : rg (z 1)) : zF l E yX4_told wsX4_told 3 69 [.ref (q 0), .int (iI g), .int (iI n)] (wM E q z pa sl sv sp pd od pm ty om st wr) (mTold z g n) (wM E q z pa sl sv sp pd od pm ty om st wr) := by
  have hz := h3
  have hp := mPlace_rg (z := z) (g := g) (m := mMark z g n) h2.1
  refine zC_of (cc := cX4_told) (maxL := 4) (by decide) rfl (Nat.le_of_ble_eq_true rfl) ?_
  intro p e s m below meth c ls A hx hb hr hts hown hlocks hml hK hA hS hP hD hl
  have hown : s.vm.findClass RX4 = some m.cls := hown
  have hl : lv_has ls 4 [(0, .ref (q 0)), (1, .int (iI g)), (2, .int (iI n))] := hl
  refine lv_bipush (v := iI (-6)) hx hb dX4_told_0 (by decide) ?_
  refine lv_istore_n (lv' := [(3, .int (iI (-6))), (0, .ref (q 0)), (1, .int (iI g)), (2, .int (iI n))]) hx hb dX4_told_2 rfl hl (by decide) rfl (fun ls hl => ?_)
  refine lv_aload_n hx hb dX4_told_3 rfl (lv_at hl 1 rfl) ?_
  refine z_callV0 (ci := 4) (qk := 0) (As := []) (rest := []) hx hb hml hown hts hK hA hl.1 hP hD hS (c_X4_runs l E q z pa sl sv sp pd od pm ty om st wr   (by first | omega | exact hz _ _ (by omega) | exact hz | exact ⟨by omega, by omega⟩ | exact mMark_rg hz h0 h1)) gX4_told_X4_runs rfl ndX4_runs ⟨Nat.le_of_ble_eq_true rfl, Nat.le_of_ble_eq_true rfl⟩ rfl rfl rfl rfl rfl (Nat.le_of_ble_eq_true rfl) dX4_told_4 ⟨Nat.le_of_ble_eq_true rfl, Nat.le_of_ble_eq_true rfl⟩ (fun x u H locs hpost hP hD hS => ?_)
  subst hpost
  have hP : va_P E.1 vwCl (wM E q z pa sl sv sp pd od pm ty om st wr) H := hP
  have hD : va_D A (wM E q z pa sl sv sp pd od pm ty om st wr) := hD
  refine z_ifb_eq (tgt := 39) hx hb dX4_told_7 (by decide) (fun c_7 => ?_) (fun c_7 => ?_)
  · refine lv_iload_n hx hb dX4_told_39 rfl (lv_at hl 3 rfl) ?_
    refine lv_iconst (v := iI 1) hx hb dX4_told_40 (by decide) ?_
    refine z_icmp_ge (tgt := 57) hx hb dX4_told_41 (by decide) ⟨by first | omega | exact (hz _ _ (by omega)).1 | exact (hz _ _ (by omega)).2 | exact (mMark_rg hz h0 h1).1 | exact (mMark_rg hz h0 h1).2, by first | omega | exact (hz _ _ (by omega)).1 | exact (hz _ _ (by omega)).2 | exact (mMark_rg hz h0 h1).1 | exact (mMark_rg hz h0 h1).2⟩ ⟨by first | omega | exact (hz _ _ (by omega)).1 | exact (hz _ _ (by omega)).2 | exact (mMark_rg hz h0 h1).1 | exact (mMark_rg hz h0 h1).2, by first | omega | exact (hz _ _ (by omega)).1 | exact (hz _ _ (by omega)).2 | exact (mMark_rg hz h0 h1).1 | exact (mMark_rg hz h0 h1).2⟩ (fun c_41 => ?_) (fun c_41 => ?_)
    · refine lv_iload_n hx hb dX4_told_57 rfl (lv_at hl 0 rfl) ?_
      refine lv_bipush (v := iI (-6)) hx hb dX4_told_58 (by decide) ?_
      refine z_icmp_eq (tgt := 72) hx hb dX4_told_60 (by decide) ⟨by first | omega | exact (hz _ _ (by omega)).1 | exact (hz _ _ (by omega)).2 | exact (mMark_rg hz h0 h1).1 | exact (mMark_rg hz h0 h1).2, by first | omega | exact (hz _ _ (by omega)).1 | exact (hz _ _ (by omega)).2 | exact (mMark_rg hz h0 h1).1 | exact (mMark_rg hz h0 h1).2⟩ ⟨by first | omega | exact (hz _ _ (by omega)).1 | exact (hz _ _ (by omega)).2 | exact (mMark_rg hz h0 h1).1 | exact (mMark_rg hz h0 h1).2, by first | omega | exact (hz _ _ (by omega)).1 | exact (hz _ _ (by omega)).2 | exact (mMark_rg hz h0 h1).1 | exact (mMark_rg hz h0 h1).2⟩ (fun c_60 => ?_) (fun c_60 => absurd c_60 (by omega))
      refine lv_bipush (v := iI (-6)) hx hb dX4_told_72 (by decide) ?_
      refine lv_goto (tgt := 78) hx hb dX4_told_74 (by decide) ?_
      exact z_iret hx hb hr hlocks hK hS () (by unfold mTold; (first | rw [told_a c_7 c_16] | rw [told_b c_7 c_16] | rw [told_c c_7 (by omega)] | rw [told_d c_7 (by omega)]); (first | exact (noHole_a rfl).symm | exact (noHole_a (by omega)).symm | exact (noHole_b (by assumption)).symm | exact (noHole_c (by omega) (by assumption)).symm)) hP hD dX4_told_78
    · refine lv_iload_n hx hb dX4_told_44 rfl (lv_at hl 3 rfl) ?_
      refine z_ineg hx hb dX4_told_45 ?_
      refine lv_aload_n hx hb dX4_told_46 rfl (lv_at hl 1 rfl) ?_
      refine lv_iload_n hx hb dX4_told_47 rfl (lv_at hl 2 rfl) ?_
      refine z_callV0 (ci := 4) (qk := 0) (As := [.int (iI g)]) (rest := [.int (iI (-n))]) hx hb hml hown hts hK hA hl.1 hP hD hS (c_X4_many l E q z pa sl sv sp pd od pm ty om st wr g  (by first | omega | exact hz _ _ (by omega) | exact hz | exact ⟨by omega, by omega⟩ | exact mMark_rg hz h0 h1)) gX4_told_X4_many rfl ndX4_many ⟨Nat.le_of_ble_eq_true rfl, Nat.le_of_ble_eq_true rfl⟩ rfl rfl rfl rfl rfl (Nat.le_of_ble_eq_true rfl) dX4_told_48 ⟨Nat.le_of_ble_eq_true rfl, Nat.le_of_ble_eq_true rfl⟩ (fun x u H locs hpost hP hD hS => ?_)
      subst hpost
      have hP : va_P E.1 vwCl (wM E q z pa sl sv sp pd od pm ty om st wr) H := hP
      have hD : va_D A (wM E q z pa sl sv sp pd od pm ty om st wr) := hD
      refine z_icmp_ge (tgt := 57) hx hb dX4_told_51 (by decide) ⟨by first | omega | exact (hz _ _ (by omega)).1 | exact (hz _ _ (by omega)).2 | exact (mMark_rg hz h0 h1).1 | exact (mMark_rg hz h0 h1).2, by first | omega | exact (hz _ _ (by omega)).1 | exact (hz _ _ (by omega)).2 | exact (mMark_rg hz h0 h1).1 | exact (mMark_rg hz h0 h1).2⟩ ⟨by first | omega | exact (hz _ _ (by omega)).1 | exact (hz _ _ (by omega)).2 | exact (mMark_rg hz h0 h1).1 | exact (mMark_rg hz h0 h1).2, by first | omega | exact (hz _ _ (by omega)).1 | exact (hz _ _ (by omega)).2 | exact (mMark_rg hz h0 h1).1 | exact (mMark_rg hz h0 h1).2⟩ (fun c_51 => ?_) (fun c_51 => ?_)
      · refine lv_iload_n hx hb dX4_told_57 rfl (lv_at hl 0 rfl) ?_
        refine lv_bipush (v := iI (-6)) hx hb dX4_told_58 (by decide) ?_
        refine z_icmp_eq (tgt := 72) hx hb dX4_told_60 (by decide) ⟨by first | omega | exact (hz _ _ (by omega)).1 | exact (hz _ _ (by omega)).2 | exact (mMark_rg hz h0 h1).1 | exact (mMark_rg hz h0 h1).2, by first | omega | exact (hz _ _ (by omega)).1 | exact (hz _ _ (by omega)).2 | exact (mMark_rg hz h0 h1).1 | exact (mMark_rg hz h0 h1).2⟩ ⟨by first | omega | exact (hz _ _ (by omega)).1 | exact (hz _ _ (by omega)).2 | exact (mMark_rg hz h0 h1).1 | exact (mMark_rg hz h0 h1).2, by first | omega | exact (hz _ _ (by omega)).1 | exact (hz _ _ (by omega)).2 | exact (mMark_rg hz h0 h1).1 | exact (mMark_rg hz h0 h1).2⟩ (fun c_60 => ?_) (fun c_60 => absurd c_60 (by omega))
        refine lv_bipush (v := iI (-6)) hx hb dX4_told_72 (by decide) ?_
        refine lv_goto (tgt := 78) hx hb dX4_told_74 (by decide) ?_
        exact z_iret hx hb hr hlocks hK hS () (by unfold mTold; (first | rw [told_a c_7 c_16] | rw [told_b c_7 c_16] | rw [told_c c_7 (by omega)] | rw [told_d c_7 (by omega)]); (first | exact (noHole_a rfl).symm | exact (noHole_a (by omega)).symm | exact (noHole_b (by assumption)).symm | exact (noHole_c (by omega) (by assumption)).symm)) hP hD dX4_told_78
      · refine lv_iload_n hx hb dX4_told_54 rfl (lv_at hl 3 rfl) ?_
        refine z_ineg hx hb dX4_told_55 ?_
        refine lv_istore_n (lv' := [(3, .int (iI (-n))), (0, .ref (q 0)), (1, .int (iI g)), (2, .int (iI n))]) hx hb dX4_told_56 rfl hl (by decide) rfl (fun ls hl => ?_)
        refine lv_iload_n hx hb dX4_told_57 rfl (lv_at hl 0 rfl) ?_
        refine lv_bipush (v := iI (-6)) hx hb dX4_told_58 (by decide) ?_
        refine z_icmp_eq (tgt := 72) hx hb dX4_told_60 (by decide) ⟨by first | omega | exact (hz _ _ (by omega)).1 | exact (hz _ _ (by omega)).2 | exact (mMark_rg hz h0 h1).1 | exact (mMark_rg hz h0 h1).2, by first | omega | exact (hz _ _ (by omega)).1 | exact (hz _ _ (by omega)).2 | exact (mMark_rg hz h0 h1).1 | exact (mMark_rg hz h0 h1).2⟩ ⟨by first | omega | exact (hz _ _ (by omega)).1 | exact (hz _ _ (by omega)).2 | exact (mMark_rg hz h0 h1).1 | exact (mMark_rg hz h0 h1).2, by first | omega | exact (hz _ _ (by omega)).1 | exact (hz _ _ (by omega)).2 | exact (mMark_rg hz h0 h1).1 | exact (mMark_rg hz h0 h1).2⟩ (fun c_60 => ?_) (fun c_60 => ?_)
        · refine lv_bipush (v := iI (-6)) hx hb dX4_told_72 (by decide) ?_
          refine lv_goto (tgt := 78) hx hb dX4_told_74 (by decide) ?_
          exact z_iret hx hb hr hlocks hK hS () (by unfold mTold; (first | rw [told_a c_7 c_16] | rw [told_b c_7 c_16] | rw [told_c c_7 (by omega)] | rw [told_d c_7 (by omega)]); (first | exact (noHole_a rfl).symm | exact (noHole_a (by omega)).symm | exact (noHole_b (by assumption)).symm | exact (noHole_c (by omega) (by assumption)).symm)) hP hD dX4_told_78
        · refine lv_aload_n hx hb dX4_told_63 rfl (lv_at hl 1 rfl) ?_
          refine lv_iload_n hx hb dX4_told_64 rfl (lv_at hl 2 rfl) ?_
          refine lv_iload_n hx hb dX4_told_65 rfl (lv_at hl 0 rfl) ?_
          refine z_callV0 (ci := 4) (qk := 0) (As := [.int (iI g), .int (iI (-n))]) (rest := []) hx hb hml hown hts hK hA hl.1 hP hD hS (c_X4_isHole l E q z pa sl sv sp pd od pm ty om st wr g (-n)  (by first | omega | exact hz _ _ (by omega) | exact hz | exact ⟨by omega, by omega⟩ | exact mMark_rg hz h0 h1) (by first | omega | exact hz _ _ (by omega) | exact hz | exact ⟨by omega, by omega⟩ | exact mMark_rg hz h0 h1) (by first | omega | exact hz _ _ (by omega) | exact hz | exact ⟨by omega, by omega⟩ | exact mMark_rg hz h0 h1)) gX4_told_X4_isHole rfl ndX4_isHole ⟨Nat.le_of_ble_eq_true rfl, Nat.le_of_ble_eq_true rfl⟩ rfl rfl rfl rfl rfl (Nat.le_of_ble_eq_true rfl) dX4_told_66 ⟨Nat.le_of_ble_eq_true rfl, Nat.le_of_ble_eq_true rfl⟩ (fun x u H locs hpost hP hD hS => ?_)
          subst hpost
          have hP : va_P E.1 vwCl (wM E q z pa sl sv sp pd od pm ty om st wr) H := hP
          have hD : va_D A (wM E q z pa sl sv sp pd od pm ty om st wr) := hD
          refine z_ifb_eq (tgt := 77) hx hb dX4_told_69 (by decide) (fun c_69 => ?_) (fun c_69 => ?_)
          · refine lv_iload_n hx hb dX4_told_77 rfl (lv_at hl 0 rfl) ?_
            exact z_iret hx hb hr hlocks hK hS () (by unfold mTold; (first | rw [told_a c_7 c_16] | rw [told_b c_7 c_16] | rw [told_c c_7 (by omega)] | rw [told_d c_7 (by omega)]); (first | exact (noHole_a rfl).symm | exact (noHole_a (by omega)).symm | exact (noHole_b (by assumption)).symm | exact (noHole_c (by omega) (by assumption)).symm)) hP hD dX4_told_78
          · refine lv_bipush (v := iI (-6)) hx hb dX4_told_72 (by decide) ?_
            refine lv_goto (tgt := 78) hx hb dX4_told_74 (by decide) ?_
            exact z_iret hx hb hr hlocks hK hS () (by unfold mTold; (first | rw [told_a c_7 c_16] | rw [told_b c_7 c_16] | rw [told_c c_7 (by omega)] | rw [told_d c_7 (by omega)]); (first | exact (noHole_a rfl).symm | exact (noHole_a (by omega)).symm | exact (noHole_b (by assumption)).symm | exact (noHole_c (by omega) (by assumption)).symm)) hP hD dX4_told_78
  · refine lv_aload_n hx hb dX4_told_10 rfl (lv_at hl 1 rfl) ?_
    refine lv_iload_n hx hb dX4_told_11 rfl (lv_at hl 2 rfl) ?_
    refine lv_iload_n hx hb dX4_told_12 rfl (lv_at hl 3 rfl) ?_
    refine z_callV0 (ci := 4) (qk := 0) (As := [.int (iI g), .int (iI n)]) (rest := []) hx hb hml hown hts hK hA hl.1 hP hD hS (c_X4_markOf l E q z pa sl sv sp pd od pm ty om st wr g n  (by first | omega | exact hz _ _ (by omega) | exact hz | exact ⟨by omega, by omega⟩ | exact mMark_rg hz h0 h1) (by first | omega | exact hz _ _ (by omega) | exact hz | exact ⟨by omega, by omega⟩ | exact mMark_rg hz h0 h1)) gX4_told_X4_markOf rfl ndX4_markOf ⟨Nat.le_of_ble_eq_true rfl, Nat.le_of_ble_eq_true rfl⟩ rfl rfl rfl rfl rfl (Nat.le_of_ble_eq_true rfl) dX4_told_13 ⟨Nat.le_of_ble_eq_true rfl, Nat.le_of_ble_eq_true rfl⟩ (fun x u H locs hpost hP hD hS => ?_)
    subst hpost
    have hP : va_P E.1 vwCl (wM E q z pa sl sv sp pd od pm ty om st wr) H := hP
    have hD : va_D A (wM E q z pa sl sv sp pd od pm ty om st wr) := hD
    refine z_if_ne (tgt := 24) hx hb dX4_told_16 (by decide) ⟨by first | omega | exact (hz _ _ (by omega)).1 | exact (hz _ _ (by omega)).2 | exact (mMark_rg hz h0 h1).1 | exact (mMark_rg hz h0 h1).2, by first | omega | exact (hz _ _ (by omega)).1 | exact (hz _ _ (by omega)).2 | exact (mMark_rg hz h0 h1).1 | exact (mMark_rg hz h0 h1).2⟩ (fun c_16 => ?_) (fun c_16 => ?_)
    · refine lv_aload_n hx hb dX4_told_24 rfl (lv_at hl 1 rfl) ?_
      refine lv_iload_n hx hb dX4_told_25 rfl (lv_at hl 2 rfl) ?_
      refine lv_aload_n hx hb dX4_told_26 rfl (lv_at hl 1 rfl) ?_
      refine lv_iload_n hx hb dX4_told_27 rfl (lv_at hl 2 rfl) ?_
      refine lv_iload_n hx hb dX4_told_28 rfl (lv_at hl 3 rfl) ?_
      refine z_callV0 (ci := 4) (qk := 0) (As := [.int (iI g), .int (iI n)]) (rest := [.int (iI g), .ref (q 0)]) hx hb hml hown hts hK hA hl.1 hP hD hS (c_X4_markOf l E q z pa sl sv sp pd od pm ty om st wr g n  (by first | omega | exact hz _ _ (by omega) | exact hz | exact ⟨by omega, by omega⟩ | exact mMark_rg hz h0 h1) (by first | omega | exact hz _ _ (by omega) | exact hz | exact ⟨by omega, by omega⟩ | exact mMark_rg hz h0 h1)) gX4_told_X4_markOf rfl ndX4_markOf ⟨Nat.le_of_ble_eq_true rfl, Nat.le_of_ble_eq_true rfl⟩ rfl rfl rfl rfl rfl (Nat.le_of_ble_eq_true rfl) dX4_told_29 ⟨Nat.le_of_ble_eq_true rfl, Nat.le_of_ble_eq_true rfl⟩ (fun x u H locs hpost hP hD hS => ?_)
      subst hpost
      have hP : va_P E.1 vwCl (wM E q z pa sl sv sp pd od pm ty om st wr) H := hP
      have hD : va_D A (wM E q z pa sl sv sp pd od pm ty om st wr) := hD
      refine z_callV0 (ci := 4) (qk := 0) (As := [.int (iI g), .int (iI (mMark z g n))]) (rest := []) hx hb hml hown hts hK hA hl.1 hP hD hS (c_X4_placeOf l E q z pa sl sv sp pd od pm ty om st wr g (mMark z g n)  (by first | omega | exact hz _ _ (by omega) | exact hz | exact ⟨by omega, by omega⟩ | exact mMark_rg hz h0 h1) (by first | omega | exact hz _ _ (by omega) | exact hz | exact ⟨by omega, by omega⟩ | exact mMark_rg hz h0 h1) (by first | omega | exact hz _ _ (by omega) | exact hz | exact ⟨by omega, by omega⟩ | exact mMark_rg hz h0 h1) (by first | omega | exact hz _ _ (by omega) | exact hz | exact ⟨by omega, by omega⟩ | exact mMark_rg hz h0 h1)) gX4_told_X4_placeOf rfl ndX4_placeOf ⟨Nat.le_of_ble_eq_true rfl, Nat.le_of_ble_eq_true rfl⟩ rfl rfl rfl rfl rfl (Nat.le_of_ble_eq_true rfl) dX4_told_32 ⟨Nat.le_of_ble_eq_true rfl, Nat.le_of_ble_eq_true rfl⟩ (fun x u H locs hpost hP hD hS => ?_)
      subst hpost
      have hP : va_P E.1 vwCl (wM E q z pa sl sv sp pd od pm ty om st wr) H := hP
      have hD : va_D A (wM E q z pa sl sv sp pd od pm ty om st wr) := hD
      refine lv_istore_n (lv' := [(3, .int (iI (mPlace z g (mMark z g n)))), (0, .ref (q 0)), (1, .int (iI g)), (2, .int (iI n))]) hx hb dX4_told_35 rfl hl (by decide) rfl (fun ls hl => ?_)
      refine lv_goto (tgt := 57) hx hb dX4_told_36 (by decide) ?_
      refine lv_iload_n hx hb dX4_told_57 rfl (lv_at hl 0 rfl) ?_
      refine lv_bipush (v := iI (-6)) hx hb dX4_told_58 (by decide) ?_
      refine z_icmp_eq (tgt := 72) hx hb dX4_told_60 (by decide) ⟨by first | omega | exact (hz _ _ (by omega)).1 | exact (hz _ _ (by omega)).2 | exact (mMark_rg hz h0 h1).1 | exact (mMark_rg hz h0 h1).2, by first | omega | exact (hz _ _ (by omega)).1 | exact (hz _ _ (by omega)).2 | exact (mMark_rg hz h0 h1).1 | exact (mMark_rg hz h0 h1).2⟩ ⟨by first | omega | exact (hz _ _ (by omega)).1 | exact (hz _ _ (by omega)).2 | exact (mMark_rg hz h0 h1).1 | exact (mMark_rg hz h0 h1).2, by first | omega | exact (hz _ _ (by omega)).1 | exact (hz _ _ (by omega)).2 | exact (mMark_rg hz h0 h1).1 | exact (mMark_rg hz h0 h1).2⟩ (fun c_60 => ?_) (fun c_60 => ?_)
      · refine lv_bipush (v := iI (-6)) hx hb dX4_told_72 (by decide) ?_
        refine lv_goto (tgt := 78) hx hb dX4_told_74 (by decide) ?_
        exact z_iret hx hb hr hlocks hK hS () (by unfold mTold; (first | rw [told_a c_7 c_16] | rw [told_b c_7 c_16] | rw [told_c c_7 (by omega)] | rw [told_d c_7 (by omega)]); (first | exact (noHole_a rfl).symm | exact (noHole_a (by omega)).symm | exact (noHole_b (by assumption)).symm | exact (noHole_c (by omega) (by assumption)).symm)) hP hD dX4_told_78
      · refine lv_aload_n hx hb dX4_told_63 rfl (lv_at hl 1 rfl) ?_
        refine lv_iload_n hx hb dX4_told_64 rfl (lv_at hl 2 rfl) ?_
        refine lv_iload_n hx hb dX4_told_65 rfl (lv_at hl 0 rfl) ?_
        refine z_callV0 (ci := 4) (qk := 0) (As := [.int (iI g), .int (iI (mPlace z g (mMark z g n)))]) (rest := []) hx hb hml hown hts hK hA hl.1 hP hD hS (c_X4_isHole l E q z pa sl sv sp pd od pm ty om st wr g (mPlace z g (mMark z g n))  (by first | omega | exact hz _ _ (by omega) | exact hz | exact ⟨by omega, by omega⟩ | exact mMark_rg hz h0 h1) (by first | omega | exact hz _ _ (by omega) | exact hz | exact ⟨by omega, by omega⟩ | exact mMark_rg hz h0 h1) (by first | omega | exact hz _ _ (by omega) | exact hz | exact ⟨by omega, by omega⟩ | exact mMark_rg hz h0 h1)) gX4_told_X4_isHole rfl ndX4_isHole ⟨Nat.le_of_ble_eq_true rfl, Nat.le_of_ble_eq_true rfl⟩ rfl rfl rfl rfl rfl (Nat.le_of_ble_eq_true rfl) dX4_told_66 ⟨Nat.le_of_ble_eq_true rfl, Nat.le_of_ble_eq_true rfl⟩ (fun x u H locs hpost hP hD hS => ?_)
        subst hpost
        have hP : va_P E.1 vwCl (wM E q z pa sl sv sp pd od pm ty om st wr) H := hP
        have hD : va_D A (wM E q z pa sl sv sp pd od pm ty om st wr) := hD
        refine z_ifb_eq (tgt := 77) hx hb dX4_told_69 (by decide) (fun c_69 => ?_) (fun c_69 => ?_)
        · refine lv_iload_n hx hb dX4_told_77 rfl (lv_at hl 0 rfl) ?_
          exact z_iret hx hb hr hlocks hK hS () (by unfold mTold; (first | rw [told_a c_7 c_16] | rw [told_b c_7 c_16] | rw [told_c c_7 (by omega)] | rw [told_d c_7 (by omega)]); (first | exact (noHole_a rfl).symm | exact (noHole_a (by omega)).symm | exact (noHole_b (by assumption)).symm | exact (noHole_c (by omega) (by assumption)).symm)) hP hD dX4_told_78
        · refine lv_bipush (v := iI (-6)) hx hb dX4_told_72 (by decide) ?_
          refine lv_goto (tgt := 78) hx hb dX4_told_74 (by decide) ?_
          exact z_iret hx hb hr hlocks hK hS () (by unfold mTold; (first | rw [told_a c_7 c_16] | rw [told_b c_7 c_16] | rw [told_c c_7 (by omega)] | rw [told_d c_7 (by omega)]); (first | exact (noHole_a rfl).symm | exact (noHole_a (by omega)).symm | exact (noHole_b (by assumption)).symm | exact (noHole_c (by omega) (by assumption)).symm)) hP hD dX4_told_78
    · refine lv_bipush (v := iI (-6)) hx hb dX4_told_19 (by decide) ?_
      refine lv_goto (tgt := 35) hx hb dX4_told_21 (by decide) ?_
      refine lv_istore_n (lv' := [(3, .int (iI (-6))), (0, .ref (q 0)), (1, .int (iI g)), (2, .int (iI n))]) hx hb dX4_told_35 rfl hl (by decide) rfl (fun ls hl => ?_)
      refine lv_goto (tgt := 57) hx hb dX4_told_36 (by decide) ?_
      refine lv_iload_n hx hb dX4_told_57 rfl (lv_at hl 0 rfl) ?_
      refine lv_bipush (v := iI (-6)) hx hb dX4_told_58 (by decide) ?_
      refine z_icmp_eq (tgt := 72) hx hb dX4_told_60 (by decide) ⟨by first | omega | exact (hz _ _ (by omega)).1 | exact (hz _ _ (by omega)).2 | exact (mMark_rg hz h0 h1).1 | exact (mMark_rg hz h0 h1).2, by first | omega | exact (hz _ _ (by omega)).1 | exact (hz _ _ (by omega)).2 | exact (mMark_rg hz h0 h1).1 | exact (mMark_rg hz h0 h1).2⟩ ⟨by first | omega | exact (hz _ _ (by omega)).1 | exact (hz _ _ (by omega)).2 | exact (mMark_rg hz h0 h1).1 | exact (mMark_rg hz h0 h1).2, by first | omega | exact (hz _ _ (by omega)).1 | exact (hz _ _ (by omega)).2 | exact (mMark_rg hz h0 h1).1 | exact (mMark_rg hz h0 h1).2⟩ (fun c_60 => ?_) (fun c_60 => absurd c_60 (by omega))
      refine lv_bipush (v := iI (-6)) hx hb dX4_told_72 (by decide) ?_
      refine lv_goto (tgt := 78) hx hb dX4_told_74 (by decide) ?_
      exact z_iret hx hb hr hlocks hK hS () (by unfold mTold; (first | rw [told_a c_7 c_16] | rw [told_b c_7 c_16] | rw [told_c c_7 (by omega)] | rw [told_d c_7 (by omega)]); (first | exact (noHole_a rfl).symm | exact (noHole_a (by omega)).symm | exact (noHole_b (by assumption)).symm | exact (noHole_c (by omega) (by assumption)).symm)) hP hD dX4_told_78

theorem ndX4_madePlace : yX4_madePlace.cls = RX4 ∧ yX4_madePlace.cls ≠ "java/lang/invoke/MethodHandle" ∧ yX4_madePlace.cls ≠ "java/lang/invoke/VarHandle" ∧ (parseMethodDescriptor yX4_madePlace.desc).map (fun d => d.parameters.length) = some 1 := by decide +kernel
set_option maxRecDepth 100000 in
set_option maxHeartbeats 4000000 in
theorem c_X4_madePlace (l : Launch) (E : zE) (q : Nat → Nat) (z pa sl sv sp pd od : Int → Int) (pm ty om st wr : Int) (g : Int) (h0 : 0 ≤ g ∧ g ≤ 5) (h1 : 0 ≤ zg z g 1 ∧ zg z g 1 ≤ 8) (h2 : CZ z) (h3 : rg (z 1)) : zF l E yX4_madePlace wsX4_madePlace 3 69 [.ref (q 0), .int (iI g)] (wM E q z pa sl sv sp pd od pm ty om st wr) (mMade z g) (wM E q z pa sl sv sp pd od pm ty om st wr) := by
  have hz := h2
  have hp := mPlace_rg (z := z) (g := g) (m := zg z g 5) h1.1
  refine zC_of (cc := cX4_madePlace) (maxL := 3) (by decide) rfl (Nat.le_of_ble_eq_true rfl) ?_
  intro p e s m below meth c ls A hx hb hr hts hown hlocks hml hK hA hS hP hD hl
  have hown : s.vm.findClass RX4 = some m.cls := hown
  have hl : lv_has ls 3 [(0, .ref (q 0)), (1, .int (iI g))] := hl
  refine lv_aload_n hx hb dX4_madePlace_0 rfl (lv_at hl 0 rfl) ?_
  refine lv_iload_n hx hb dX4_madePlace_1 rfl (lv_at hl 1 rfl) ?_
  refine lv_iconst (v := iI 5) hx hb dX4_madePlace_2 (by decide) ?_
  refine z_callV0 (ci := 4) (qk := 0) (As := [.int (iI g), .int (iI 5)]) (rest := []) hx hb hml hown hts hK hA hl.1 hP hD hS (c_X4_of l E q z pa sl sv sp pd od pm ty om st wr g 5  (by first | omega | exact hz _ _ (by omega) | exact hz | exact ⟨by omega, by omega⟩) (by first | omega | exact hz _ _ (by omega) | exact hz | exact ⟨by omega, by omega⟩)) gX4_madePlace_X4_of rfl ndX4_of ⟨Nat.le_of_ble_eq_true rfl, Nat.le_of_ble_eq_true rfl⟩ rfl rfl rfl rfl rfl (Nat.le_of_ble_eq_true rfl) dX4_madePlace_3 ⟨Nat.le_of_ble_eq_true rfl, Nat.le_of_ble_eq_true rfl⟩ (fun x u H locs hpost hP hD hS => ?_)
  subst hpost
  have hP : va_P E.1 vwCl (wM E q z pa sl sv sp pd od pm ty om st wr) H := hP
  have hD : va_D A (wM E q z pa sl sv sp pd od pm ty om st wr) := hD
  refine z_if_eq (tgt := 16) hx hb dX4_madePlace_6 (by decide) ⟨by first | omega | exact (hz _ _ (by omega)).1 | exact (hz _ _ (by omega)).2, by first | omega | exact (hz _ _ (by omega)).1 | exact (hz _ _ (by omega)).2⟩ (fun c_6 => ?_) (fun c_6 => ?_)
  · refine lv_bipush (v := iI (-6)) hx hb dX4_madePlace_16 (by decide) ?_
    refine lv_goto (tgt := 32) hx hb dX4_madePlace_18 (by decide) ?_
    refine lv_istore_n (lv' := [(2, .int (iI (-6))), (0, .ref (q 0)), (1, .int (iI g))]) hx hb dX4_madePlace_32 rfl hl (by decide) rfl (fun ls hl => ?_)
    refine lv_iload_n hx hb dX4_madePlace_33 rfl (lv_at hl 0 rfl) ?_
    refine lv_bipush (v := iI (-6)) hx hb dX4_madePlace_34 (by decide) ?_
    refine z_icmp_eq (tgt := 48) hx hb dX4_madePlace_36 (by decide) ⟨by first | omega | exact (hz _ _ (by omega)).1 | exact (hz _ _ (by omega)).2, by first | omega | exact (hz _ _ (by omega)).1 | exact (hz _ _ (by omega)).2⟩ ⟨by first | omega | exact (hz _ _ (by omega)).1 | exact (hz _ _ (by omega)).2, by first | omega | exact (hz _ _ (by omega)).1 | exact (hz _ _ (by omega)).2⟩ (fun c_36 => ?_) (fun c_36 => absurd c_36 (by omega))
    refine lv_bipush (v := iI (-6)) hx hb dX4_madePlace_48 (by decide) ?_
    refine lv_goto (tgt := 54) hx hb dX4_madePlace_50 (by decide) ?_
    exact z_iret hx hb hr hlocks hK hS () (by unfold mMade; (first | rw [made_a c_6] | rw [made_b c_13] | rw [made_c c_6 c_13]); (first | exact (noHole_a rfl).symm | exact (noHole_a (by omega)).symm | exact (noHole_b (by assumption)).symm | exact (noHole_c (by omega) (by assumption)).symm)) hP hD dX4_madePlace_54
  · refine lv_aload_n hx hb dX4_madePlace_9 rfl (lv_at hl 0 rfl) ?_
    refine z_callV0 (ci := 4) (qk := 0) (As := []) (rest := []) hx hb hml hown hts hK hA hl.1 hP hD hS (c_X4_runs l E q z pa sl sv sp pd od pm ty om st wr   (by first | omega | exact hz _ _ (by omega) | exact hz | exact ⟨by omega, by omega⟩)) gX4_madePlace_X4_runs rfl ndX4_runs ⟨Nat.le_of_ble_eq_true rfl, Nat.le_of_ble_eq_true rfl⟩ rfl rfl rfl rfl rfl (Nat.le_of_ble_eq_true rfl) dX4_madePlace_10 ⟨Nat.le_of_ble_eq_true rfl, Nat.le_of_ble_eq_true rfl⟩ (fun x u H locs hpost hP hD hS => ?_)
    subst hpost
    have hP : va_P E.1 vwCl (wM E q z pa sl sv sp pd od pm ty om st wr) H := hP
    have hD : va_D A (wM E q z pa sl sv sp pd od pm ty om st wr) := hD
    refine z_ifb_ne (tgt := 21) hx hb dX4_madePlace_13 (by decide) (fun c_13 => ?_) (fun c_13 => ?_)
    · refine lv_aload_n hx hb dX4_madePlace_21 rfl (lv_at hl 0 rfl) ?_
      refine lv_iload_n hx hb dX4_madePlace_22 rfl (lv_at hl 1 rfl) ?_
      refine lv_aload_n hx hb dX4_madePlace_23 rfl (lv_at hl 0 rfl) ?_
      refine lv_iload_n hx hb dX4_madePlace_24 rfl (lv_at hl 1 rfl) ?_
      refine lv_iconst (v := iI 5) hx hb dX4_madePlace_25 (by decide) ?_
      refine z_callV0 (ci := 4) (qk := 0) (As := [.int (iI g), .int (iI 5)]) (rest := [.int (iI g), .ref (q 0)]) hx hb hml hown hts hK hA hl.1 hP hD hS (c_X4_of l E q z pa sl sv sp pd od pm ty om st wr g 5  (by first | omega | exact hz _ _ (by omega) | exact hz | exact ⟨by omega, by omega⟩) (by first | omega | exact hz _ _ (by omega) | exact hz | exact ⟨by omega, by omega⟩)) gX4_madePlace_X4_of rfl ndX4_of ⟨Nat.le_of_ble_eq_true rfl, Nat.le_of_ble_eq_true rfl⟩ rfl rfl rfl rfl rfl (Nat.le_of_ble_eq_true rfl) dX4_madePlace_26 ⟨Nat.le_of_ble_eq_true rfl, Nat.le_of_ble_eq_true rfl⟩ (fun x u H locs hpost hP hD hS => ?_)
      subst hpost
      have hP : va_P E.1 vwCl (wM E q z pa sl sv sp pd od pm ty om st wr) H := hP
      have hD : va_D A (wM E q z pa sl sv sp pd od pm ty om st wr) := hD
      refine z_callV0 (ci := 4) (qk := 0) (As := [.int (iI g), .int (iI (zg z g 5))]) (rest := []) hx hb hml hown hts hK hA hl.1 hP hD hS (c_X4_placeOf l E q z pa sl sv sp pd od pm ty om st wr g (zg z g 5)  (by first | omega | exact hz _ _ (by omega) | exact hz | exact ⟨by omega, by omega⟩) (by first | omega | exact hz _ _ (by omega) | exact hz | exact ⟨by omega, by omega⟩) (by first | omega | exact hz _ _ (by omega) | exact hz | exact ⟨by omega, by omega⟩) (by first | omega | exact hz _ _ (by omega) | exact hz | exact ⟨by omega, by omega⟩)) gX4_madePlace_X4_placeOf rfl ndX4_placeOf ⟨Nat.le_of_ble_eq_true rfl, Nat.le_of_ble_eq_true rfl⟩ rfl rfl rfl rfl rfl (Nat.le_of_ble_eq_true rfl) dX4_madePlace_29 ⟨Nat.le_of_ble_eq_true rfl, Nat.le_of_ble_eq_true rfl⟩ (fun x u H locs hpost hP hD hS => ?_)
      subst hpost
      have hP : va_P E.1 vwCl (wM E q z pa sl sv sp pd od pm ty om st wr) H := hP
      have hD : va_D A (wM E q z pa sl sv sp pd od pm ty om st wr) := hD
      refine lv_istore_n (lv' := [(2, .int (iI (mPlace z g (zg z g 5)))), (0, .ref (q 0)), (1, .int (iI g))]) hx hb dX4_madePlace_32 rfl hl (by decide) rfl (fun ls hl => ?_)
      refine lv_iload_n hx hb dX4_madePlace_33 rfl (lv_at hl 0 rfl) ?_
      refine lv_bipush (v := iI (-6)) hx hb dX4_madePlace_34 (by decide) ?_
      refine z_icmp_eq (tgt := 48) hx hb dX4_madePlace_36 (by decide) ⟨by first | omega | exact (hz _ _ (by omega)).1 | exact (hz _ _ (by omega)).2, by first | omega | exact (hz _ _ (by omega)).1 | exact (hz _ _ (by omega)).2⟩ ⟨by first | omega | exact (hz _ _ (by omega)).1 | exact (hz _ _ (by omega)).2, by first | omega | exact (hz _ _ (by omega)).1 | exact (hz _ _ (by omega)).2⟩ (fun c_36 => ?_) (fun c_36 => ?_)
      · refine lv_bipush (v := iI (-6)) hx hb dX4_madePlace_48 (by decide) ?_
        refine lv_goto (tgt := 54) hx hb dX4_madePlace_50 (by decide) ?_
        exact z_iret hx hb hr hlocks hK hS () (by unfold mMade; (first | rw [made_a c_6] | rw [made_b c_13] | rw [made_c c_6 c_13]); (first | exact (noHole_a rfl).symm | exact (noHole_a (by omega)).symm | exact (noHole_b (by assumption)).symm | exact (noHole_c (by omega) (by assumption)).symm)) hP hD dX4_madePlace_54
      · refine lv_aload_n hx hb dX4_madePlace_39 rfl (lv_at hl 1 rfl) ?_
        refine lv_iload_n hx hb dX4_madePlace_40 rfl (lv_at hl 2 rfl) ?_
        refine lv_iload_n hx hb dX4_madePlace_41 rfl (lv_at hl 0 rfl) ?_
        refine z_callV0 (ci := 4) (qk := 0) (As := [.int (iI g), .int (iI (mPlace z g (zg z g 5)))]) (rest := []) hx hb hml hown hts hK hA hl.1 hP hD hS (c_X4_isHole l E q z pa sl sv sp pd od pm ty om st wr g (mPlace z g (zg z g 5))  (by first | omega | exact hz _ _ (by omega) | exact hz | exact ⟨by omega, by omega⟩) (by first | omega | exact hz _ _ (by omega) | exact hz | exact ⟨by omega, by omega⟩) (by first | omega | exact hz _ _ (by omega) | exact hz | exact ⟨by omega, by omega⟩)) gX4_madePlace_X4_isHole rfl ndX4_isHole ⟨Nat.le_of_ble_eq_true rfl, Nat.le_of_ble_eq_true rfl⟩ rfl rfl rfl rfl rfl (Nat.le_of_ble_eq_true rfl) dX4_madePlace_42 ⟨Nat.le_of_ble_eq_true rfl, Nat.le_of_ble_eq_true rfl⟩ (fun x u H locs hpost hP hD hS => ?_)
        subst hpost
        have hP : va_P E.1 vwCl (wM E q z pa sl sv sp pd od pm ty om st wr) H := hP
        have hD : va_D A (wM E q z pa sl sv sp pd od pm ty om st wr) := hD
        refine z_ifb_eq (tgt := 53) hx hb dX4_madePlace_45 (by decide) (fun c_45 => ?_) (fun c_45 => ?_)
        · refine lv_iload_n hx hb dX4_madePlace_53 rfl (lv_at hl 0 rfl) ?_
          exact z_iret hx hb hr hlocks hK hS () (by unfold mMade; (first | rw [made_a c_6] | rw [made_b c_13] | rw [made_c c_6 c_13]); (first | exact (noHole_a rfl).symm | exact (noHole_a (by omega)).symm | exact (noHole_b (by assumption)).symm | exact (noHole_c (by omega) (by assumption)).symm)) hP hD dX4_madePlace_54
        · refine lv_bipush (v := iI (-6)) hx hb dX4_madePlace_48 (by decide) ?_
          refine lv_goto (tgt := 54) hx hb dX4_madePlace_50 (by decide) ?_
          exact z_iret hx hb hr hlocks hK hS () (by unfold mMade; (first | rw [made_a c_6] | rw [made_b c_13] | rw [made_c c_6 c_13]); (first | exact (noHole_a rfl).symm | exact (noHole_a (by omega)).symm | exact (noHole_b (by assumption)).symm | exact (noHole_c (by omega) (by assumption)).symm)) hP hD dX4_madePlace_54
    · refine lv_bipush (v := iI (-6)) hx hb dX4_madePlace_16 (by decide) ?_
      refine lv_goto (tgt := 32) hx hb dX4_madePlace_18 (by decide) ?_
      refine lv_istore_n (lv' := [(2, .int (iI (-6))), (0, .ref (q 0)), (1, .int (iI g))]) hx hb dX4_madePlace_32 rfl hl (by decide) rfl (fun ls hl => ?_)
      refine lv_iload_n hx hb dX4_madePlace_33 rfl (lv_at hl 0 rfl) ?_
      refine lv_bipush (v := iI (-6)) hx hb dX4_madePlace_34 (by decide) ?_
      refine z_icmp_eq (tgt := 48) hx hb dX4_madePlace_36 (by decide) ⟨by first | omega | exact (hz _ _ (by omega)).1 | exact (hz _ _ (by omega)).2, by first | omega | exact (hz _ _ (by omega)).1 | exact (hz _ _ (by omega)).2⟩ ⟨by first | omega | exact (hz _ _ (by omega)).1 | exact (hz _ _ (by omega)).2, by first | omega | exact (hz _ _ (by omega)).1 | exact (hz _ _ (by omega)).2⟩ (fun c_36 => ?_) (fun c_36 => absurd c_36 (by omega))
      refine lv_bipush (v := iI (-6)) hx hb dX4_madePlace_48 (by decide) ?_
      refine lv_goto (tgt := 54) hx hb dX4_madePlace_50 (by decide) ?_
      exact z_iret hx hb hr hlocks hK hS () (by unfold mMade; (first | rw [made_a c_6] | rw [made_b c_13] | rw [made_c c_6 c_13]); (first | exact (noHole_a rfl).symm | exact (noHole_a (by omega)).symm | exact (noHole_b (by assumption)).symm | exact (noHole_c (by omega) (by assumption)).symm)) hP hD dX4_madePlace_54

theorem ndX4_isNewestMade : yX4_isNewestMade.cls = RX4 ∧ yX4_isNewestMade.cls ≠ "java/lang/invoke/MethodHandle" ∧ yX4_isNewestMade.cls ≠ "java/lang/invoke/VarHandle" ∧ (parseMethodDescriptor yX4_isNewestMade.desc).map (fun d => d.parameters.length) = some 1 := by decide +kernel
set_option maxRecDepth 100000 in
set_option maxHeartbeats 4000000 in
theorem c_X4_isNewestMade (l : Launch) (E : zE) (q : Nat → Nat) (z pa sl sv sp pd od : Int → Int) (pm ty om st wr : Int) (g : Int) (h0 : 0 ≤ g ∧ g ≤ 5) (h1 : 0 ≤ zg z g 1 ∧ zg z g 1 ≤ 8) (h2 : CZ z) (h3 : rg (z 1)) : zF l E yX4_isNewestMade wsX4_isNewestMade 3 69 [.ref (q 0), .int (iI g)] (wM E q z pa sl sv sp pd od pm ty om st wr) (zb (z 1 = 1 ∧ ¬ zg z g 5 = 0 ∧ mPlace z g (zg z g 5) = 0)) (wM E q z pa sl sv sp pd od pm ty om st wr) := by
  have hz := h2
  have hp := mPlace_rg (z := z) (g := g) (m := zg z g 5) h1.1
  refine zC_of (cc := cX4_isNewestMade) (maxL := 2) (by decide) rfl (Nat.le_of_ble_eq_true rfl) ?_
  intro p e s m below meth c ls A hx hb hr hts hown hlocks hml hK hA hS hP hD hl
  have hown : s.vm.findClass RX4 = some m.cls := hown
  have hl : lv_has ls 2 [(0, .ref (q 0)), (1, .int (iI g))] := hl
  refine lv_aload_n hx hb dX4_isNewestMade_0 rfl (lv_at hl 0 rfl) ?_
  refine z_callV0 (ci := 4) (qk := 0) (As := []) (rest := []) hx hb hml hown hts hK hA hl.1 hP hD hS (c_X4_runs l E q z pa sl sv sp pd od pm ty om st wr   (by first | omega | exact hz _ _ (by omega) | exact hz | exact ⟨by omega, by omega⟩)) gX4_isNewestMade_X4_runs rfl ndX4_runs ⟨Nat.le_of_ble_eq_true rfl, Nat.le_of_ble_eq_true rfl⟩ rfl rfl rfl rfl rfl (Nat.le_of_ble_eq_true rfl) dX4_isNewestMade_1 ⟨Nat.le_of_ble_eq_true rfl, Nat.le_of_ble_eq_true rfl⟩ (fun x u H locs hpost hP hD hS => ?_)
  subst hpost
  have hP : va_P E.1 vwCl (wM E q z pa sl sv sp pd od pm ty om st wr) H := hP
  have hD : va_D A (wM E q z pa sl sv sp pd od pm ty om st wr) := hD
  refine z_ifb_eq (tgt := 34) hx hb dX4_isNewestMade_4 (by decide) (fun c_4 => ?_) (fun c_4 => ?_)
  · refine lv_iconst (v := iI 0) hx hb dX4_isNewestMade_34 (by decide) ?_
    exact z_zret hx hb hr hlocks hK hS (Or.inl rfl) () (by first | rfl | trivial | exact zb_t' (by omega) | exact zb_f' (by omega) | omega) hP hD dX4_isNewestMade_35
  · refine lv_aload_n hx hb dX4_isNewestMade_7 rfl (lv_at hl 0 rfl) ?_
    refine lv_iload_n hx hb dX4_isNewestMade_8 rfl (lv_at hl 1 rfl) ?_
    refine lv_iconst (v := iI 5) hx hb dX4_isNewestMade_9 (by decide) ?_
    refine z_callV0 (ci := 4) (qk := 0) (As := [.int (iI g), .int (iI 5)]) (rest := []) hx hb hml hown hts hK hA hl.1 hP hD hS (c_X4_of l E q z pa sl sv sp pd od pm ty om st wr g 5  (by first | omega | exact hz _ _ (by omega) | exact hz | exact ⟨by omega, by omega⟩) (by first | omega | exact hz _ _ (by omega) | exact hz | exact ⟨by omega, by omega⟩)) gX4_isNewestMade_X4_of rfl ndX4_of ⟨Nat.le_of_ble_eq_true rfl, Nat.le_of_ble_eq_true rfl⟩ rfl rfl rfl rfl rfl (Nat.le_of_ble_eq_true rfl) dX4_isNewestMade_10 ⟨Nat.le_of_ble_eq_true rfl, Nat.le_of_ble_eq_true rfl⟩ (fun x u H locs hpost hP hD hS => ?_)
    subst hpost
    have hP : va_P E.1 vwCl (wM E q z pa sl sv sp pd od pm ty om st wr) H := hP
    have hD : va_D A (wM E q z pa sl sv sp pd od pm ty om st wr) := hD
    refine z_if_eq (tgt := 34) hx hb dX4_isNewestMade_13 (by decide) ⟨by first | omega | exact (hz _ _ (by omega)).1 | exact (hz _ _ (by omega)).2, by first | omega | exact (hz _ _ (by omega)).1 | exact (hz _ _ (by omega)).2⟩ (fun c_13 => ?_) (fun c_13 => ?_)
    · refine lv_iconst (v := iI 0) hx hb dX4_isNewestMade_34 (by decide) ?_
      exact z_zret hx hb hr hlocks hK hS (Or.inl rfl) () (by first | rfl | trivial | exact zb_t' (by omega) | exact zb_f' (by omega) | omega) hP hD dX4_isNewestMade_35
    · refine lv_aload_n hx hb dX4_isNewestMade_16 rfl (lv_at hl 0 rfl) ?_
      refine lv_iload_n hx hb dX4_isNewestMade_17 rfl (lv_at hl 1 rfl) ?_
      refine lv_aload_n hx hb dX4_isNewestMade_18 rfl (lv_at hl 0 rfl) ?_
      refine lv_iload_n hx hb dX4_isNewestMade_19 rfl (lv_at hl 1 rfl) ?_
      refine lv_iconst (v := iI 5) hx hb dX4_isNewestMade_20 (by decide) ?_
      refine z_callV0 (ci := 4) (qk := 0) (As := [.int (iI g), .int (iI 5)]) (rest := [.int (iI g), .ref (q 0)]) hx hb hml hown hts hK hA hl.1 hP hD hS (c_X4_of l E q z pa sl sv sp pd od pm ty om st wr g 5  (by first | omega | exact hz _ _ (by omega) | exact hz | exact ⟨by omega, by omega⟩) (by first | omega | exact hz _ _ (by omega) | exact hz | exact ⟨by omega, by omega⟩)) gX4_isNewestMade_X4_of rfl ndX4_of ⟨Nat.le_of_ble_eq_true rfl, Nat.le_of_ble_eq_true rfl⟩ rfl rfl rfl rfl rfl (Nat.le_of_ble_eq_true rfl) dX4_isNewestMade_21 ⟨Nat.le_of_ble_eq_true rfl, Nat.le_of_ble_eq_true rfl⟩ (fun x u H locs hpost hP hD hS => ?_)
      subst hpost
      have hP : va_P E.1 vwCl (wM E q z pa sl sv sp pd od pm ty om st wr) H := hP
      have hD : va_D A (wM E q z pa sl sv sp pd od pm ty om st wr) := hD
      refine z_callV0 (ci := 4) (qk := 0) (As := [.int (iI g), .int (iI (zg z g 5))]) (rest := []) hx hb hml hown hts hK hA hl.1 hP hD hS (c_X4_placeOf l E q z pa sl sv sp pd od pm ty om st wr g (zg z g 5)  (by first | omega | exact hz _ _ (by omega) | exact hz | exact ⟨by omega, by omega⟩) (by first | omega | exact hz _ _ (by omega) | exact hz | exact ⟨by omega, by omega⟩) (by first | omega | exact hz _ _ (by omega) | exact hz | exact ⟨by omega, by omega⟩) (by first | omega | exact hz _ _ (by omega) | exact hz | exact ⟨by omega, by omega⟩)) gX4_isNewestMade_X4_placeOf rfl ndX4_placeOf ⟨Nat.le_of_ble_eq_true rfl, Nat.le_of_ble_eq_true rfl⟩ rfl rfl rfl rfl rfl (Nat.le_of_ble_eq_true rfl) dX4_isNewestMade_24 ⟨Nat.le_of_ble_eq_true rfl, Nat.le_of_ble_eq_true rfl⟩ (fun x u H locs hpost hP hD hS => ?_)
      subst hpost
      have hP : va_P E.1 vwCl (wM E q z pa sl sv sp pd od pm ty om st wr) H := hP
      have hD : va_D A (wM E q z pa sl sv sp pd od pm ty om st wr) := hD
      refine z_if_ne (tgt := 34) hx hb dX4_isNewestMade_27 (by decide) ⟨by first | omega | exact (hz _ _ (by omega)).1 | exact (hz _ _ (by omega)).2, by first | omega | exact (hz _ _ (by omega)).1 | exact (hz _ _ (by omega)).2⟩ (fun c_27 => ?_) (fun c_27 => ?_)
      · refine lv_iconst (v := iI 0) hx hb dX4_isNewestMade_34 (by decide) ?_
        exact z_zret hx hb hr hlocks hK hS (Or.inl rfl) () (by first | rfl | trivial | exact zb_t' (by omega) | exact zb_f' (by omega) | omega) hP hD dX4_isNewestMade_35
      · refine lv_iconst (v := iI 1) hx hb dX4_isNewestMade_30 (by decide) ?_
        refine lv_goto (tgt := 35) hx hb dX4_isNewestMade_31 (by decide) ?_
        exact z_zret hx hb hr hlocks hK hS (Or.inr rfl) () (by first | rfl | trivial | exact zb_t' (by omega) | exact zb_f' (by omega) | omega) hP hD dX4_isNewestMade_35

theorem ndX4_madeMany : yX4_madeMany.cls = RX4 ∧ yX4_madeMany.cls ≠ "java/lang/invoke/MethodHandle" ∧ yX4_madeMany.cls ≠ "java/lang/invoke/VarHandle" ∧ (parseMethodDescriptor yX4_madeMany.desc).map (fun d => d.parameters.length) = some 0 := by decide +kernel
set_option maxRecDepth 100000 in
set_option maxHeartbeats 4000000 in
theorem c_X4_madeMany (l : Launch) (E : zE) (q : Nat → Nat) (z pa sl sv sp pd od : Int → Int) (pm ty om st wr : Int) (h0 : ∀ g : Int, 0 ≤ g → g ≤ 5 → 0 ≤ zg z g 1 ∧ zg z g 1 ≤ 8) (h1 : CZ z) (h2 : rg (z 1)) : zF l E yX4_madeMany wsX4_madeMany 4 91 [.ref (q 0)] (wM E q z pa sl sv sp pd od pm ty om st wr) (mMany7 z) (wM E q z pa sl sv sp pd od pm ty om st wr) := by
  have hz := h1
  have hm := h0
  refine zC_of (cc := cX4_madeMany) (maxL := 3) (by decide) rfl (Nat.le_of_ble_eq_true rfl) ?_
  intro p e s m below meth c ls A hx hb hr hts hown hlocks hml hK hA hS hP hD hl
  have hown : s.vm.findClass RX4 = some m.cls := hown
  have hl : lv_has ls 3 [(0, .ref (q 0))] := hl
  refine lv_iconst (v := iI 0) hx hb dX4_madeMany_0 (by decide) ?_
  refine lv_istore_n (lv' := [(1, .int (iI 0)), (0, .ref (q 0))]) hx hb dX4_madeMany_1 rfl hl (by decide) rfl (fun ls hl => ?_)
  refine lv_iconst (v := iI 0) hx hb dX4_madeMany_2 (by decide) ?_
  refine lv_istore_n (lv' := [(2, .int (iI 0)), (1, .int (iI 0)), (0, .ref (q 0))]) hx hb dX4_madeMany_3 rfl hl (by decide) rfl (fun ls hl => ?_)
  have hloop4 : ∀ (n : Nat) (n1 : Int) (i1 : Int) (hmu : 6 - i1 = (n : Int)) (hi4_0 : n1 = itr (fun g n => n + (if mMade z g = -6 then 0 else 1)) 0 (i1).toNat) (hi4_1 : 0 ≤ i1 ∧ i1 ≤ 6) (H : Heap) (locs : List Loc) (ls : Array Slot), va_P E.1 vwCl (wM E q z pa sl sv sp pd od pm ty om st wr) H → va_D A (wM E q z pa sl sv sp pd od pm ty om st wr) → va_S A s.heap H locs → lv_has ls 3 [(2, .int (iI i1)), (1, .int (iI n1)), (0, .ref (q 0))] → W p l e (zR 4 91) s m ([.ref (q 0)] : List Value).toArray below meth c H locs 0 0 (MQ below (zQ E A (S := Unit) (fun x _ => x = (mMany7 z)) (fun _ => wM E q z pa sl sv sp pd od pm ty om st wr)) ([.ref (q 0)] : List Value).toArray s 0 0 A) (F0 m 4 ls []) := by
    intro n
    induction n using Nat.strongRecOn with
    | ind n ih4 =>
      intro n1 i1 hmu4 hi4_0 hi4_1 H locs ls hP hD hS hl
      refine lv_iload_n hx hb dX4_madeMany_4 rfl (lv_at hl 0 rfl) ?_
      refine lv_bipush (v := iI 6) hx hb dX4_madeMany_5 (by decide) ?_
      refine z_icmp_ge (tgt := 34) hx hb dX4_madeMany_7 (by decide) ⟨by first | omega | exact (hz _ _ (by omega)).1 | exact (hz _ _ (by omega)).2, by first | omega | exact (hz _ _ (by omega)).1 | exact (hz _ _ (by omega)).2⟩ ⟨by first | omega | exact (hz _ _ (by omega)).1 | exact (hz _ _ (by omega)).2, by first | omega | exact (hz _ _ (by omega)).1 | exact (hz _ _ (by omega)).2⟩ (fun c_7 => ?_) (fun c_7 => ?_)
      · refine lv_iload_n hx hb dX4_madeMany_34 rfl (lv_at hl 1 rfl) ?_
        exact z_iret hx hb hr hlocks hK hS () (by rw [hi4_0, show i1 = 6 by omega]; rfl) hP hD dX4_madeMany_35
      · refine lv_iload_n hx hb dX4_madeMany_10 rfl (lv_at hl 1 rfl) ?_
        refine lv_aload_n hx hb dX4_madeMany_11 rfl (lv_at hl 2 rfl) ?_
        refine lv_iload_n hx hb dX4_madeMany_12 rfl (lv_at hl 0 rfl) ?_
        refine z_callV0 (ci := 4) (qk := 0) (As := [.int (iI i1)]) (rest := [.int (iI n1)]) hx hb hml hown hts hK hA hl.1 hP hD hS (c_X4_madePlace l E q z pa sl sv sp pd od pm ty om st wr i1  (by first | omega | exact hz _ _ (by omega) | exact hz | exact ⟨by omega, by omega⟩ | exact hm _ (by omega) (by omega)) (by first | omega | exact hz _ _ (by omega) | exact hz | exact ⟨by omega, by omega⟩ | exact hm _ (by omega) (by omega)) (by first | omega | exact hz _ _ (by omega) | exact hz | exact ⟨by omega, by omega⟩ | exact hm _ (by omega) (by omega)) (by first | omega | exact hz _ _ (by omega) | exact hz | exact ⟨by omega, by omega⟩ | exact hm _ (by omega) (by omega))) gX4_madeMany_X4_madePlace rfl ndX4_madePlace ⟨Nat.le_of_ble_eq_true rfl, Nat.le_of_ble_eq_true rfl⟩ rfl rfl rfl rfl rfl (Nat.le_of_ble_eq_true rfl) dX4_madeMany_13 ⟨Nat.le_of_ble_eq_true rfl, Nat.le_of_ble_eq_true rfl⟩ (fun x u H locs hpost hP hD hS => ?_)
        subst hpost
        have hP : va_P E.1 vwCl (wM E q z pa sl sv sp pd od pm ty om st wr) H := hP
        have hD : va_D A (wM E q z pa sl sv sp pd od pm ty om st wr) := hD
        have hp := mMade_rg (z := z) (g := i1) (hm _ (by omega) (by omega)).1
        have hm2 := hm i1 (by omega) (by omega)
        refine lv_bipush (v := iI (-6)) hx hb dX4_madeMany_16 (by decide) ?_
        refine z_icmp_ne (tgt := 25) hx hb dX4_madeMany_18 (by decide) ⟨by first | omega | exact (hz _ _ (by omega)).1 | exact (hz _ _ (by omega)).2, by first | omega | exact (hz _ _ (by omega)).1 | exact (hz _ _ (by omega)).2⟩ ⟨by first | omega | exact (hz _ _ (by omega)).1 | exact (hz _ _ (by omega)).2, by first | omega | exact (hz _ _ (by omega)).1 | exact (hz _ _ (by omega)).2⟩ (fun c_18 => ?_) (fun c_18 => ?_)
        · refine lv_iconst (v := iI 1) hx hb dX4_madeMany_25 (by decide) ?_
          refine z_iadd hx hb dX4_madeMany_26 ?_
          refine lv_istore_n (lv' := [(1, .int (iI (n1 + 1))), (2, .int (iI i1)), (0, .ref (q 0))]) hx hb dX4_madeMany_27 rfl hl (by decide) rfl (fun ls hl => ?_)
          refine lv_iinc (v := iI (i1 + 1)) (lv' := [(2, .int (iI (i1 + 1))), (1, .int (iI (n1 + 1))), (0, .ref (q 0))]) hx hb dX4_madeMany_28 hl (k := 1) rfl (iI_add _ _) (by decide) rfl (fun ls hl => ?_)
          refine lv_goto (tgt := 4) hx hb dX4_madeMany_31 (by decide) ?_
          exact ih4 (6 - (i1 + 1) : Int).toNat (by omega) (n1 + 1) (i1 + 1) (by omega) (by rw [itr_step (by omega), ← hi4_0]; first | rw [if_pos c_18] | rw [if_neg c_18]) (by omega) _ _ ls hP hD hS (lv_sub hl [0, 1, 2] rfl)
        · refine lv_iconst (v := iI 0) hx hb dX4_madeMany_21 (by decide) ?_
          refine lv_goto (tgt := 26) hx hb dX4_madeMany_22 (by decide) ?_
          refine z_iadd hx hb dX4_madeMany_26 ?_
          refine lv_istore_n (lv' := [(1, .int (iI (n1 + 0))), (2, .int (iI i1)), (0, .ref (q 0))]) hx hb dX4_madeMany_27 rfl hl (by decide) rfl (fun ls hl => ?_)
          refine lv_iinc (v := iI (i1 + 1)) (lv' := [(2, .int (iI (i1 + 1))), (1, .int (iI (n1 + 0))), (0, .ref (q 0))]) hx hb dX4_madeMany_28 hl (k := 1) rfl (iI_add _ _) (by decide) rfl (fun ls hl => ?_)
          refine lv_goto (tgt := 4) hx hb dX4_madeMany_31 (by decide) ?_
          exact ih4 (6 - (i1 + 1) : Int).toNat (by omega) (n1 + 0) (i1 + 1) (by omega) (by rw [itr_step (by omega), ← hi4_0]; first | rw [if_pos c_18] | rw [if_neg c_18]) (by omega) _ _ ls hP hD hS (lv_sub hl [0, 1, 2] rfl)
  exact hloop4 (6 - 0 : Int).toNat 0 0 (by omega) (rfl) (by omega) _ _ ls hP hD hS (lv_sub hl [0, 1, 2] rfl)

theorem ndX4_holes : yX4_holes.cls = RX4 ∧ yX4_holes.cls ≠ "java/lang/invoke/MethodHandle" ∧ yX4_holes.cls ≠ "java/lang/invoke/VarHandle" ∧ (parseMethodDescriptor yX4_holes.desc).map (fun d => d.parameters.length) = some 1 := by decide +kernel
set_option maxRecDepth 100000 in
set_option maxHeartbeats 4000000 in
theorem c_X4_holes (l : Launch) (E : zE) (q : Nat → Nat) (z pa sl sv sp pd od : Int → Int) (pm ty om st wr : Int) (g : Int) (h0 : 0 ≤ g ∧ g ≤ 5) (h1 : 0 ≤ zg z g 1 ∧ zg z g 1 ≤ 8) (h2 : CZ z) : zF l E yX4_holes wsX4_holes 3 67 [.ref (q 0), .int (iI g)] (wM E q z pa sl sv sp pd od pm ty om st wr) (mHoles z g) (wM E q z pa sl sv sp pd od pm ty om st wr) := by
  have hz := h2
  refine zC_of (cc := cX4_holes) (maxL := 4) (by decide) rfl (Nat.le_of_ble_eq_true rfl) ?_
  intro p e s m below meth c ls A hx hb hr hts hown hlocks hml hK hA hS hP hD hl
  have hown : s.vm.findClass RX4 = some m.cls := hown
  have hl : lv_has ls 4 [(0, .ref (q 0)), (1, .int (iI g))] := hl
  refine lv_iconst (v := iI 0) hx hb dX4_holes_0 (by decide) ?_
  refine lv_istore_n (lv' := [(2, .int (iI 0)), (0, .ref (q 0)), (1, .int (iI g))]) hx hb dX4_holes_1 rfl hl (by decide) rfl (fun ls hl => ?_)
  refine lv_iconst (v := iI 0) hx hb dX4_holes_2 (by decide) ?_
  refine lv_istore_n (lv' := [(3, .int (iI 0)), (2, .int (iI 0)), (0, .ref (q 0)), (1, .int (iI g))]) hx hb dX4_holes_3 rfl hl (by decide) rfl (fun ls hl => ?_)
  have hloop4 : ∀ (n : Nat) (n1 : Int) (i1 : Int) (hmu : zg z g 1 - i1 = (n : Int)) (hi4_0 : n1 = itr (fun p n => n + (if zg z g (15 + 5 * p + 2) = -6 then 1 else 0)) 0 (i1).toNat) (hi4_1 : 0 ≤ i1 ∧ i1 ≤ zg z g 1) (H : Heap) (locs : List Loc) (ls : Array Slot), va_P E.1 vwCl (wM E q z pa sl sv sp pd od pm ty om st wr) H → va_D A (wM E q z pa sl sv sp pd od pm ty om st wr) → va_S A s.heap H locs → lv_has ls 4 [(3, .int (iI i1)), (2, .int (iI n1)), (0, .ref (q 0)), (1, .int (iI g))] → W p l e (zR 3 67) s m ([.ref (q 0), .int (iI g)] : List Value).toArray below meth c H locs 0 0 (MQ below (zQ E A (S := Unit) (fun x _ => x = (mHoles z g)) (fun _ => wM E q z pa sl sv sp pd od pm ty om st wr)) ([.ref (q 0), .int (iI g)] : List Value).toArray s 0 0 A) (F0 m 4 ls []) := by
    intro n
    induction n using Nat.strongRecOn with
    | ind n ih4 =>
      intro n1 i1 hmu4 hi4_0 hi4_1 H locs ls hP hD hS hl
      refine lv_iload_n hx hb dX4_holes_4 rfl (lv_at hl 0 rfl) ?_
      refine lv_aload_n hx hb dX4_holes_5 rfl (lv_at hl 2 rfl) ?_
      refine lv_iload_n hx hb dX4_holes_6 rfl (lv_at hl 3 rfl) ?_
      refine z_callV0 (ci := 4) (qk := 0) (As := [.int (iI g)]) (rest := [.int (iI i1)]) hx hb hml hown hts hK hA hl.1 hP hD hS (c_X4_many l E q z pa sl sv sp pd od pm ty om st wr g  (by first | omega | exact hz _ _ (by omega) | exact hz | exact ⟨by omega, by omega⟩)) gX4_holes_X4_many rfl ndX4_many ⟨Nat.le_of_ble_eq_true rfl, Nat.le_of_ble_eq_true rfl⟩ rfl rfl rfl rfl rfl (Nat.le_of_ble_eq_true rfl) dX4_holes_7 ⟨Nat.le_of_ble_eq_true rfl, Nat.le_of_ble_eq_true rfl⟩ (fun x u H locs hpost hP hD hS => ?_)
      subst hpost
      have hP : va_P E.1 vwCl (wM E q z pa sl sv sp pd od pm ty om st wr) H := hP
      have hD : va_D A (wM E q z pa sl sv sp pd od pm ty om st wr) := hD
      refine z_icmp_ge (tgt := 36) hx hb dX4_holes_10 (by decide) ⟨by first | omega | exact (hz _ _ (by omega)).1 | exact (hz _ _ (by omega)).2, by first | omega | exact (hz _ _ (by omega)).1 | exact (hz _ _ (by omega)).2⟩ ⟨by first | omega | exact (hz _ _ (by omega)).1 | exact (hz _ _ (by omega)).2, by first | omega | exact (hz _ _ (by omega)).1 | exact (hz _ _ (by omega)).2⟩ (fun c_10 => ?_) (fun c_10 => ?_)
      · refine lv_iload_n hx hb dX4_holes_36 rfl (lv_at hl 1 rfl) ?_
        exact z_iret hx hb hr hlocks hK hS () (by rw [hi4_0, show i1 = zg z g 1 by omega]; rfl) hP hD dX4_holes_37
      · refine lv_iload_n hx hb dX4_holes_13 rfl (lv_at hl 1 rfl) ?_
        refine lv_aload_n hx hb dX4_holes_14 rfl (lv_at hl 2 rfl) ?_
        refine lv_iload_n hx hb dX4_holes_15 rfl (lv_at hl 3 rfl) ?_
        refine lv_iload_n hx hb dX4_holes_16 rfl (lv_at hl 0 rfl) ?_
        refine z_callV0 (ci := 4) (qk := 0) (As := [.int (iI g), .int (iI i1)]) (rest := [.int (iI n1)]) hx hb hml hown hts hK hA hl.1 hP hD hS (c_X4_isHole l E q z pa sl sv sp pd od pm ty om st wr g i1  (by first | omega | exact hz _ _ (by omega) | exact hz | exact ⟨by omega, by omega⟩) (by first | omega | exact hz _ _ (by omega) | exact hz | exact ⟨by omega, by omega⟩) (by first | omega | exact hz _ _ (by omega) | exact hz | exact ⟨by omega, by omega⟩)) gX4_holes_X4_isHole rfl ndX4_isHole ⟨Nat.le_of_ble_eq_true rfl, Nat.le_of_ble_eq_true rfl⟩ rfl rfl rfl rfl rfl (Nat.le_of_ble_eq_true rfl) dX4_holes_17 ⟨Nat.le_of_ble_eq_true rfl, Nat.le_of_ble_eq_true rfl⟩ (fun x u H locs hpost hP hD hS => ?_)
        subst hpost
        have hP : va_P E.1 vwCl (wM E q z pa sl sv sp pd od pm ty om st wr) H := hP
        have hD : va_D A (wM E q z pa sl sv sp pd od pm ty om st wr) := hD
        refine z_ifb_eq (tgt := 27) hx hb dX4_holes_20 (by decide) (fun c_20 => ?_) (fun c_20 => ?_)
        · refine lv_iconst (v := iI 0) hx hb dX4_holes_27 (by decide) ?_
          refine z_iadd hx hb dX4_holes_28 ?_
          refine lv_istore_n (lv' := [(2, .int (iI (n1 + 0))), (3, .int (iI i1)), (0, .ref (q 0)), (1, .int (iI g))]) hx hb dX4_holes_29 rfl hl (by decide) rfl (fun ls hl => ?_)
          refine lv_iinc (v := iI (i1 + 1)) (lv' := [(3, .int (iI (i1 + 1))), (2, .int (iI (n1 + 0))), (0, .ref (q 0)), (1, .int (iI g))]) hx hb dX4_holes_30 hl (k := 1) rfl (iI_add _ _) (by decide) rfl (fun ls hl => ?_)
          refine lv_goto (tgt := 4) hx hb dX4_holes_33 (by decide) ?_
          exact ih4 (zg z g 1 - (i1 + 1) : Int).toNat (by omega) (n1 + 0) (i1 + 1) (by omega) (by rw [itr_step (by omega), ← hi4_0]; first | rw [if_pos c_20] | rw [if_neg c_20]) (by omega) _ _ ls hP hD hS (lv_sub hl [0, 1, 2, 3] rfl)
        · refine lv_iconst (v := iI 1) hx hb dX4_holes_23 (by decide) ?_
          refine lv_goto (tgt := 28) hx hb dX4_holes_24 (by decide) ?_
          refine z_iadd hx hb dX4_holes_28 ?_
          refine lv_istore_n (lv' := [(2, .int (iI (n1 + 1))), (3, .int (iI i1)), (0, .ref (q 0)), (1, .int (iI g))]) hx hb dX4_holes_29 rfl hl (by decide) rfl (fun ls hl => ?_)
          refine lv_iinc (v := iI (i1 + 1)) (lv' := [(3, .int (iI (i1 + 1))), (2, .int (iI (n1 + 1))), (0, .ref (q 0)), (1, .int (iI g))]) hx hb dX4_holes_30 hl (k := 1) rfl (iI_add _ _) (by decide) rfl (fun ls hl => ?_)
          refine lv_goto (tgt := 4) hx hb dX4_holes_33 (by decide) ?_
          exact ih4 (zg z g 1 - (i1 + 1) : Int).toNat (by omega) (n1 + 1) (i1 + 1) (by omega) (by rw [itr_step (by omega), ← hi4_0]; first | rw [if_pos c_20] | rw [if_neg c_20]) (by omega) _ _ ls hP hD hS (lv_sub hl [0, 1, 2, 3] rfl)
  exact hloop4 (zg z g 1 - 0 : Int).toNat 0 0 (by omega) (rfl) (by omega) _ _ ls hP hD hS (lv_sub hl [0, 1, 2, 3] rfl)

theorem ndX4_allData : yX4_allData.cls = RX4 ∧ yX4_allData.cls ≠ "java/lang/invoke/MethodHandle" ∧ yX4_allData.cls ≠ "java/lang/invoke/VarHandle" ∧ (parseMethodDescriptor yX4_allData.desc).map (fun d => d.parameters.length) = some 1 := by decide +kernel
set_option maxRecDepth 100000 in
set_option maxHeartbeats 4000000 in
theorem c_X4_allData (l : Launch) (E : zE) (q : Nat → Nat) (z pa sl sv sp pd od : Int → Int) (pm ty om st wr : Int) (g : Int) (h0 : 0 ≤ g ∧ g ≤ 5) (h1 : 0 ≤ zg z g 1 ∧ zg z g 1 ≤ 8) (h2 : CZ z) : zF l E yX4_allData wsX4_allData 3 67 [.ref (q 0), .int (iI g)] (wM E q z pa sl sv sp pd od pm ty om st wr) (mSum z g) (wM E q z pa sl sv sp pd od pm ty om st wr) := by
  have hz := h2
  refine zC_of (cc := cX4_allData) (maxL := 4) (by decide) rfl (Nat.le_of_ble_eq_true rfl) ?_
  intro p e s m below meth c ls A hx hb hr hts hown hlocks hml hK hA hS hP hD hl
  have hown : s.vm.findClass RX4 = some m.cls := hown
  have hl : lv_has ls 4 [(0, .ref (q 0)), (1, .int (iI g))] := hl
  refine lv_iconst (v := iI 0) hx hb dX4_allData_0 (by decide) ?_
  refine lv_istore_n (lv' := [(2, .int (iI 0)), (0, .ref (q 0)), (1, .int (iI g))]) hx hb dX4_allData_1 rfl hl (by decide) rfl (fun ls hl => ?_)
  refine lv_iconst (v := iI 0) hx hb dX4_allData_2 (by decide) ?_
  refine lv_istore_n (lv' := [(3, .int (iI 0)), (2, .int (iI 0)), (0, .ref (q 0)), (1, .int (iI g))]) hx hb dX4_allData_3 rfl hl (by decide) rfl (fun ls hl => ?_)
  have hloop4 : ∀ (n : Nat) (n1 : Int) (i1 : Int) (hmu : zg z g 1 - i1 = (n : Int)) (hi4_0 : n1 = itr (fun p n => n + (if zg z g (15 + 5 * p + 2) = -6 then 0 else zg z g (15 + 5 * p + 2))) 0 (i1).toNat) (hi4_1 : 0 ≤ i1 ∧ i1 ≤ zg z g 1) (H : Heap) (locs : List Loc) (ls : Array Slot), va_P E.1 vwCl (wM E q z pa sl sv sp pd od pm ty om st wr) H → va_D A (wM E q z pa sl sv sp pd od pm ty om st wr) → va_S A s.heap H locs → lv_has ls 4 [(3, .int (iI i1)), (2, .int (iI n1)), (0, .ref (q 0)), (1, .int (iI g))] → W p l e (zR 3 67) s m ([.ref (q 0), .int (iI g)] : List Value).toArray below meth c H locs 0 0 (MQ below (zQ E A (S := Unit) (fun x _ => x = (mSum z g)) (fun _ => wM E q z pa sl sv sp pd od pm ty om st wr)) ([.ref (q 0), .int (iI g)] : List Value).toArray s 0 0 A) (F0 m 4 ls []) := by
    intro n
    induction n using Nat.strongRecOn with
    | ind n ih4 =>
      intro n1 i1 hmu4 hi4_0 hi4_1 H locs ls hP hD hS hl
      refine lv_iload_n hx hb dX4_allData_4 rfl (lv_at hl 0 rfl) ?_
      refine lv_aload_n hx hb dX4_allData_5 rfl (lv_at hl 2 rfl) ?_
      refine lv_iload_n hx hb dX4_allData_6 rfl (lv_at hl 3 rfl) ?_
      refine z_callV0 (ci := 4) (qk := 0) (As := [.int (iI g)]) (rest := [.int (iI i1)]) hx hb hml hown hts hK hA hl.1 hP hD hS (c_X4_many l E q z pa sl sv sp pd od pm ty om st wr g  (by first | omega | exact hz _ _ (by omega) | exact hz | exact ⟨by omega, by omega⟩)) gX4_allData_X4_many rfl ndX4_many ⟨Nat.le_of_ble_eq_true rfl, Nat.le_of_ble_eq_true rfl⟩ rfl rfl rfl rfl rfl (Nat.le_of_ble_eq_true rfl) dX4_allData_7 ⟨Nat.le_of_ble_eq_true rfl, Nat.le_of_ble_eq_true rfl⟩ (fun x u H locs hpost hP hD hS => ?_)
      subst hpost
      have hP : va_P E.1 vwCl (wM E q z pa sl sv sp pd od pm ty om st wr) H := hP
      have hD : va_D A (wM E q z pa sl sv sp pd od pm ty om st wr) := hD
      refine z_icmp_ge (tgt := 42) hx hb dX4_allData_10 (by decide) ⟨by first | omega | exact (hz _ _ (by omega)).1 | exact (hz _ _ (by omega)).2, by first | omega | exact (hz _ _ (by omega)).1 | exact (hz _ _ (by omega)).2⟩ ⟨by first | omega | exact (hz _ _ (by omega)).1 | exact (hz _ _ (by omega)).2, by first | omega | exact (hz _ _ (by omega)).1 | exact (hz _ _ (by omega)).2⟩ (fun c_10 => ?_) (fun c_10 => ?_)
      · refine lv_iload_n hx hb dX4_allData_42 rfl (lv_at hl 1 rfl) ?_
        exact z_iret hx hb hr hlocks hK hS () (by rw [hi4_0, show i1 = zg z g 1 by omega]; rfl) hP hD dX4_allData_43
      · refine lv_iload_n hx hb dX4_allData_13 rfl (lv_at hl 1 rfl) ?_
        refine lv_aload_n hx hb dX4_allData_14 rfl (lv_at hl 2 rfl) ?_
        refine lv_iload_n hx hb dX4_allData_15 rfl (lv_at hl 3 rfl) ?_
        refine lv_iload_n hx hb dX4_allData_16 rfl (lv_at hl 0 rfl) ?_
        refine z_callV0 (ci := 4) (qk := 0) (As := [.int (iI g), .int (iI i1)]) (rest := [.int (iI n1)]) hx hb hml hown hts hK hA hl.1 hP hD hS (c_X4_isHole l E q z pa sl sv sp pd od pm ty om st wr g i1  (by first | omega | exact hz _ _ (by omega) | exact hz | exact ⟨by omega, by omega⟩) (by first | omega | exact hz _ _ (by omega) | exact hz | exact ⟨by omega, by omega⟩) (by first | omega | exact hz _ _ (by omega) | exact hz | exact ⟨by omega, by omega⟩)) gX4_allData_X4_isHole rfl ndX4_isHole ⟨Nat.le_of_ble_eq_true rfl, Nat.le_of_ble_eq_true rfl⟩ rfl rfl rfl rfl rfl (Nat.le_of_ble_eq_true rfl) dX4_allData_17 ⟨Nat.le_of_ble_eq_true rfl, Nat.le_of_ble_eq_true rfl⟩ (fun x u H locs hpost hP hD hS => ?_)
        subst hpost
        have hP : va_P E.1 vwCl (wM E q z pa sl sv sp pd od pm ty om st wr) H := hP
        have hD : va_D A (wM E q z pa sl sv sp pd od pm ty om st wr) := hD
        refine z_ifb_eq (tgt := 27) hx hb dX4_allData_20 (by decide) (fun c_20 => ?_) (fun c_20 => ?_)
        · refine lv_aload_n hx hb dX4_allData_27 rfl (lv_at hl 2 rfl) ?_
          refine lv_iload_n hx hb dX4_allData_28 rfl (lv_at hl 3 rfl) ?_
          refine lv_iload_n hx hb dX4_allData_29 rfl (lv_at hl 0 rfl) ?_
          refine lv_iconst (v := iI 2) hx hb dX4_allData_30 (by decide) ?_
          refine z_callV0 (ci := 4) (qk := 0) (As := [.int (iI g), .int (iI i1), .int (iI 2)]) (rest := [.int (iI n1)]) hx hb hml hown hts hK hA hl.1 hP hD hS (c_X4_gen l E q z pa sl sv sp pd od pm ty om st wr g i1 2  (by first | omega | exact hz _ _ (by omega) | exact hz | exact ⟨by omega, by omega⟩) (by first | omega | exact hz _ _ (by omega) | exact hz | exact ⟨by omega, by omega⟩)) gX4_allData_X4_gen rfl ndX4_gen ⟨Nat.le_of_ble_eq_true rfl, Nat.le_of_ble_eq_true rfl⟩ rfl rfl rfl rfl rfl (Nat.le_of_ble_eq_true rfl) dX4_allData_31 ⟨Nat.le_of_ble_eq_true rfl, Nat.le_of_ble_eq_true rfl⟩ (fun x u H locs hpost hP hD hS => ?_)
          subst hpost
          have hP : va_P E.1 vwCl (wM E q z pa sl sv sp pd od pm ty om st wr) H := hP
          have hD : va_D A (wM E q z pa sl sv sp pd od pm ty om st wr) := hD
          refine z_iadd hx hb dX4_allData_34 ?_
          refine lv_istore_n (lv' := [(2, .int (iI (n1 + (zg z g (15 + 5 * i1 + 2))))), (3, .int (iI i1)), (0, .ref (q 0)), (1, .int (iI g))]) hx hb dX4_allData_35 rfl hl (by decide) rfl (fun ls hl => ?_)
          refine lv_iinc (v := iI (i1 + 1)) (lv' := [(3, .int (iI (i1 + 1))), (2, .int (iI (n1 + (zg z g (15 + 5 * i1 + 2))))), (0, .ref (q 0)), (1, .int (iI g))]) hx hb dX4_allData_36 hl (k := 1) rfl (iI_add _ _) (by decide) rfl (fun ls hl => ?_)
          refine lv_goto (tgt := 4) hx hb dX4_allData_39 (by decide) ?_
          exact ih4 (zg z g 1 - (i1 + 1) : Int).toNat (by omega) (n1 + (zg z g (15 + 5 * i1 + 2))) (i1 + 1) (by omega) (by rw [itr_step (by omega), ← hi4_0]; first | rw [if_pos c_20] | rw [if_neg c_20]) (by omega) _ _ ls hP hD hS (lv_sub hl [0, 1, 2, 3] rfl)
        · refine lv_iconst (v := iI 0) hx hb dX4_allData_23 (by decide) ?_
          refine lv_goto (tgt := 34) hx hb dX4_allData_24 (by decide) ?_
          refine z_iadd hx hb dX4_allData_34 ?_
          refine lv_istore_n (lv' := [(2, .int (iI (n1 + 0))), (3, .int (iI i1)), (0, .ref (q 0)), (1, .int (iI g))]) hx hb dX4_allData_35 rfl hl (by decide) rfl (fun ls hl => ?_)
          refine lv_iinc (v := iI (i1 + 1)) (lv' := [(3, .int (iI (i1 + 1))), (2, .int (iI (n1 + 0))), (0, .ref (q 0)), (1, .int (iI g))]) hx hb dX4_allData_36 hl (k := 1) rfl (iI_add _ _) (by decide) rfl (fun ls hl => ?_)
          refine lv_goto (tgt := 4) hx hb dX4_allData_39 (by decide) ?_
          exact ih4 (zg z g 1 - (i1 + 1) : Int).toNat (by omega) (n1 + 0) (i1 + 1) (by omega) (by rw [itr_step (by omega), ← hi4_0]; first | rw [if_pos c_20] | rw [if_neg c_20]) (by omega) _ _ ls hP hD hS (lv_sub hl [0, 1, 2, 3] rfl)
  exact hloop4 (zg z g 1 - 0 : Int).toNat 0 0 (by omega) (rfl) (by omega) _ _ ls hP hD hS (lv_sub hl [0, 1, 2, 3] rfl)

theorem ndX4_nameOf : yX4_nameOf.cls = RX4 ∧ yX4_nameOf.cls ≠ "java/lang/invoke/MethodHandle" ∧ yX4_nameOf.cls ≠ "java/lang/invoke/VarHandle" ∧ (parseMethodDescriptor yX4_nameOf.desc).map (fun d => d.parameters.length) = some 2 := by decide +kernel
set_option maxRecDepth 100000 in
set_option maxHeartbeats 4000000 in
theorem c_X4_nameOf (l : Launch) (E : zE) (q : Nat → Nat) (z pa sl sv sp pd od : Int → Int) (pm ty om st wr : Int) (g : Int) (pl : Int) (h0 : 0 ≤ g ∧ g ≤ 5) (h1 : 0 ≤ zg z g 1 ∧ zg z g 1 ≤ 8) (h2 : CZ z) (h3 : rg (z 1)) (h4 : 0 ≤ pl ∧ pl ≤ 8) : zF l E yX4_nameOf wsX4_nameOf 4 92 [.ref (q 0), .int (iI g), .int (iI pl)] (wM E q z pa sl sv sp pd od pm ty om st wr) (mNameOf z g pl) (wM E q z pa sl sv sp pd od pm ty om st wr) := by
  have hz := h2
  refine zC_of (cc := cX4_nameOf) (maxL := 5) (by decide) rfl (Nat.le_of_ble_eq_true rfl) ?_
  intro p e s m below meth c ls A hx hb hr hts hown hlocks hml hK hA hS hP hD hl
  have hown : s.vm.findClass RX4 = some m.cls := hown
  have hl : lv_has ls 5 [(0, .ref (q 0)), (1, .int (iI g)), (2, .int (iI pl))] := hl
  refine lv_bipush (v := iI (-6)) hx hb dX4_nameOf_0 (by decide) ?_
  refine lv_istore_n (lv' := [(3, .int (iI (-6))), (0, .ref (q 0)), (1, .int (iI g)), (2, .int (iI pl))]) hx hb dX4_nameOf_2 rfl hl (by decide) rfl (fun ls hl => ?_)
  refine lv_bipush (v := iI (-7)) hx hb dX4_nameOf_3 (by decide) ?_
  refine lv_istore (lv' := [(4, .int (iI (-7))), (3, .int (iI (-6))), (0, .ref (q 0)), (1, .int (iI g)), (2, .int (iI pl))]) hx hb dX4_nameOf_5 hl (by decide) rfl (fun ls hl => ?_)
  have hloop7 : ∀ (n : Nat) (n1 : Int) (i1 : Int) (hmu : 2 - i1 = (n : Int)) (hi7_0 : n1 = itr (fun k r => if mTold z g (k - 7) = pl then (k - 7) + 10 else r) (-6) (i1 + 7).toNat) (hi7_1 : -7 ≤ i1 ∧ i1 ≤ 2) (hi7_2 : i1 = -7 ∨ z 1 = 1) (H : Heap) (locs : List Loc) (ls : Array Slot), va_P E.1 vwCl (wM E q z pa sl sv sp pd od pm ty om st wr) H → va_D A (wM E q z pa sl sv sp pd od pm ty om st wr) → va_S A s.heap H locs → lv_has ls 5 [(4, .int (iI i1)), (3, .int (iI n1)), (0, .ref (q 0)), (1, .int (iI g)), (2, .int (iI pl))] → W p l e (zR 4 92) s m ([.ref (q 0), .int (iI g), .int (iI pl)] : List Value).toArray below meth c H locs 0 0 (MQ below (zQ E A (S := Unit) (fun x _ => x = (mNameOf z g pl)) (fun _ => wM E q z pa sl sv sp pd od pm ty om st wr)) ([.ref (q 0), .int (iI g), .int (iI pl)] : List Value).toArray s 0 0 A) (F0 m 7 ls []) := by
    intro n
    induction n using Nat.strongRecOn with
    | ind n ih7 =>
      intro n1 i1 hmu7 hi7_0 hi7_1 hi7_2 H locs ls hP hD hS hl
      refine lv_iload hx hb dX4_nameOf_7 (lv_at hl 0 rfl) ?_
      refine lv_iconst (v := iI 1) hx hb dX4_nameOf_9 (by decide) ?_
      refine z_icmp_gt (tgt := 47) hx hb dX4_nameOf_10 (by decide) ⟨by first | omega | exact (hz _ _ (by omega)).1 | exact (hz _ _ (by omega)).2, by first | omega | exact (hz _ _ (by omega)).1 | exact (hz _ _ (by omega)).2⟩ ⟨by first | omega | exact (hz _ _ (by omega)).1 | exact (hz _ _ (by omega)).2, by first | omega | exact (hz _ _ (by omega)).1 | exact (hz _ _ (by omega)).2⟩ (fun c_10 => ?_) (fun c_10 => ?_)
      · refine lv_iload_n hx hb dX4_nameOf_47 rfl (lv_at hl 1 rfl) ?_
        exact z_iret hx hb hr hlocks hK hS () (by unfold mNameOf; first | (rw [if_pos (by omega), hi7_0, show i1 + 7 = 9 by omega]; rfl) | (rw [if_neg c_17, hi7_0, show i1 + 7 = 0 by omega]; rfl)) hP hD dX4_nameOf_48
      · refine lv_aload_n hx hb dX4_nameOf_13 rfl (lv_at hl 2 rfl) ?_
        refine z_callV0 (ci := 4) (qk := 0) (As := []) (rest := []) hx hb hml hown hts hK hA hl.1 hP hD hS (c_X4_runs l E q z pa sl sv sp pd od pm ty om st wr   (by first | omega | exact hz _ _ (by omega) | exact hz | exact ⟨by omega, by omega⟩)) gX4_nameOf_X4_runs rfl ndX4_runs ⟨Nat.le_of_ble_eq_true rfl, Nat.le_of_ble_eq_true rfl⟩ rfl rfl rfl rfl rfl (Nat.le_of_ble_eq_true rfl) dX4_nameOf_14 ⟨Nat.le_of_ble_eq_true rfl, Nat.le_of_ble_eq_true rfl⟩ (fun x u H locs hpost hP hD hS => ?_)
        subst hpost
        have hP : va_P E.1 vwCl (wM E q z pa sl sv sp pd od pm ty om st wr) H := hP
        have hD : va_D A (wM E q z pa sl sv sp pd od pm ty om st wr) := hD
        refine z_ifb_eq (tgt := 47) hx hb dX4_nameOf_17 (by decide) (fun c_17 => ?_) (fun c_17 => ?_)
        · refine lv_iload_n hx hb dX4_nameOf_47 rfl (lv_at hl 1 rfl) ?_
          exact z_iret hx hb hr hlocks hK hS () (by unfold mNameOf; first | (rw [if_pos (by omega), hi7_0, show i1 + 7 = 9 by omega]; rfl) | (rw [if_neg c_17, hi7_0, show i1 + 7 = 0 by omega]; rfl)) hP hD dX4_nameOf_48
        · refine lv_aload_n hx hb dX4_nameOf_20 rfl (lv_at hl 2 rfl) ?_
          refine lv_iload_n hx hb dX4_nameOf_21 rfl (lv_at hl 3 rfl) ?_
          refine lv_iload hx hb dX4_nameOf_22 (lv_at hl 0 rfl) ?_
          refine z_callV0 (ci := 4) (qk := 0) (As := [.int (iI g), .int (iI i1)]) (rest := []) hx hb hml hown hts hK hA hl.1 hP hD hS (c_X4_told l E q z pa sl sv sp pd od pm ty om st wr g i1  (by first | omega | exact hz _ _ (by omega) | exact hz | exact ⟨by omega, by omega⟩) (by first | omega | exact hz _ _ (by omega) | exact hz | exact ⟨by omega, by omega⟩) (by first | omega | exact hz _ _ (by omega) | exact hz | exact ⟨by omega, by omega⟩) (by first | omega | exact hz _ _ (by omega) | exact hz | exact ⟨by omega, by omega⟩) (by first | omega | exact hz _ _ (by omega) | exact hz | exact ⟨by omega, by omega⟩)) gX4_nameOf_X4_told rfl ndX4_told ⟨Nat.le_of_ble_eq_true rfl, Nat.le_of_ble_eq_true rfl⟩ rfl rfl rfl rfl rfl (Nat.le_of_ble_eq_true rfl) dX4_nameOf_24 ⟨Nat.le_of_ble_eq_true rfl, Nat.le_of_ble_eq_true rfl⟩ (fun x u H locs hpost hP hD hS => ?_)
          subst hpost
          have hP : va_P E.1 vwCl (wM E q z pa sl sv sp pd od pm ty om st wr) H := hP
          have hD : va_D A (wM E q z pa sl sv sp pd od pm ty om st wr) := hD
          have ht := mTold_rg (z := z) (g := g) (n := i1) (by omega)
          refine lv_iload_n hx hb dX4_nameOf_27 rfl (lv_at hl 4 rfl) ?_
          refine z_icmp_ne (tgt := 39) hx hb dX4_nameOf_28 (by decide) ⟨by first | omega | exact (hz _ _ (by omega)).1 | exact (hz _ _ (by omega)).2, by first | omega | exact (hz _ _ (by omega)).1 | exact (hz _ _ (by omega)).2⟩ ⟨by first | omega | exact (hz _ _ (by omega)).1 | exact (hz _ _ (by omega)).2, by first | omega | exact (hz _ _ (by omega)).1 | exact (hz _ _ (by omega)).2⟩ (fun c_28 => ?_) (fun c_28 => ?_)
          · refine lv_iload_n hx hb dX4_nameOf_39 rfl (lv_at hl 1 rfl) ?_
            refine lv_istore_n (lv' := [(3, .int (iI n1)), (4, .int (iI i1)), (0, .ref (q 0)), (1, .int (iI g)), (2, .int (iI pl))]) hx hb dX4_nameOf_40 rfl hl (by decide) rfl (fun ls hl => ?_)
            refine lv_iinc (v := iI (i1 + 1)) (lv' := [(4, .int (iI (i1 + 1))), (3, .int (iI n1)), (0, .ref (q 0)), (1, .int (iI g)), (2, .int (iI pl))]) hx hb dX4_nameOf_41 hl (k := 1) rfl (iI_add _ _) (by decide) rfl (fun ls hl => ?_)
            refine lv_goto (tgt := 7) hx hb dX4_nameOf_44 (by decide) ?_
            exact ih7 (2 - (i1 + 1) : Int).toNat (by omega) n1 (i1 + 1) (by omega) (by rw [show i1 + 1 + 7 = (i1 + 7) + 1 by omega, itr_step (by omega), show i1 + 7 - 7 = i1 by omega]; first | rw [if_pos c_28] | (rw [if_neg c_28]; exact hi7_0)) (by omega) (Or.inr c_17) _ _ ls hP hD hS (lv_sub hl [0, 1, 2, 3, 4] rfl)
          · refine lv_iload hx hb dX4_nameOf_31 (lv_at hl 0 rfl) ?_
            refine lv_bipush (v := iI 10) hx hb dX4_nameOf_33 (by decide) ?_
            refine z_iadd hx hb dX4_nameOf_35 ?_
            refine lv_goto (tgt := 40) hx hb dX4_nameOf_36 (by decide) ?_
            refine lv_istore_n (lv' := [(3, .int (iI (i1 + 10))), (4, .int (iI i1)), (0, .ref (q 0)), (1, .int (iI g)), (2, .int (iI pl))]) hx hb dX4_nameOf_40 rfl hl (by decide) rfl (fun ls hl => ?_)
            refine lv_iinc (v := iI (i1 + 1)) (lv' := [(4, .int (iI (i1 + 1))), (3, .int (iI (i1 + 10))), (0, .ref (q 0)), (1, .int (iI g)), (2, .int (iI pl))]) hx hb dX4_nameOf_41 hl (k := 1) rfl (iI_add _ _) (by decide) rfl (fun ls hl => ?_)
            refine lv_goto (tgt := 7) hx hb dX4_nameOf_44 (by decide) ?_
            exact ih7 (2 - (i1 + 1) : Int).toNat (by omega) (i1 + 10) (i1 + 1) (by omega) (by rw [show i1 + 1 + 7 = (i1 + 7) + 1 by omega, itr_step (by omega), show i1 + 7 - 7 = i1 by omega]; first | rw [if_pos c_28] | (rw [if_neg c_28]; exact hi7_0)) (by omega) (Or.inr c_17) _ _ ls hP hD hS (lv_sub hl [0, 1, 2, 3, 4] rfl)
  exact hloop7 (2 - (-7) : Int).toNat (-6) (-7) (by omega) (rfl) (by omega) (by omega) _ _ ls hP hD hS (lv_sub hl [0, 1, 2, 3, 4] rfl)

theorem ndX4_allHoles : yX4_allHoles.cls = RX4 ∧ yX4_allHoles.cls ≠ "java/lang/invoke/MethodHandle" ∧ yX4_allHoles.cls ≠ "java/lang/invoke/VarHandle" ∧ (parseMethodDescriptor yX4_allHoles.desc).map (fun d => d.parameters.length) = some 0 := by decide +kernel
set_option maxRecDepth 100000 in
set_option maxHeartbeats 4000000 in
theorem c_X4_allHoles (l : Launch) (E : zE) (q : Nat → Nat) (z pa sl sv sp pd od : Int → Int) (pm ty om st wr : Int) (h0 : ∀ g : Int, 0 ≤ g → g ≤ 5 → 0 ≤ zg z g 1 ∧ zg z g 1 ≤ 8) (h1 : CZ z) : zF l E yX4_allHoles wsX4_allHoles 4 90 [.ref (q 0)] (wM E q z pa sl sv sp pd od pm ty om st wr) (mAllHoles z) (wM E q z pa sl sv sp pd od pm ty om st wr) := by
  have hz := h1
  have hm := h0
  refine zC_of (cc := cX4_allHoles) (maxL := 3) (by decide) rfl (Nat.le_of_ble_eq_true rfl) ?_
  intro p e s m below meth c ls A hx hb hr hts hown hlocks hml hK hA hS hP hD hl
  have hown : s.vm.findClass RX4 = some m.cls := hown
  have hl : lv_has ls 3 [(0, .ref (q 0))] := hl
  refine lv_iconst (v := iI 0) hx hb dX4_allHoles_0 (by decide) ?_
  refine lv_istore_n (lv' := [(1, .int (iI 0)), (0, .ref (q 0))]) hx hb dX4_allHoles_1 rfl hl (by decide) rfl (fun ls hl => ?_)
  refine lv_iconst (v := iI 0) hx hb dX4_allHoles_2 (by decide) ?_
  refine lv_istore_n (lv' := [(2, .int (iI 0)), (1, .int (iI 0)), (0, .ref (q 0))]) hx hb dX4_allHoles_3 rfl hl (by decide) rfl (fun ls hl => ?_)
  have hloop4 : ∀ (n : Nat) (n1 : Int) (i1 : Int) (hmu : 6 - i1 = (n : Int)) (hi4_0 : n1 = itr (fun g n => n + mHoles z g) 0 (i1).toNat) (hi4_1 : 0 ≤ i1 ∧ i1 ≤ 6) (H : Heap) (locs : List Loc) (ls : Array Slot), va_P E.1 vwCl (wM E q z pa sl sv sp pd od pm ty om st wr) H → va_D A (wM E q z pa sl sv sp pd od pm ty om st wr) → va_S A s.heap H locs → lv_has ls 3 [(2, .int (iI i1)), (1, .int (iI n1)), (0, .ref (q 0))] → W p l e (zR 4 90) s m ([.ref (q 0)] : List Value).toArray below meth c H locs 0 0 (MQ below (zQ E A (S := Unit) (fun x _ => x = (mAllHoles z)) (fun _ => wM E q z pa sl sv sp pd od pm ty om st wr)) ([.ref (q 0)] : List Value).toArray s 0 0 A) (F0 m 4 ls []) := by
    intro n
    induction n using Nat.strongRecOn with
    | ind n ih4 =>
      intro n1 i1 hmu4 hi4_0 hi4_1 H locs ls hP hD hS hl
      refine lv_iload_n hx hb dX4_allHoles_4 rfl (lv_at hl 0 rfl) ?_
      refine lv_bipush (v := iI 6) hx hb dX4_allHoles_5 (by decide) ?_
      refine z_icmp_ge (tgt := 24) hx hb dX4_allHoles_7 (by decide) ⟨by first | omega | exact (hz _ _ (by omega)).1 | exact (hz _ _ (by omega)).2, by first | omega | exact (hz _ _ (by omega)).1 | exact (hz _ _ (by omega)).2⟩ ⟨by first | omega | exact (hz _ _ (by omega)).1 | exact (hz _ _ (by omega)).2, by first | omega | exact (hz _ _ (by omega)).1 | exact (hz _ _ (by omega)).2⟩ (fun c_7 => ?_) (fun c_7 => ?_)
      · refine lv_iload_n hx hb dX4_allHoles_24 rfl (lv_at hl 1 rfl) ?_
        exact z_iret hx hb hr hlocks hK hS () (by rw [hi4_0, show i1 = 6 by omega]; rfl) hP hD dX4_allHoles_25
      · refine lv_iload_n hx hb dX4_allHoles_10 rfl (lv_at hl 1 rfl) ?_
        refine lv_aload_n hx hb dX4_allHoles_11 rfl (lv_at hl 2 rfl) ?_
        refine lv_iload_n hx hb dX4_allHoles_12 rfl (lv_at hl 0 rfl) ?_
        refine z_callV0 (ci := 4) (qk := 0) (As := [.int (iI i1)]) (rest := [.int (iI n1)]) hx hb hml hown hts hK hA hl.1 hP hD hS (c_X4_holes l E q z pa sl sv sp pd od pm ty om st wr i1  (by first | omega | exact hz _ _ (by omega) | exact hz | exact ⟨by omega, by omega⟩ | exact hm _ (by omega) (by omega)) (by first | omega | exact hz _ _ (by omega) | exact hz | exact ⟨by omega, by omega⟩ | exact hm _ (by omega) (by omega)) (by first | omega | exact hz _ _ (by omega) | exact hz | exact ⟨by omega, by omega⟩ | exact hm _ (by omega) (by omega))) gX4_allHoles_X4_holes rfl ndX4_holes ⟨Nat.le_of_ble_eq_true rfl, Nat.le_of_ble_eq_true rfl⟩ rfl rfl rfl rfl rfl (Nat.le_of_ble_eq_true rfl) dX4_allHoles_13 ⟨Nat.le_of_ble_eq_true rfl, Nat.le_of_ble_eq_true rfl⟩ (fun x u H locs hpost hP hD hS => ?_)
        subst hpost
        have hP : va_P E.1 vwCl (wM E q z pa sl sv sp pd od pm ty om st wr) H := hP
        have hD : va_D A (wM E q z pa sl sv sp pd od pm ty om st wr) := hD
        refine z_iadd hx hb dX4_allHoles_16 ?_
        refine lv_istore_n (lv' := [(1, .int (iI (n1 + (mHoles z i1)))), (2, .int (iI i1)), (0, .ref (q 0))]) hx hb dX4_allHoles_17 rfl hl (by decide) rfl (fun ls hl => ?_)
        refine lv_iinc (v := iI (i1 + 1)) (lv' := [(2, .int (iI (i1 + 1))), (1, .int (iI (n1 + (mHoles z i1)))), (0, .ref (q 0))]) hx hb dX4_allHoles_18 hl (k := 1) rfl (iI_add _ _) (by decide) rfl (fun ls hl => ?_)
        refine lv_goto (tgt := 4) hx hb dX4_allHoles_21 (by decide) ?_
        exact ih4 (6 - (i1 + 1) : Int).toNat (by omega) (n1 + (mHoles z i1)) (i1 + 1) (by omega) (by rw [itr_step (by omega), ← hi4_0]) (by omega) _ _ ls hP hD hS (lv_sub hl [0, 1, 2] rfl)
  exact hloop4 (6 - 0 : Int).toNat 0 0 (by omega) (rfl) (by omega) _ _ ls hP hD hS (lv_sub hl [0, 1, 2] rfl)

theorem ndX4_wholes : yX4_wholes.cls = RX4 ∧ yX4_wholes.cls ≠ "java/lang/invoke/MethodHandle" ∧ yX4_wholes.cls ≠ "java/lang/invoke/VarHandle" ∧ (parseMethodDescriptor yX4_wholes.desc).map (fun d => d.parameters.length) = some 0 := by decide +kernel
set_option maxRecDepth 100000 in
set_option maxHeartbeats 4000000 in
theorem c_X4_wholes (l : Launch) (E : zE) (q : Nat → Nat) (z pa sl sv sp pd od : Int → Int) (pm ty om st wr : Int) (h0 : ∀ g : Int, 0 ≤ g → g ≤ 5 → 0 ≤ zg z g 1 ∧ zg z g 1 ≤ 8) (h1 : CZ z) : zF l E yX4_wholes wsX4_wholes 5 112 [.ref (q 0)] (wM E q z pa sl sv sp pd od pm ty om st wr) (mWholes z) (wM E q z pa sl sv sp pd od pm ty om st wr) := by
  have hz := h1
  have hm := h0
  refine zC_of (cc := cX4_wholes) (maxL := 3) (by decide) rfl (Nat.le_of_ble_eq_true rfl) ?_
  intro p e s m below meth c ls A hx hb hr hts hown hlocks hml hK hA hS hP hD hl
  have hown : s.vm.findClass RX4 = some m.cls := hown
  have hl : lv_has ls 3 [(0, .ref (q 0))] := hl
  refine lv_iconst (v := iI 0) hx hb dX4_wholes_0 (by decide) ?_
  refine lv_istore_n (lv' := [(1, .int (iI 0)), (0, .ref (q 0))]) hx hb dX4_wholes_1 rfl hl (by decide) rfl (fun ls hl => ?_)
  refine lv_iconst (v := iI 0) hx hb dX4_wholes_2 (by decide) ?_
  refine lv_istore_n (lv' := [(2, .int (iI 0)), (1, .int (iI 0)), (0, .ref (q 0))]) hx hb dX4_wholes_3 rfl hl (by decide) rfl (fun ls hl => ?_)
  have hloop4 : ∀ (n : Nat) (n1 : Int) (i1 : Int) (hmu : 6 - i1 = (n : Int)) (hi4_0 : n1 = itr (fun g n => n + zg z g 1) 0 (i1).toNat) (hi4_1 : 0 ≤ i1 ∧ i1 ≤ 6) (H : Heap) (locs : List Loc) (ls : Array Slot), va_P E.1 vwCl (wM E q z pa sl sv sp pd od pm ty om st wr) H → va_D A (wM E q z pa sl sv sp pd od pm ty om st wr) → va_S A s.heap H locs → lv_has ls 3 [(2, .int (iI i1)), (1, .int (iI n1)), (0, .ref (q 0))] → W p l e (zR 5 112) s m ([.ref (q 0)] : List Value).toArray below meth c H locs 0 0 (MQ below (zQ E A (S := Unit) (fun x _ => x = (mWholes z)) (fun _ => wM E q z pa sl sv sp pd od pm ty om st wr)) ([.ref (q 0)] : List Value).toArray s 0 0 A) (F0 m 4 ls []) := by
    intro n
    induction n using Nat.strongRecOn with
    | ind n ih4 =>
      intro n1 i1 hmu4 hi4_0 hi4_1 H locs ls hP hD hS hl
      refine lv_iload_n hx hb dX4_wholes_4 rfl (lv_at hl 0 rfl) ?_
      refine lv_bipush (v := iI 6) hx hb dX4_wholes_5 (by decide) ?_
      refine z_icmp_ge (tgt := 24) hx hb dX4_wholes_7 (by decide) ⟨by first | omega | exact (hz _ _ (by omega)).1 | exact (hz _ _ (by omega)).2, by first | omega | exact (hz _ _ (by omega)).1 | exact (hz _ _ (by omega)).2⟩ ⟨by first | omega | exact (hz _ _ (by omega)).1 | exact (hz _ _ (by omega)).2, by first | omega | exact (hz _ _ (by omega)).1 | exact (hz _ _ (by omega)).2⟩ (fun c_7 => ?_) (fun c_7 => ?_)
      · refine lv_iload_n hx hb dX4_wholes_24 rfl (lv_at hl 1 rfl) ?_
        refine lv_aload_n hx hb dX4_wholes_25 rfl (lv_at hl 2 rfl) ?_
        refine z_callV0 (ci := 4) (qk := 0) (As := []) (rest := [.int (iI n1)]) hx hb hml hown hts hK hA hl.1 hP hD hS (c_X4_allHoles l E q z pa sl sv sp pd od pm ty om st wr   (by first | omega | exact hz _ _ (by omega) | exact hz | exact ⟨by omega, by omega⟩ | exact hm _ (by omega) (by omega)) (by first | omega | exact hz _ _ (by omega) | exact hz | exact ⟨by omega, by omega⟩ | exact hm _ (by omega) (by omega))) gX4_wholes_X4_allHoles rfl ndX4_allHoles ⟨Nat.le_of_ble_eq_true rfl, Nat.le_of_ble_eq_true rfl⟩ rfl rfl rfl rfl rfl (Nat.le_of_ble_eq_true rfl) dX4_wholes_26 ⟨Nat.le_of_ble_eq_true rfl, Nat.le_of_ble_eq_true rfl⟩ (fun x u H locs hpost hP hD hS => ?_)
        subst hpost
        have hP : va_P E.1 vwCl (wM E q z pa sl sv sp pd od pm ty om st wr) H := hP
        have hD : va_D A (wM E q z pa sl sv sp pd od pm ty om st wr) := hD
        refine z_isub hx hb dX4_wholes_29 ?_
        exact z_iret hx hb hr hlocks hK hS () (by rw [hi4_0, show i1 = 6 by omega]; rfl) hP hD dX4_wholes_30
      · refine lv_iload_n hx hb dX4_wholes_10 rfl (lv_at hl 1 rfl) ?_
        refine lv_aload_n hx hb dX4_wholes_11 rfl (lv_at hl 2 rfl) ?_
        refine lv_iload_n hx hb dX4_wholes_12 rfl (lv_at hl 0 rfl) ?_
        refine z_callV0 (ci := 4) (qk := 0) (As := [.int (iI i1)]) (rest := [.int (iI n1)]) hx hb hml hown hts hK hA hl.1 hP hD hS (c_X4_many l E q z pa sl sv sp pd od pm ty om st wr i1  (by first | omega | exact hz _ _ (by omega) | exact hz | exact ⟨by omega, by omega⟩ | exact hm _ (by omega) (by omega))) gX4_wholes_X4_many rfl ndX4_many ⟨Nat.le_of_ble_eq_true rfl, Nat.le_of_ble_eq_true rfl⟩ rfl rfl rfl rfl rfl (Nat.le_of_ble_eq_true rfl) dX4_wholes_13 ⟨Nat.le_of_ble_eq_true rfl, Nat.le_of_ble_eq_true rfl⟩ (fun x u H locs hpost hP hD hS => ?_)
        subst hpost
        have hP : va_P E.1 vwCl (wM E q z pa sl sv sp pd od pm ty om st wr) H := hP
        have hD : va_D A (wM E q z pa sl sv sp pd od pm ty om st wr) := hD
        refine z_iadd hx hb dX4_wholes_16 ?_
        refine lv_istore_n (lv' := [(1, .int (iI (n1 + (zg z i1 1)))), (2, .int (iI i1)), (0, .ref (q 0))]) hx hb dX4_wholes_17 rfl hl (by decide) rfl (fun ls hl => ?_)
        refine lv_iinc (v := iI (i1 + 1)) (lv' := [(2, .int (iI (i1 + 1))), (1, .int (iI (n1 + (zg z i1 1)))), (0, .ref (q 0))]) hx hb dX4_wholes_18 hl (k := 1) rfl (iI_add _ _) (by decide) rfl (fun ls hl => ?_)
        refine lv_goto (tgt := 4) hx hb dX4_wholes_21 (by decide) ?_
        exact ih4 (6 - (i1 + 1) : Int).toNat (by omega) (n1 + (zg z i1 1)) (i1 + 1) (by omega) (by rw [itr_step (by omega), ← hi4_0]) (by omega) _ _ ls hP hD hS (lv_sub hl [0, 1, 2] rfl)
  exact hloop4 (6 - 0 : Int).toNat 0 0 (by omega) (rfl) (by omega) _ _ ls hP hD hS (lv_sub hl [0, 1, 2] rfl)
end
section
theorem mCopy1_eq (z : Int → Int) (g p : Int) : mCopy1 z g p = zs (zs (zs (zs (zs z g (15 + 5 * p + 0) (zg z g (15 + 5 * (p - 1) + 0))) g (15 + 5 * p + 1) (zg z g (15 + 5 * (p - 1) + 1))) g (15 + 5 * p + 2) (zg z g (15 + 5 * (p - 1) + 2))) g (15 + 5 * p + 3) (zg z g (15 + 5 * (p - 1) + 3))) g (15 + 5 * p + 4) (zg z g (15 + 5 * (p - 1) + 4)) := by
  have e : mCopy1 z g p = (fun k y => zs y g (15 + 5 * p + k) (zg y g (15 + 5 * (p - 1) + k))) 4 ((fun k y => zs y g (15 + 5 * p + k) (zg y g (15 + 5 * (p - 1) + k))) 3 ((fun k y => zs y g (15 + 5 * p + k) (zg y g (15 + 5 * (p - 1) + k))) 2 ((fun k y => zs y g (15 + 5 * p + k) (zg y g (15 + 5 * (p - 1) + k))) 1 ((fun k y => zs y g (15 + 5 * p + k) (zg y g (15 + 5 * (p - 1) + k))) 0 z)))) := rfl
  rw [e]
  dsimp only
  simp (disch := omega) only [zg_zs_ne]
theorem mCopy1_at {z : Int → Int} {g p k : Int} (hk : 0 ≤ k ∧ k < 5) : zg (mCopy1 z g p) g (15 + 5 * p + k) = zg z g (15 + 5 * (p - 1) + k) := by
  rw [mCopy1_eq]
  rcases (show k = 0 ∨ k = 1 ∨ k = 2 ∨ k = 3 ∨ k = 4 by omega) with rfl | rfl | rfl | rfl | rfl <;> simp (disch := omega) only [zg_zs, zg_zs_ne]
theorem mCopy1_ne {z : Int → Int} {g p k : Int} (hk : k < 15 + 5 * p ∨ 15 + 5 * p + 5 ≤ k) : zg (mCopy1 z g p) g k = zg z g k := by
  rw [mCopy1_eq]
  simp (disch := omega) only [zg_zs_ne]
theorem mCopy1_g {z : Int → Int} {g g' p k : Int} (h : g' ≠ g) (hp : 0 ≤ p ∧ p ≤ 8) (hk : 0 ≤ k ∧ k < 60) : zg (mCopy1 z g p) g' k = zg z g' k := by
  rw [mCopy1_eq]
  simp (disch := omega) only [zg_zs_g]
theorem mCopy1_hd {z : Int → Int} {g p j : Int} (hg : 0 ≤ g) (hp : 0 ≤ p) (hj : j < 7) : mCopy1 z g p j = z j := by
  rw [mCopy1_eq]
  simp (disch := omega) only [zs_hd]
theorem mShiftN_lo {g k : Int} (hk : k < 20) : ∀ (n : Nat) (z : Int → Int), zg (mShiftN n z g) g k = zg z g k
  | 0, _ => rfl
  | n + 1, z => by
    show zg (mShiftN n (mCopy1 z g ((n : Int) + 1)) g) g k = zg z g k
    rw [mShiftN_lo hk n, mCopy1_ne (by omega)]
theorem mShiftN_hi {g k : Int} : ∀ (n : Nat) (z : Int → Int), 15 + 5 * ((n : Int) + 1) ≤ k → zg (mShiftN n z g) g k = zg z g k
  | 0, _, _ => rfl
  | n + 1, z, h => by
    show zg (mShiftN n (mCopy1 z g ((n : Int) + 1)) g) g k = zg z g k
    rw [mShiftN_hi n _ (by omega), mCopy1_ne (by omega)]
theorem mShiftN_at {g p k : Int} (hk : 0 ≤ k ∧ k < 5) (hp : 0 ≤ p) : ∀ (n : Nat) (z : Int → Int), p < n → zg (mShiftN n z g) g (15 + 5 * (p + 1) + k) = zg z g (15 + 5 * p + k)
  | 0, _, h => absurd h (by omega)
  | n + 1, z, h => by
    show zg (mShiftN n (mCopy1 z g ((n : Int) + 1)) g) g (15 + 5 * (p + 1) + k) = zg z g (15 + 5 * p + k)
    by_cases e : p = n
    · subst e
      rw [mShiftN_hi n _ (by omega), mCopy1_at hk, show (n : Int) + 1 - 1 = n by omega]
    · rw [mShiftN_at hk hp n _ (by omega), mCopy1_ne (by omega)]
theorem mShiftN_g {g g' k : Int} (h : g' ≠ g) (hk : 0 ≤ k ∧ k < 60) : ∀ (n : Nat) (z : Int → Int), n ≤ 8 → zg (mShiftN n z g) g' k = zg z g' k
  | 0, _, _ => rfl
  | n + 1, z, hn => by
    show zg (mShiftN n (mCopy1 z g ((n : Int) + 1)) g) g' k = zg z g' k
    rw [mShiftN_g h hk n _ (by omega), mCopy1_g h (by omega) hk]
theorem mShiftN_hd {g j : Int} (hg : 0 ≤ g) (hj : j < 7) : ∀ (n : Nat) (z : Int → Int), mShiftN n z g j = z j
  | 0, _ => rfl
  | n + 1, z => by
    show mShiftN n (mCopy1 z g ((n : Int) + 1)) g j = z j
    rw [mShiftN_hd hg hj n, mCopy1_hd hg (by omega) hj]
section
variable {z : Int → Int} {g d : Int}
theorem mNew_eq (z : Int → Int) (g d : Int) : mNew z g d = mk8 (mk7 (mk6 (mk5 (mk4 (mk3 (mk2 (mk1 (mShiftN (zg z g 1).toNat z g)) g) g) g) g d) g) g) g := rfl
theorem mNew_hd {j : Int} (hg : 0 ≤ g) (hj : j < 6) : mNew z g d j = z j := by
  unfold mNew mk8 mk7 mk6 mk5 mk4 mk3 mk2 mk1
  simp (disch := omega) only [zs_hd, iU_ne]
  exact mShiftN_hd hg (by omega) _ _
theorem mNew_6 (hg : 0 ≤ g) : mNew z g d 6 = z 6 + 1 := by
  unfold mNew mk8 mk7 mk6 mk5 mk4 mk3 mk2 mk1
  simp (disch := omega) only [zs_hd, iU_same]
  rw [mShiftN_hd hg (by omega)]
theorem mNew_k {k : Int} (hg : 0 ≤ g) (hk : 0 ≤ k ∧ k < 15 ∧ k ≠ 1 ∧ k ≠ 2) : zg (mNew z g d) g k = zg z g k := by
  unfold mNew mk8 mk7 mk6 mk5 mk4 mk3 mk2 mk1
  simp (disch := omega) only [zg_zs_ne, zg_hd]
  exact mShiftN_lo (by omega) _ _
theorem mNew_1 (hg : 0 ≤ g) : zg (mNew z g d) g 1 = zg z g 1 + 1 := by
  unfold mNew mk8 mk7 mk6 mk5 mk4 mk3 mk2 mk1
  simp (disch := omega) only [zg_zs, zg_zs_ne, zg_hd]
  rw [mShiftN_lo (by omega)]
theorem mNew_2 (hg : 0 ≤ g) : zg (mNew z g d) g 2 = zg z g 2 % 99 + 1 := by
  unfold mNew mk8 mk7 mk6 mk5 mk4 mk3 mk2 mk1
  simp (disch := omega) only [zg_zs, zg_zs_ne, zg_hd]
  rw [mShiftN_lo (by omega)]
theorem mNew_mark (hg : 0 ≤ g) : zg (mNew z g d) g 15 = z 6 + 1 := by
  unfold mNew mk8 mk7 mk6 mk5 mk4 mk3 mk2 mk1
  rw [show (15 : Int) + 5 * 0 + 0 = 15 by omega]
  simp (disch := omega) only [zg_zs, zg_zs_ne, zg_hd, zs_hd, iU_same]
  rw [mShiftN_hd hg (by omega)]
theorem mNew_num (hg : 0 ≤ g) : zg (mNew z g d) g 16 = zg z g 2 % 99 + 1 := by
  unfold mNew mk8 mk7 mk6 mk5 mk4 mk3 mk2 mk1
  rw [show (15 : Int) + 5 * 0 + 1 = 16 by omega]
  simp (disch := omega) only [zg_zs, zg_zs_ne, zg_hd]
  rw [mShiftN_lo (by omega)]
theorem mNew_data (hg : 0 ≤ g) : zg (mNew z g d) g 17 = d := by
  unfold mNew mk8 mk7 mk6 mk5 mk4 mk3 mk2 mk1
  rw [show (15 : Int) + 5 * 0 + 2 = 17 by omega]
  simp (disch := omega) only [zg_zs, zg_zs_ne]
theorem mNew_read (hg : 0 ≤ g) : zg (mNew z g d) g 18 = 0 := by
  unfold mNew mk8 mk7 mk6 mk5 mk4 mk3 mk2 mk1
  rw [show (15 : Int) + 5 * 0 + 3 = 18 by omega]
  simp (disch := omega) only [zg_zs, zg_zs_ne]
theorem mNew_job (hg : 0 ≤ g) : zg (mNew z g d) g 19 = if z 1 = 1 then z 0 else 0 := by
  unfold mNew mk8 mk7 mk6 mk5 mk4 mk3 mk2 mk1
  rw [show (15 : Int) + 5 * 0 + 4 = 19 by omega]
  simp (disch := omega) only [zg_zs, zg_zs_ne, zs_hd, iU_ne]
  rw [mShiftN_hd hg (by omega), mShiftN_hd hg (by omega)]
theorem mNew_old {p k : Int} (hg : 0 ≤ g) (hp : 0 ≤ p ∧ p < zg z g 1) (hk : 0 ≤ k ∧ k < 5) : zg (mNew z g d) g (15 + 5 * (p + 1) + k) = zg z g (15 + 5 * p + k) := by
  unfold mNew mk8 mk7 mk6 mk5 mk4 mk3 mk2 mk1
  simp (disch := omega) only [zg_zs_ne, zg_hd]
  exact mShiftN_at hk hp.1 _ _ (by omega)
theorem mNew_g {g' k : Int} (hg : 0 ≤ g) (h : g' ≠ g) (hg' : 0 ≤ g') (hk : 0 ≤ k ∧ k < 60) (hm : zg z g 1 ≤ 8) : zg (mNew z g d) g' k = zg z g' k := by
  unfold mNew mk8 mk7 mk6 mk5 mk4 mk3 mk2 mk1
  simp (disch := omega) only [zg_zs_g, zg_hd]
  exact mShiftN_g h hk _ _ (by omega)
/-- a place of a group, and a kind -/
theorem split5 {k : Int} (h : 15 ≤ k ∧ k < 60) : ∃ p j : Int, k = 15 + 5 * p + j ∧ 0 ≤ p ∧ p ≤ 8 ∧ 0 ≤ j ∧ j < 5 := ⟨(k - 15) / 5, (k - 15) % 5, by omega, by omega, by omega, by omega, by omega⟩
theorem mNew_rest {k : Int} (hg : 0 ≤ g) (hm : 0 ≤ zg z g 1) (hk : 15 + 5 * (zg z g 1 + 1) ≤ k) : zg (mNew z g d) g k = zg z g k := by
  unfold mNew mk8 mk7 mk6 mk5 mk4 mk3 mk2 mk1
  simp (disch := omega) only [zg_zs_ne, zg_hd]
  exact mShiftN_hi _ _ (by omega)
theorem CZ_mNew (hz : CZ z) (hg : 0 ≤ g ∧ g ≤ 5) (hm : 0 ≤ zg z g 1 ∧ zg z g 1 ≤ 8) (hd : rg d) (h6 : rg (z 6 + 1)) (h2 : 0 ≤ zg z g 2 ∧ zg z g 2 ≤ 99) : CZ (mNew z g d) := by
  intro g' k hk
  by_cases e : g' = g
  · subst e
    by_cases h15 : k < 15
    · by_cases k1 : k = 1
      · rw [k1, mNew_1 hg.1]; omega
      · by_cases k2 : k = 2
        · rw [k2, mNew_2 hg.1]; omega
        · rw [mNew_k hg.1 (by omega)]; exact hz _ _ hk
    · obtain ⟨p, j, rfl, hp0, hp8, hj0, hj5⟩ := split5 (k := k) (by omega)
      by_cases p0 : p = 0
      · subst p0
        rcases (show j = 0 ∨ j = 1 ∨ j = 2 by omega) with rfl | rfl | rfl
        · rw [show (15 : Int) + 5 * 0 + 0 = 15 by omega, mNew_mark hg.1]; exact h6
        · rw [show (15 : Int) + 5 * 0 + 1 = 16 by omega, mNew_num hg.1]; omega
        · rw [show (15 : Int) + 5 * 0 + 2 = 17 by omega, mNew_data hg.1]; exact hd
      · by_cases pl : p ≤ zg z g' 1
        · have e1 : 15 + 5 * p + j = 15 + 5 * ((p - 1) + 1) + j := by omega
          rw [e1, mNew_old hg.1 (by omega) (by omega)]
          exact hz _ _ (by omega)
        · rw [mNew_rest hg.1 hm.1 (by omega)]; exact hz _ _ hk
  · rw [mNew_g hg.1 e hk.1 (by omega) hm.2]; exact hz _ _ hk
end
end
