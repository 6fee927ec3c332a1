-- ===== PART A: goes FIRST, ahead of the names: the tables' words, and 'selects' of the private methods out of them =====
/-- a private method of a class that the tables say can be made, by its rows of tables_1 -/
def lw_okq (q : MethodName × Nat) : Prop := (q.1.cls ≠ "java/lang/invoke/MethodHandle" ∧ q.1.cls ≠ "java/lang/invoke/VarHandle") ∧ Cond.instantiable q.1.cls q.2 ∈ tables_1 ∧ Cond.privateMethod q.1 ∈ tables_1 ∧ Cond.instanceMethod q.1 ∈ tables_1
theorem lw_p0 : lw_okq (⟨"GargoyleClose", "refuse", "(I)I"⟩, 14) := ⟨⟨by decide +kernel, by decide +kernel⟩, List.mem_of_getElem? (i := 21) (by decide +kernel), List.mem_of_getElem? (i := 371) (by decide +kernel), List.mem_of_getElem? (i := 372) (by decide +kernel)⟩
theorem lw_p1 : lw_okq (⟨"GargoyleClose$Reader", "take", "()V"⟩, 15) := ⟨⟨by decide +kernel, by decide +kernel⟩, List.mem_of_getElem? (i := 29) (by decide +kernel), List.mem_of_getElem? (i := 386) (by decide +kernel), List.mem_of_getElem? (i := 387) (by decide +kernel)⟩
theorem lw_p2 : lw_okq (⟨"GargoyleClose$Reader", "takeWord", "()V"⟩, 15) := ⟨⟨by decide +kernel, by decide +kernel⟩, List.mem_of_getElem? (i := 29) (by decide +kernel), List.mem_of_getElem? (i := 390) (by decide +kernel), List.mem_of_getElem? (i := 391) (by decide +kernel)⟩
theorem lw_p3 : lw_okq (⟨"GargoyleClose$Reader", "takeWhole", "()V"⟩, 15) := ⟨⟨by decide +kernel, by decide +kernel⟩, List.mem_of_getElem? (i := 29) (by decide +kernel), List.mem_of_getElem? (i := 395) (by decide +kernel), List.mem_of_getElem? (i := 396) (by decide +kernel)⟩
theorem lw_p4 : lw_okq (⟨"GargoyleClose$Reader", "readsLine", "()Z"⟩, 15) := ⟨⟨by decide +kernel, by decide +kernel⟩, List.mem_of_getElem? (i := 29) (by decide +kernel), List.mem_of_getElem? (i := 399) (by decide +kernel), List.mem_of_getElem? (i := 400) (by decide +kernel)⟩
theorem lw_p5 : lw_okq (⟨"GargoyleClose$Reader", "beginsLine", "()Z"⟩, 15) := ⟨⟨by decide +kernel, by decide +kernel⟩, List.mem_of_getElem? (i := 29) (by decide +kernel), List.mem_of_getElem? (i := 403) (by decide +kernel), List.mem_of_getElem? (i := 404) (by decide +kernel)⟩
theorem lw_p6 : lw_okq (⟨"GargoyleClose$Reader", "isWord", "(Ljava/lang/String;)Z"⟩, 15) := ⟨⟨by decide +kernel, by decide +kernel⟩, List.mem_of_getElem? (i := 29) (by decide +kernel), List.mem_of_getElem? (i := 408) (by decide +kernel), List.mem_of_getElem? (i := 409) (by decide +kernel)⟩
theorem lw_p7 : lw_okq (⟨"GargoyleClose$Reader", "fails", "(I)Z"⟩, 15) := ⟨⟨by decide +kernel, by decide +kernel⟩, List.mem_of_getElem? (i := 29) (by decide +kernel), List.mem_of_getElem? (i := 466) (by decide +kernel), List.mem_of_getElem? (i := 467) (by decide +kernel)⟩
theorem lw_p8 : lw_okq (⟨"GargoyleClose$Reader", "readsClose", "()Z"⟩, 15) := ⟨⟨by decide +kernel, by decide +kernel⟩, List.mem_of_getElem? (i := 29) (by decide +kernel), List.mem_of_getElem? (i := 470) (by decide +kernel), List.mem_of_getElem? (i := 471) (by decide +kernel)⟩
theorem lw_p9 : lw_okq (⟨"GargoyleClose$Reader", "labelled", "(Ljava/lang/String;II)Z"⟩, 15) := ⟨⟨by decide +kernel, by decide +kernel⟩, List.mem_of_getElem? (i := 29) (by decide +kernel), List.mem_of_getElem? (i := 475) (by decide +kernel), List.mem_of_getElem? (i := 476) (by decide +kernel)⟩
theorem lw_p10 : lw_okq (⟨"GargoyleClose$Reader", "bounded", "(II)Z"⟩, 15) := ⟨⟨by decide +kernel, by decide +kernel⟩, List.mem_of_getElem? (i := 29) (by decide +kernel), List.mem_of_getElem? (i := 479) (by decide +kernel), List.mem_of_getElem? (i := 480) (by decide +kernel)⟩
theorem lw_p11 : lw_okq (⟨"GargoyleClose$Reader", "readsWall", "()Z"⟩, 15) := ⟨⟨by decide +kernel, by decide +kernel⟩, List.mem_of_getElem? (i := 29) (by decide +kernel), List.mem_of_getElem? (i := 488) (by decide +kernel), List.mem_of_getElem? (i := 489) (by decide +kernel)⟩
theorem lw_p12 : lw_okq (⟨"GargoyleClose$Reader", "readsFace", "()Z"⟩, 15) := ⟨⟨by decide +kernel, by decide +kernel⟩, List.mem_of_getElem? (i := 29) (by decide +kernel), List.mem_of_getElem? (i := 510) (by decide +kernel), List.mem_of_getElem? (i := 511) (by decide +kernel)⟩
theorem lw_p13 : lw_okq (⟨"GargoyleClose$Reader", "tells", "(II)Z"⟩, 15) := ⟨⟨by decide +kernel, by decide +kernel⟩, List.mem_of_getElem? (i := 29) (by decide +kernel), List.mem_of_getElem? (i := 514) (by decide +kernel), List.mem_of_getElem? (i := 515) (by decide +kernel)⟩
theorem lw_p14 : lw_okq (⟨"GargoyleClose$Reader", "nameAt", "()I"⟩, 15) := ⟨⟨by decide +kernel, by decide +kernel⟩, List.mem_of_getElem? (i := 29) (by decide +kernel), List.mem_of_getElem? (i := 518) (by decide +kernel), List.mem_of_getElem? (i := 519) (by decide +kernel)⟩
theorem lw_p15 : lw_okq (⟨"GargoyleClose$Reader", "kindHere", "()I"⟩, 15) := ⟨⟨by decide +kernel, by decide +kernel⟩, List.mem_of_getElem? (i := 29) (by decide +kernel), List.mem_of_getElem? (i := 522) (by decide +kernel), List.mem_of_getElem? (i := 523) (by decide +kernel)⟩
def lw_privs_1 : List (MethodName × Nat) := [(⟨"GargoyleClose", "refuse", "(I)I"⟩, 14), (⟨"GargoyleClose$Reader", "take", "()V"⟩, 15), (⟨"GargoyleClose$Reader", "takeWord", "()V"⟩, 15), (⟨"GargoyleClose$Reader", "takeWhole", "()V"⟩, 15), (⟨"GargoyleClose$Reader", "readsLine", "()Z"⟩, 15), (⟨"GargoyleClose$Reader", "beginsLine", "()Z"⟩, 15), (⟨"GargoyleClose$Reader", "isWord", "(Ljava/lang/String;)Z"⟩, 15), (⟨"GargoyleClose$Reader", "fails", "(I)Z"⟩, 15), (⟨"GargoyleClose$Reader", "readsClose", "()Z"⟩, 15), (⟨"GargoyleClose$Reader", "labelled", "(Ljava/lang/String;II)Z"⟩, 15), (⟨"GargoyleClose$Reader", "bounded", "(II)Z"⟩, 15), (⟨"GargoyleClose$Reader", "readsWall", "()Z"⟩, 15), (⟨"GargoyleClose$Reader", "readsFace", "()Z"⟩, 15), (⟨"GargoyleClose$Reader", "tells", "(II)Z"⟩, 15), (⟨"GargoyleClose$Reader", "nameAt", "()I"⟩, 15), (⟨"GargoyleClose$Reader", "kindHere", "()I"⟩, 15)]
theorem lw_r1 : ∀ q ∈ lw_privs_1, lw_okq q := List.forall_mem_cons.mpr ⟨lw_p0, List.forall_mem_cons.mpr ⟨lw_p1, List.forall_mem_cons.mpr ⟨lw_p2, List.forall_mem_cons.mpr ⟨lw_p3, List.forall_mem_cons.mpr ⟨lw_p4, List.forall_mem_cons.mpr ⟨lw_p5, List.forall_mem_cons.mpr ⟨lw_p6, List.forall_mem_cons.mpr ⟨lw_p7, List.forall_mem_cons.mpr ⟨lw_p8, List.forall_mem_cons.mpr ⟨lw_p9, List.forall_mem_cons.mpr ⟨lw_p10, List.forall_mem_cons.mpr ⟨lw_p11, List.forall_mem_cons.mpr ⟨lw_p12, List.forall_mem_cons.mpr ⟨lw_p13, List.forall_mem_cons.mpr ⟨lw_p14, List.forall_mem_cons.mpr ⟨lw_p15, fun _ h => absurd h List.not_mem_nil⟩⟩⟩⟩⟩⟩⟩⟩⟩⟩⟩⟩⟩⟩⟩⟩
theorem lw_p16 : lw_okq (⟨"GargoyleClose$Reader", "readsCanon", "()Z"⟩, 15) := ⟨⟨by decide +kernel, by decide +kernel⟩, List.mem_of_getElem? (i := 29) (by decide +kernel), List.mem_of_getElem? (i := 536) (by decide +kernel), List.mem_of_getElem? (i := 537) (by decide +kernel)⟩
theorem lw_p17 : lw_okq (⟨"GargoyleClose$Reader", "named", "(I)I"⟩, 15) := ⟨⟨by decide +kernel, by decide +kernel⟩, List.mem_of_getElem? (i := 29) (by decide +kernel), List.mem_of_getElem? (i := 540) (by decide +kernel), List.mem_of_getElem? (i := 541) (by decide +kernel)⟩
theorem lw_p18 : lw_okq (⟨"GargoyleClose$Reader", "readsWalker", "()Z"⟩, 15) := ⟨⟨by decide +kernel, by decide +kernel⟩, List.mem_of_getElem? (i := 29) (by decide +kernel), List.mem_of_getElem? (i := 550) (by decide +kernel), List.mem_of_getElem? (i := 551) (by decide +kernel)⟩
theorem lw_p19 : lw_okq (⟨"GargoyleClose$Reader", "readsUnsure", "()Z"⟩, 15) := ⟨⟨by decide +kernel, by decide +kernel⟩, List.mem_of_getElem? (i := 29) (by decide +kernel), List.mem_of_getElem? (i := 556) (by decide +kernel), List.mem_of_getElem? (i := 557) (by decide +kernel)⟩
theorem lw_p20 : lw_okq (⟨"GargoyleClose$Reader", "readsDropped", "()Z"⟩, 15) := ⟨⟨by decide +kernel, by decide +kernel⟩, List.mem_of_getElem? (i := 29) (by decide +kernel), List.mem_of_getElem? (i := 564) (by decide +kernel), List.mem_of_getElem? (i := 565) (by decide +kernel)⟩
theorem lw_p21 : lw_okq (⟨"GargoyleClose", "answer", "(I)I"⟩, 14) := ⟨⟨by decide +kernel, by decide +kernel⟩, List.mem_of_getElem? (i := 21) (by decide +kernel), List.mem_of_getElem? (i := 576) (by decide +kernel), List.mem_of_getElem? (i := 577) (by decide +kernel)⟩
theorem lw_p22 : lw_okq (⟨"GargoyleClose", "isFace", "(I)Z"⟩, 14) := ⟨⟨by decide +kernel, by decide +kernel⟩, List.mem_of_getElem? (i := 21) (by decide +kernel), List.mem_of_getElem? (i := 592) (by decide +kernel), List.mem_of_getElem? (i := 593) (by decide +kernel)⟩
theorem lw_p23 : lw_okq (⟨"GargoyleClose", "canonOf", "(I)I"⟩, 14) := ⟨⟨by decide +kernel, by decide +kernel⟩, List.mem_of_getElem? (i := 21) (by decide +kernel), List.mem_of_getElem? (i := 600) (by decide +kernel), List.mem_of_getElem? (i := 601) (by decide +kernel)⟩
theorem lw_p24 : lw_okq (⟨"GargoyleClose", "isCanon", "(I)Z"⟩, 14) := ⟨⟨by decide +kernel, by decide +kernel⟩, List.mem_of_getElem? (i := 21) (by decide +kernel), List.mem_of_getElem? (i := 608) (by decide +kernel), List.mem_of_getElem? (i := 609) (by decide +kernel)⟩
theorem lw_p25 : lw_okq (⟨"GargoyleClose", "isCell", "(I)Z"⟩, 14) := ⟨⟨by decide +kernel, by decide +kernel⟩, List.mem_of_getElem? (i := 21) (by decide +kernel), List.mem_of_getElem? (i := 616) (by decide +kernel), List.mem_of_getElem? (i := 617) (by decide +kernel)⟩
theorem lw_p26 : lw_okq (⟨"GargoyleClose", "hasClose", "()Z"⟩, 14) := ⟨⟨by decide +kernel, by decide +kernel⟩, List.mem_of_getElem? (i := 21) (by decide +kernel), List.mem_of_getElem? (i := 636) (by decide +kernel), List.mem_of_getElem? (i := 637) (by decide +kernel)⟩
theorem lw_p27 : lw_okq (⟨"GargoyleClose", "canFollow", "(II)Z"⟩, 14) := ⟨⟨by decide +kernel, by decide +kernel⟩, List.mem_of_getElem? (i := 21) (by decide +kernel), List.mem_of_getElem? (i := 644) (by decide +kernel), List.mem_of_getElem? (i := 645) (by decide +kernel)⟩
theorem lw_p28 : lw_okq (⟨"GargoyleClose", "numberFits", "(III)Z"⟩, 14) := ⟨⟨by decide +kernel, by decide +kernel⟩, List.mem_of_getElem? (i := 21) (by decide +kernel), List.mem_of_getElem? (i := 648) (by decide +kernel), List.mem_of_getElem? (i := 649) (by decide +kernel)⟩
theorem lw_p29 : lw_okq (⟨"GargoyleClose", "follow", "(II)V"⟩, 14) := ⟨⟨by decide +kernel, by decide +kernel⟩, List.mem_of_getElem? (i := 21) (by decide +kernel), List.mem_of_getElem? (i := 653) (by decide +kernel), List.mem_of_getElem? (i := 654) (by decide +kernel)⟩
theorem lw_p30 : lw_okq (⟨"GargoyleClose", "startNow", "(II)V"⟩, 14) := ⟨⟨by decide +kernel, by decide +kernel⟩, List.mem_of_getElem? (i := 21) (by decide +kernel), List.mem_of_getElem? (i := 657) (by decide +kernel), List.mem_of_getElem? (i := 658) (by decide +kernel)⟩
theorem lw_p31 : lw_okq (⟨"GargoyleClose", "canLookAhead", "(III)Z"⟩, 14) := ⟨⟨by decide +kernel, by decide +kernel⟩, List.mem_of_getElem? (i := 21) (by decide +kernel), List.mem_of_getElem? (i := 698) (by decide +kernel), List.mem_of_getElem? (i := 699) (by decide +kernel)⟩
def lw_privs_2 : List (MethodName × Nat) := [(⟨"GargoyleClose$Reader", "readsCanon", "()Z"⟩, 15), (⟨"GargoyleClose$Reader", "named", "(I)I"⟩, 15), (⟨"GargoyleClose$Reader", "readsWalker", "()Z"⟩, 15), (⟨"GargoyleClose$Reader", "readsUnsure", "()Z"⟩, 15), (⟨"GargoyleClose$Reader", "readsDropped", "()Z"⟩, 15), (⟨"GargoyleClose", "answer", "(I)I"⟩, 14), (⟨"GargoyleClose", "isFace", "(I)Z"⟩, 14), (⟨"GargoyleClose", "canonOf", "(I)I"⟩, 14), (⟨"GargoyleClose", "isCanon", "(I)Z"⟩, 14), (⟨"GargoyleClose", "isCell", "(I)Z"⟩, 14), (⟨"GargoyleClose", "hasClose", "()Z"⟩, 14), (⟨"GargoyleClose", "canFollow", "(II)Z"⟩, 14), (⟨"GargoyleClose", "numberFits", "(III)Z"⟩, 14), (⟨"GargoyleClose", "follow", "(II)V"⟩, 14), (⟨"GargoyleClose", "startNow", "(II)V"⟩, 14), (⟨"GargoyleClose", "canLookAhead", "(III)Z"⟩, 14)]
theorem lw_r2 : ∀ q ∈ lw_privs_2, lw_okq q := List.forall_mem_cons.mpr ⟨lw_p16, List.forall_mem_cons.mpr ⟨lw_p17, List.forall_mem_cons.mpr ⟨lw_p18, List.forall_mem_cons.mpr ⟨lw_p19, List.forall_mem_cons.mpr ⟨lw_p20, List.forall_mem_cons.mpr ⟨lw_p21, List.forall_mem_cons.mpr ⟨lw_p22, List.forall_mem_cons.mpr ⟨lw_p23, List.forall_mem_cons.mpr ⟨lw_p24, List.forall_mem_cons.mpr ⟨lw_p25, List.forall_mem_cons.mpr ⟨lw_p26, List.forall_mem_cons.mpr ⟨lw_p27, List.forall_mem_cons.mpr ⟨lw_p28, List.forall_mem_cons.mpr ⟨lw_p29, List.forall_mem_cons.mpr ⟨lw_p30, List.forall_mem_cons.mpr ⟨lw_p31, fun _ h => absurd h List.not_mem_nil⟩⟩⟩⟩⟩⟩⟩⟩⟩⟩⟩⟩⟩⟩⟩⟩
theorem lw_p32 : lw_okq (⟨"GargoyleClose", "foretellWet", "(I)V"⟩, 14) := ⟨⟨by decide +kernel, by decide +kernel⟩, List.mem_of_getElem? (i := 21) (by decide +kernel), List.mem_of_getElem? (i := 702) (by decide +kernel), List.mem_of_getElem? (i := 703) (by decide +kernel)⟩
theorem lw_p33 : lw_okq (⟨"GargoyleClose", "wetDaysOf", "(II)I"⟩, 14) := ⟨⟨by decide +kernel, by decide +kernel⟩, List.mem_of_getElem? (i := 21) (by decide +kernel), List.mem_of_getElem? (i := 710) (by decide +kernel), List.mem_of_getElem? (i := 711) (by decide +kernel)⟩
theorem lw_p34 : lw_okq (⟨"GargoyleClose", "couldHave", "(II)Z"⟩, 14) := ⟨⟨by decide +kernel, by decide +kernel⟩, List.mem_of_getElem? (i := 21) (by decide +kernel), List.mem_of_getElem? (i := 737) (by decide +kernel), List.mem_of_getElem? (i := 738) (by decide +kernel)⟩
theorem lw_p35 : lw_okq (⟨"GargoyleClose", "costIf", "(III)I"⟩, 14) := ⟨⟨by decide +kernel, by decide +kernel⟩, List.mem_of_getElem? (i := 21) (by decide +kernel), List.mem_of_getElem? (i := 741) (by decide +kernel), List.mem_of_getElem? (i := 742) (by decide +kernel)⟩
theorem lw_p36 : lw_okq (⟨"GargoyleClose", "costOf", "(III)I"⟩, 14) := ⟨⟨by decide +kernel, by decide +kernel⟩, List.mem_of_getElem? (i := 21) (by decide +kernel), List.mem_of_getElem? (i := 745) (by decide +kernel), List.mem_of_getElem? (i := 746) (by decide +kernel)⟩
theorem lw_p37 : lw_okq (⟨"GargoyleClose", "tooFewFaces", "()Z"⟩, 14) := ⟨⟨by decide +kernel, by decide +kernel⟩, List.mem_of_getElem? (i := 21) (by decide +kernel), List.mem_of_getElem? (i := 757) (by decide +kernel), List.mem_of_getElem? (i := 758) (by decide +kernel)⟩
theorem lw_p38 : lw_okq (⟨"GargoyleClose", "makeMatch", "(I)V"⟩, 14) := ⟨⟨by decide +kernel, by decide +kernel⟩, List.mem_of_getElem? (i := 21) (by decide +kernel), List.mem_of_getElem? (i := 761) (by decide +kernel), List.mem_of_getElem? (i := 762) (by decide +kernel)⟩
theorem lw_p39 : lw_okq (⟨"GargoyleClose$Matching", "place", "(III)V"⟩, 9) := ⟨⟨by decide +kernel, by decide +kernel⟩, List.mem_of_getElem? (i := 278) (by decide +kernel), List.mem_of_getElem? (i := 782) (by decide +kernel), List.mem_of_getElem? (i := 783) (by decide +kernel)⟩
theorem lw_p40 : lw_okq (⟨"GargoyleClose", "canWalk", "(II)Z"⟩, 14) := ⟨⟨by decide +kernel, by decide +kernel⟩, List.mem_of_getElem? (i := 21) (by decide +kernel), List.mem_of_getElem? (i := 808) (by decide +kernel), List.mem_of_getElem? (i := 809) (by decide +kernel)⟩
theorem lw_p41 : lw_okq (⟨"GargoyleClose", "isWalker", "(I)Z"⟩, 14) := ⟨⟨by decide +kernel, by decide +kernel⟩, List.mem_of_getElem? (i := 21) (by decide +kernel), List.mem_of_getElem? (i := 812) (by decide +kernel), List.mem_of_getElem? (i := 813) (by decide +kernel)⟩
theorem lw_p42 : lw_okq (⟨"GargoyleClose", "wayCost", "(II)I"⟩, 14) := ⟨⟨by decide +kernel, by decide +kernel⟩, List.mem_of_getElem? (i := 21) (by decide +kernel), List.mem_of_getElem? (i := 816) (by decide +kernel), List.mem_of_getElem? (i := 817) (by decide +kernel)⟩
theorem lw_p43 : lw_okq (⟨"GargoyleClose$Ways", "weight", "(I)I"⟩, 2) := ⟨⟨by decide +kernel, by decide +kernel⟩, List.mem_of_getElem? (i := 264) (by decide +kernel), List.mem_of_getElem? (i := 825) (by decide +kernel), List.mem_of_getElem? (i := 826) (by decide +kernel)⟩
theorem lw_p44 : lw_okq (⟨"GargoyleClose$Ways", "leastOnward", "(LGargoyleClose$Plan;I)I"⟩, 2) := ⟨⟨by decide +kernel, by decide +kernel⟩, List.mem_of_getElem? (i := 264) (by decide +kernel), List.mem_of_getElem? (i := 830) (by decide +kernel), List.mem_of_getElem? (i := 831) (by decide +kernel)⟩
theorem lw_p45 : lw_okq (⟨"GargoyleClose$Ways", "next", "(LGargoyleClose$Plan;II)I"⟩, 2) := ⟨⟨by decide +kernel, by decide +kernel⟩, List.mem_of_getElem? (i := 264) (by decide +kernel), List.mem_of_getElem? (i := 834) (by decide +kernel), List.mem_of_getElem? (i := 835) (by decide +kernel)⟩
theorem lw_p46 : lw_okq (⟨"GargoyleClose$Ways", "firstStep", "(LGargoyleClose$Plan;I)I"⟩, 2) := ⟨⟨by decide +kernel, by decide +kernel⟩, List.mem_of_getElem? (i := 264) (by decide +kernel), List.mem_of_getElem? (i := 854) (by decide +kernel), List.mem_of_getElem? (i := 855) (by decide +kernel)⟩
theorem lw_p47 : lw_okq (⟨"GargoyleClose", "stepsTogether", "(I)I"⟩, 14) := ⟨⟨by decide +kernel, by decide +kernel⟩, List.mem_of_getElem? (i := 21) (by decide +kernel), List.mem_of_getElem? (i := 866) (by decide +kernel), List.mem_of_getElem? (i := 867) (by decide +kernel)⟩
def lw_privs_3 : List (MethodName × Nat) := [(⟨"GargoyleClose", "foretellWet", "(I)V"⟩, 14), (⟨"GargoyleClose", "wetDaysOf", "(II)I"⟩, 14), (⟨"GargoyleClose", "couldHave", "(II)Z"⟩, 14), (⟨"GargoyleClose", "costIf", "(III)I"⟩, 14), (⟨"GargoyleClose", "costOf", "(III)I"⟩, 14), (⟨"GargoyleClose", "tooFewFaces", "()Z"⟩, 14), (⟨"GargoyleClose", "makeMatch", "(I)V"⟩, 14), (⟨"GargoyleClose$Matching", "place", "(III)V"⟩, 9), (⟨"GargoyleClose", "canWalk", "(II)Z"⟩, 14), (⟨"GargoyleClose", "isWalker", "(I)Z"⟩, 14), (⟨"GargoyleClose", "wayCost", "(II)I"⟩, 14), (⟨"GargoyleClose$Ways", "weight", "(I)I"⟩, 2), (⟨"GargoyleClose$Ways", "leastOnward", "(LGargoyleClose$Plan;I)I"⟩, 2), (⟨"GargoyleClose$Ways", "next", "(LGargoyleClose$Plan;II)I"⟩, 2), (⟨"GargoyleClose$Ways", "firstStep", "(LGargoyleClose$Plan;I)I"⟩, 2), (⟨"GargoyleClose", "stepsTogether", "(I)I"⟩, 14)]
theorem lw_r3 : ∀ q ∈ lw_privs_3, lw_okq q := List.forall_mem_cons.mpr ⟨lw_p32, List.forall_mem_cons.mpr ⟨lw_p33, List.forall_mem_cons.mpr ⟨lw_p34, List.forall_mem_cons.mpr ⟨lw_p35, List.forall_mem_cons.mpr ⟨lw_p36, List.forall_mem_cons.mpr ⟨lw_p37, List.forall_mem_cons.mpr ⟨lw_p38, List.forall_mem_cons.mpr ⟨lw_p39, List.forall_mem_cons.mpr ⟨lw_p40, List.forall_mem_cons.mpr ⟨lw_p41, List.forall_mem_cons.mpr ⟨lw_p42, List.forall_mem_cons.mpr ⟨lw_p43, List.forall_mem_cons.mpr ⟨lw_p44, List.forall_mem_cons.mpr ⟨lw_p45, List.forall_mem_cons.mpr ⟨lw_p46, List.forall_mem_cons.mpr ⟨lw_p47, fun _ h => absurd h List.not_mem_nil⟩⟩⟩⟩⟩⟩⟩⟩⟩⟩⟩⟩⟩⟩⟩⟩
theorem lw_p48 : lw_okq (⟨"GargoyleClose", "fittingSets", "()I"⟩, 14) := ⟨⟨by decide +kernel, by decide +kernel⟩, List.mem_of_getElem? (i := 21) (by decide +kernel), List.mem_of_getElem? (i := 874) (by decide +kernel), List.mem_of_getElem? (i := 875) (by decide +kernel)⟩
theorem lw_p49 : lw_okq (⟨"GargoyleClose", "setFits", "(I)Z"⟩, 14) := ⟨⟨by decide +kernel, by decide +kernel⟩, List.mem_of_getElem? (i := 21) (by decide +kernel), List.mem_of_getElem? (i := 878) (by decide +kernel), List.mem_of_getElem? (i := 879) (by decide +kernel)⟩
theorem lw_p50 : lw_okq (⟨"GargoyleClose", "dropFits", "(II)Z"⟩, 14) := ⟨⟨by decide +kernel, by decide +kernel⟩, List.mem_of_getElem? (i := 21) (by decide +kernel), List.mem_of_getElem? (i := 882) (by decide +kernel), List.mem_of_getElem? (i := 883) (by decide +kernel)⟩
theorem lw_p51 : lw_okq (⟨"GargoyleClose", "bestToAsk", "(I)I"⟩, 14) := ⟨⟨by decide +kernel, by decide +kernel⟩, List.mem_of_getElem? (i := 21) (by decide +kernel), List.mem_of_getElem? (i := 912) (by decide +kernel), List.mem_of_getElem? (i := 913) (by decide +kernel)⟩
theorem lw_p52 : lw_okq (⟨"GargoyleClose", "canGame", "(I)Z"⟩, 14) := ⟨⟨by decide +kernel, by decide +kernel⟩, List.mem_of_getElem? (i := 21) (by decide +kernel), List.mem_of_getElem? (i := 931) (by decide +kernel), List.mem_of_getElem? (i := 932) (by decide +kernel)⟩
theorem lw_p53 : lw_okq (⟨"GargoyleClose", "canChance", "(II)Z"⟩, 14) := ⟨⟨by decide +kernel, by decide +kernel⟩, List.mem_of_getElem? (i := 21) (by decide +kernel), List.mem_of_getElem? (i := 953) (by decide +kernel), List.mem_of_getElem? (i := 954) (by decide +kernel)⟩
theorem lw_p54 : lw_okq (⟨"GargoyleClose", "chance", "(IIZZ)J"⟩, 14) := ⟨⟨by decide +kernel, by decide +kernel⟩, List.mem_of_getElem? (i := 21) (by decide +kernel), List.mem_of_getElem? (i := 958) (by decide +kernel), List.mem_of_getElem? (i := 959) (by decide +kernel)⟩
theorem lw_p55 : lw_okq (⟨"GargoyleClose", "isCalm", "(I)Z"⟩, 14) := ⟨⟨by decide +kernel, by decide +kernel⟩, List.mem_of_getElem? (i := 21) (by decide +kernel), List.mem_of_getElem? (i := 984) (by decide +kernel), List.mem_of_getElem? (i := 985) (by decide +kernel)⟩
theorem lw_p56 : lw_okq (⟨"GargoyleClose", "firstDropBySeed", "(III)I"⟩, 14) := ⟨⟨by decide +kernel, by decide +kernel⟩, List.mem_of_getElem? (i := 21) (by decide +kernel), List.mem_of_getElem? (i := 992) (by decide +kernel), List.mem_of_getElem? (i := 993) (by decide +kernel)⟩
theorem lw_p57 : lw_okq (⟨"GargoyleClose", "keep", "()V"⟩, 14) := ⟨⟨by decide +kernel, by decide +kernel⟩, List.mem_of_getElem? (i := 21) (by decide +kernel), List.mem_of_getElem? (i := 1000) (by decide +kernel), List.mem_of_getElem? (i := 1001) (by decide +kernel)⟩
theorem lw_p58 : lw_okq (⟨"java/lang/Throwable", "fillInStackTrace", "(I)Ljava/lang/Throwable;"⟩, 6) := ⟨⟨by decide +kernel, by decide +kernel⟩, List.mem_of_getElem? (i := 1090) (by decide +kernel), List.mem_of_getElem? (i := 1088) (by decide +kernel), List.mem_of_getElem? (i := 1089) (by decide +kernel)⟩
theorem lw_p59 : lw_okq (⟨"GargoyleCloseModel", "good", "()V"⟩, 44) := ⟨⟨by decide +kernel, by decide +kernel⟩, List.mem_of_getElem? (i := 1115) (by decide +kernel), List.mem_of_getElem? (i := 1262) (by decide +kernel), List.mem_of_getElem? (i := 1263) (by decide +kernel)⟩
theorem lw_p60 : lw_okq (⟨"GargoyleCloseModel", "no", "(I)I"⟩, 44) := ⟨⟨by decide +kernel, by decide +kernel⟩, List.mem_of_getElem? (i := 1115) (by decide +kernel), List.mem_of_getElem? (i := 1269) (by decide +kernel), List.mem_of_getElem? (i := 1270) (by decide +kernel)⟩
theorem lw_p61 : lw_okq (⟨"GargoyleCloseModel", "next", "()V"⟩, 44) := ⟨⟨by decide +kernel, by decide +kernel⟩, List.mem_of_getElem? (i := 1115) (by decide +kernel), List.mem_of_getElem? (i := 1273) (by decide +kernel), List.mem_of_getElem? (i := 1274) (by decide +kernel)⟩
theorem lw_p62 : lw_okq (⟨"GargoyleCloseModel", "see", "(I)I"⟩, 44) := ⟨⟨by decide +kernel, by decide +kernel⟩, List.mem_of_getElem? (i := 1115) (by decide +kernel), List.mem_of_getElem? (i := 1277) (by decide +kernel), List.mem_of_getElem? (i := 1278) (by decide +kernel)⟩
theorem lw_p63 : lw_okq (⟨"GargoyleCloseModel", "readLine", "()V"⟩, 44) := ⟨⟨by decide +kernel, by decide +kernel⟩, List.mem_of_getElem? (i := 1115) (by decide +kernel), List.mem_of_getElem? (i := 1287) (by decide +kernel), List.mem_of_getElem? (i := 1288) (by decide +kernel)⟩
def lw_privs_4 : List (MethodName × Nat) := [(⟨"GargoyleClose", "fittingSets", "()I"⟩, 14), (⟨"GargoyleClose", "setFits", "(I)Z"⟩, 14), (⟨"GargoyleClose", "dropFits", "(II)Z"⟩, 14), (⟨"GargoyleClose", "bestToAsk", "(I)I"⟩, 14), (⟨"GargoyleClose", "canGame", "(I)Z"⟩, 14), (⟨"GargoyleClose", "canChance", "(II)Z"⟩, 14), (⟨"GargoyleClose", "chance", "(IIZZ)J"⟩, 14), (⟨"GargoyleClose", "isCalm", "(I)Z"⟩, 14), (⟨"GargoyleClose", "firstDropBySeed", "(III)I"⟩, 14), (⟨"GargoyleClose", "keep", "()V"⟩, 14), (⟨"java/lang/Throwable", "fillInStackTrace", "(I)Ljava/lang/Throwable;"⟩, 6), (⟨"GargoyleCloseModel", "good", "()V"⟩, 44), (⟨"GargoyleCloseModel", "no", "(I)I"⟩, 44), (⟨"GargoyleCloseModel", "next", "()V"⟩, 44), (⟨"GargoyleCloseModel", "see", "(I)I"⟩, 44), (⟨"GargoyleCloseModel", "readLine", "()V"⟩, 44)]
theorem lw_r4 : ∀ q ∈ lw_privs_4, lw_okq q := List.forall_mem_cons.mpr ⟨lw_p48, List.forall_mem_cons.mpr ⟨lw_p49, List.forall_mem_cons.mpr ⟨lw_p50, List.forall_mem_cons.mpr ⟨lw_p51, List.forall_mem_cons.mpr ⟨lw_p52, List.forall_mem_cons.mpr ⟨lw_p53, List.forall_mem_cons.mpr ⟨lw_p54, List.forall_mem_cons.mpr ⟨lw_p55, List.forall_mem_cons.mpr ⟨lw_p56, List.forall_mem_cons.mpr ⟨lw_p57, List.forall_mem_cons.mpr ⟨lw_p58, List.forall_mem_cons.mpr ⟨lw_p59, List.forall_mem_cons.mpr ⟨lw_p60, List.forall_mem_cons.mpr ⟨lw_p61, List.forall_mem_cons.mpr ⟨lw_p62, List.forall_mem_cons.mpr ⟨lw_p63, fun _ h => absurd h List.not_mem_nil⟩⟩⟩⟩⟩⟩⟩⟩⟩⟩⟩⟩⟩⟩⟩⟩
theorem lw_p64 : lw_okq (⟨"GargoyleCloseModel", "isWord", "(Ljava/lang/String;)Z"⟩, 44) := ⟨⟨by decide +kernel, by decide +kernel⟩, List.mem_of_getElem? (i := 1115) (by decide +kernel), List.mem_of_getElem? (i := 1292) (by decide +kernel), List.mem_of_getElem? (i := 1293) (by decide +kernel)⟩
theorem lw_p65 : lw_okq (⟨"GargoyleCloseModel", "closeLine", "()V"⟩, 44) := ⟨⟨by decide +kernel, by decide +kernel⟩, List.mem_of_getElem? (i := 1115) (by decide +kernel), List.mem_of_getElem? (i := 1298) (by decide +kernel), List.mem_of_getElem? (i := 1299) (by decide +kernel)⟩
theorem lw_p66 : lw_okq (⟨"GargoyleCloseModel", "wrong", "(II)V"⟩, 44) := ⟨⟨by decide +kernel, by decide +kernel⟩, List.mem_of_getElem? (i := 1115) (by decide +kernel), List.mem_of_getElem? (i := 1302) (by decide +kernel), List.mem_of_getElem? (i := 1303) (by decide +kernel)⟩
theorem lw_p67 : lw_okq (⟨"GargoyleCloseModel", "after", "(Ljava/lang/String;II)I"⟩, 44) := ⟨⟨by decide +kernel, by decide +kernel⟩, List.mem_of_getElem? (i := 1115) (by decide +kernel), List.mem_of_getElem? (i := 1307) (by decide +kernel), List.mem_of_getElem? (i := 1308) (by decide +kernel)⟩
theorem lw_p68 : lw_okq (⟨"GargoyleCloseModel", "must", "(Ljava/lang/String;)V"⟩, 44) := ⟨⟨by decide +kernel, by decide +kernel⟩, List.mem_of_getElem? (i := 1115) (by decide +kernel), List.mem_of_getElem? (i := 1311) (by decide +kernel), List.mem_of_getElem? (i := 1312) (by decide +kernel)⟩
theorem lw_p69 : lw_okq (⟨"GargoyleCloseModel", "takesWord", "(Ljava/lang/String;)Z"⟩, 44) := ⟨⟨by decide +kernel, by decide +kernel⟩, List.mem_of_getElem? (i := 1115) (by decide +kernel), List.mem_of_getElem? (i := 1315) (by decide +kernel), List.mem_of_getElem? (i := 1316) (by decide +kernel)⟩
theorem lw_p70 : lw_okq (⟨"GargoyleCloseModel", "number", "(II)I"⟩, 44) := ⟨⟨by decide +kernel, by decide +kernel⟩, List.mem_of_getElem? (i := 1115) (by decide +kernel), List.mem_of_getElem? (i := 1319) (by decide +kernel), List.mem_of_getElem? (i := 1320) (by decide +kernel)⟩
theorem lw_p71 : lw_okq (⟨"GargoyleCloseModel", "numberHere", "(II)I"⟩, 44) := ⟨⟨by decide +kernel, by decide +kernel⟩, List.mem_of_getElem? (i := 1115) (by decide +kernel), List.mem_of_getElem? (i := 1323) (by decide +kernel), List.mem_of_getElem? (i := 1324) (by decide +kernel)⟩
theorem lw_p72 : lw_okq (⟨"GargoyleCloseModel", "pass", "()V"⟩, 44) := ⟨⟨by decide +kernel, by decide +kernel⟩, List.mem_of_getElem? (i := 1115) (by decide +kernel), List.mem_of_getElem? (i := 1327) (by decide +kernel), List.mem_of_getElem? (i := 1328) (by decide +kernel)⟩
theorem lw_p73 : lw_okq (⟨"GargoyleCloseModel", "begins", "(Ljava/lang/String;Z)Z"⟩, 44) := ⟨⟨by decide +kernel, by decide +kernel⟩, List.mem_of_getElem? (i := 1115) (by decide +kernel), List.mem_of_getElem? (i := 1334) (by decide +kernel), List.mem_of_getElem? (i := 1335) (by decide +kernel)⟩
theorem lw_p74 : lw_okq (⟨"GargoyleCloseModel", "wallLine", "()V"⟩, 44) := ⟨⟨by decide +kernel, by decide +kernel⟩, List.mem_of_getElem? (i := 1115) (by decide +kernel), List.mem_of_getElem? (i := 1338) (by decide +kernel), List.mem_of_getElem? (i := 1339) (by decide +kernel)⟩
theorem lw_p75 : lw_okq (⟨"GargoyleCloseModel", "cellHere", "()I"⟩, 44) := ⟨⟨by decide +kernel, by decide +kernel⟩, List.mem_of_getElem? (i := 1115) (by decide +kernel), List.mem_of_getElem? (i := 1342) (by decide +kernel), List.mem_of_getElem? (i := 1343) (by decide +kernel)⟩
theorem lw_p76 : lw_okq (⟨"GargoyleCloseModel", "faceLine", "()V"⟩, 44) := ⟨⟨by decide +kernel, by decide +kernel⟩, List.mem_of_getElem? (i := 1115) (by decide +kernel), List.mem_of_getElem? (i := 1350) (by decide +kernel), List.mem_of_getElem? (i := 1351) (by decide +kernel)⟩
theorem lw_p77 : lw_okq (⟨"GargoyleCloseModel", "newName", "(I)V"⟩, 44) := ⟨⟨by decide +kernel, by decide +kernel⟩, List.mem_of_getElem? (i := 1115) (by decide +kernel), List.mem_of_getElem? (i := 1354) (by decide +kernel), List.mem_of_getElem? (i := 1355) (by decide +kernel)⟩
theorem lw_p78 : lw_okq (⟨"GargoyleCloseModel", "mustName", "()V"⟩, 44) := ⟨⟨by decide +kernel, by decide +kernel⟩, List.mem_of_getElem? (i := 1115) (by decide +kernel), List.mem_of_getElem? (i := 1358) (by decide +kernel), List.mem_of_getElem? (i := 1359) (by decide +kernel)⟩
theorem lw_p79 : lw_okq (⟨"GargoyleCloseModel", "find", "()I"⟩, 44) := ⟨⟨by decide +kernel, by decide +kernel⟩, List.mem_of_getElem? (i := 1115) (by decide +kernel), List.mem_of_getElem? (i := 1366) (by decide +kernel), List.mem_of_getElem? (i := 1367) (by decide +kernel)⟩
def lw_privs_5 : List (MethodName × Nat) := [(⟨"GargoyleCloseModel", "isWord", "(Ljava/lang/String;)Z"⟩, 44), (⟨"GargoyleCloseModel", "closeLine", "()V"⟩, 44), (⟨"GargoyleCloseModel", "wrong", "(II)V"⟩, 44), (⟨"GargoyleCloseModel", "after", "(Ljava/lang/String;II)I"⟩, 44), (⟨"GargoyleCloseModel", "must", "(Ljava/lang/String;)V"⟩, 44), (⟨"GargoyleCloseModel", "takesWord", "(Ljava/lang/String;)Z"⟩, 44), (⟨"GargoyleCloseModel", "number", "(II)I"⟩, 44), (⟨"GargoyleCloseModel", "numberHere", "(II)I"⟩, 44), (⟨"GargoyleCloseModel", "pass", "()V"⟩, 44), (⟨"GargoyleCloseModel", "begins", "(Ljava/lang/String;Z)Z"⟩, 44), (⟨"GargoyleCloseModel", "wallLine", "()V"⟩, 44), (⟨"GargoyleCloseModel", "cellHere", "()I"⟩, 44), (⟨"GargoyleCloseModel", "faceLine", "()V"⟩, 44), (⟨"GargoyleCloseModel", "newName", "(I)V"⟩, 44), (⟨"GargoyleCloseModel", "mustName", "()V"⟩, 44), (⟨"GargoyleCloseModel", "find", "()I"⟩, 44)]
theorem lw_r5 : ∀ q ∈ lw_privs_5, lw_okq q := List.forall_mem_cons.mpr ⟨lw_p64, List.forall_mem_cons.mpr ⟨lw_p65, List.forall_mem_cons.mpr ⟨lw_p66, List.forall_mem_cons.mpr ⟨lw_p67, List.forall_mem_cons.mpr ⟨lw_p68, List.forall_mem_cons.mpr ⟨lw_p69, List.forall_mem_cons.mpr ⟨lw_p70, List.forall_mem_cons.mpr ⟨lw_p71, List.forall_mem_cons.mpr ⟨lw_p72, List.forall_mem_cons.mpr ⟨lw_p73, List.forall_mem_cons.mpr ⟨lw_p74, List.forall_mem_cons.mpr ⟨lw_p75, List.forall_mem_cons.mpr ⟨lw_p76, List.forall_mem_cons.mpr ⟨lw_p77, List.forall_mem_cons.mpr ⟨lw_p78, List.forall_mem_cons.mpr ⟨lw_p79, fun _ h => absurd h List.not_mem_nil⟩⟩⟩⟩⟩⟩⟩⟩⟩⟩⟩⟩⟩⟩⟩⟩
theorem lw_p80 : lw_okq (⟨"GargoyleCloseModel", "canonLine", "()V"⟩, 44) := ⟨⟨by decide +kernel, by decide +kernel⟩, List.mem_of_getElem? (i := 1115) (by decide +kernel), List.mem_of_getElem? (i := 1376) (by decide +kernel), List.mem_of_getElem? (i := 1377) (by decide +kernel)⟩
theorem lw_p81 : lw_okq (⟨"GargoyleCloseModel", "named", "(II)I"⟩, 44) := ⟨⟨by decide +kernel, by decide +kernel⟩, List.mem_of_getElem? (i := 1115) (by decide +kernel), List.mem_of_getElem? (i := 1380) (by decide +kernel), List.mem_of_getElem? (i := 1381) (by decide +kernel)⟩
theorem lw_p82 : lw_okq (⟨"GargoyleCloseModel", "walkerLine", "()V"⟩, 44) := ⟨⟨by decide +kernel, by decide +kernel⟩, List.mem_of_getElem? (i := 1115) (by decide +kernel), List.mem_of_getElem? (i := 1386) (by decide +kernel), List.mem_of_getElem? (i := 1387) (by decide +kernel)⟩
theorem lw_p83 : lw_okq (⟨"GargoyleCloseModel", "openCell", "()I"⟩, 44) := ⟨⟨by decide +kernel, by decide +kernel⟩, List.mem_of_getElem? (i := 1115) (by decide +kernel), List.mem_of_getElem? (i := 1391) (by decide +kernel), List.mem_of_getElem? (i := 1392) (by decide +kernel)⟩
theorem lw_p84 : lw_okq (⟨"GargoyleCloseModel", "unsureLine", "()V"⟩, 44) := ⟨⟨by decide +kernel, by decide +kernel⟩, List.mem_of_getElem? (i := 1115) (by decide +kernel), List.mem_of_getElem? (i := 1396) (by decide +kernel), List.mem_of_getElem? (i := 1397) (by decide +kernel)⟩
theorem lw_p85 : lw_okq (⟨"GargoyleCloseModel", "droppedLine", "()V"⟩, 44) := ⟨⟨by decide +kernel, by decide +kernel⟩, List.mem_of_getElem? (i := 1115) (by decide +kernel), List.mem_of_getElem? (i := 1400) (by decide +kernel), List.mem_of_getElem? (i := 1401) (by decide +kernel)⟩
theorem lw_p86 : lw_okq (⟨"GargoyleCloseModel", "isFace", "(I)Z"⟩, 44) := ⟨⟨by decide +kernel, by decide +kernel⟩, List.mem_of_getElem? (i := 1115) (by decide +kernel), List.mem_of_getElem? (i := 1420) (by decide +kernel), List.mem_of_getElem? (i := 1421) (by decide +kernel)⟩
theorem lw_p87 : lw_okq (⟨"GargoyleCloseModel", "canonOf", "(I)I"⟩, 44) := ⟨⟨by decide +kernel, by decide +kernel⟩, List.mem_of_getElem? (i := 1115) (by decide +kernel), List.mem_of_getElem? (i := 1424) (by decide +kernel), List.mem_of_getElem? (i := 1425) (by decide +kernel)⟩
theorem lw_p88 : lw_okq (⟨"GargoyleCloseModel", "isCanon", "(I)Z"⟩, 44) := ⟨⟨by decide +kernel, by decide +kernel⟩, List.mem_of_getElem? (i := 1115) (by decide +kernel), List.mem_of_getElem? (i := 1432) (by decide +kernel), List.mem_of_getElem? (i := 1433) (by decide +kernel)⟩
theorem lw_p89 : lw_okq (⟨"GargoyleCloseModel", "isCell", "(I)Z"⟩, 44) := ⟨⟨by decide +kernel, by decide +kernel⟩, List.mem_of_getElem? (i := 1115) (by decide +kernel), List.mem_of_getElem? (i := 1440) (by decide +kernel), List.mem_of_getElem? (i := 1441) (by decide +kernel)⟩
theorem lw_p90 : lw_okq (⟨"GargoyleCloseModel", "cells", "()I"⟩, 44) := ⟨⟨by decide +kernel, by decide +kernel⟩, List.mem_of_getElem? (i := 1115) (by decide +kernel), List.mem_of_getElem? (i := 1444) (by decide +kernel), List.mem_of_getElem? (i := 1445) (by decide +kernel)⟩
theorem lw_p91 : lw_okq (⟨"GargoyleCloseModel", "faceOver", "(I)I"⟩, 44) := ⟨⟨by decide +kernel, by decide +kernel⟩, List.mem_of_getElem? (i := 1115) (by decide +kernel), List.mem_of_getElem? (i := 1448) (by decide +kernel), List.mem_of_getElem? (i := 1449) (by decide +kernel)⟩
theorem lw_p92 : lw_okq (⟨"GargoyleCloseModel", "beside", "(I)I"⟩, 44) := ⟨⟨by decide +kernel, by decide +kernel⟩, List.mem_of_getElem? (i := 1115) (by decide +kernel), List.mem_of_getElem? (i := 1452) (by decide +kernel), List.mem_of_getElem? (i := 1453) (by decide +kernel)⟩
theorem lw_p93 : lw_okq (⟨"GargoyleCloseModel", "stepFrom", "(II)I"⟩, 44) := ⟨⟨by decide +kernel, by decide +kernel⟩, List.mem_of_getElem? (i := 1115) (by decide +kernel), List.mem_of_getElem? (i := 1456) (by decide +kernel), List.mem_of_getElem? (i := 1457) (by decide +kernel)⟩
theorem lw_p94 : lw_okq (⟨"GargoyleCloseModel", "isWall", "(I)Z"⟩, 44) := ⟨⟨by decide +kernel, by decide +kernel⟩, List.mem_of_getElem? (i := 1115) (by decide +kernel), List.mem_of_getElem? (i := 1460) (by decide +kernel), List.mem_of_getElem? (i := 1461) (by decide +kernel)⟩
theorem lw_p95 : lw_okq (⟨"GargoyleCloseModel", "aheadWhy", "(ZII)I"⟩, 44) := ⟨⟨by decide +kernel, by decide +kernel⟩, List.mem_of_getElem? (i := 1115) (by decide +kernel), List.mem_of_getElem? (i := 1472) (by decide +kernel), List.mem_of_getElem? (i := 1473) (by decide +kernel)⟩
def lw_privs_6 : List (MethodName × Nat) := [(⟨"GargoyleCloseModel", "canonLine", "()V"⟩, 44), (⟨"GargoyleCloseModel", "named", "(II)I"⟩, 44), (⟨"GargoyleCloseModel", "walkerLine", "()V"⟩, 44), (⟨"GargoyleCloseModel", "openCell", "()I"⟩, 44), (⟨"GargoyleCloseModel", "unsureLine", "()V"⟩, 44), (⟨"GargoyleCloseModel", "droppedLine", "()V"⟩, 44), (⟨"GargoyleCloseModel", "isFace", "(I)Z"⟩, 44), (⟨"GargoyleCloseModel", "canonOf", "(I)I"⟩, 44), (⟨"GargoyleCloseModel", "isCanon", "(I)Z"⟩, 44), (⟨"GargoyleCloseModel", "isCell", "(I)Z"⟩, 44), (⟨"GargoyleCloseModel", "cells", "()I"⟩, 44), (⟨"GargoyleCloseModel", "faceOver", "(I)I"⟩, 44), (⟨"GargoyleCloseModel", "beside", "(I)I"⟩, 44), (⟨"GargoyleCloseModel", "stepFrom", "(II)I"⟩, 44), (⟨"GargoyleCloseModel", "isWall", "(I)Z"⟩, 44), (⟨"GargoyleCloseModel", "aheadWhy", "(ZII)I"⟩, 44)]
theorem lw_r6 : ∀ q ∈ lw_privs_6, lw_okq q := List.forall_mem_cons.mpr ⟨lw_p80, List.forall_mem_cons.mpr ⟨lw_p81, List.forall_mem_cons.mpr ⟨lw_p82, List.forall_mem_cons.mpr ⟨lw_p83, List.forall_mem_cons.mpr ⟨lw_p84, List.forall_mem_cons.mpr ⟨lw_p85, List.forall_mem_cons.mpr ⟨lw_p86, List.forall_mem_cons.mpr ⟨lw_p87, List.forall_mem_cons.mpr ⟨lw_p88, List.forall_mem_cons.mpr ⟨lw_p89, List.forall_mem_cons.mpr ⟨lw_p90, List.forall_mem_cons.mpr ⟨lw_p91, List.forall_mem_cons.mpr ⟨lw_p92, List.forall_mem_cons.mpr ⟨lw_p93, List.forall_mem_cons.mpr ⟨lw_p94, List.forall_mem_cons.mpr ⟨lw_p95, fun _ h => absurd h List.not_mem_nil⟩⟩⟩⟩⟩⟩⟩⟩⟩⟩⟩⟩⟩⟩⟩⟩
theorem lw_p96 : lw_okq (⟨"GargoyleCloseModel", "why", "(ZZ)I"⟩, 44) := ⟨⟨by decide +kernel, by decide +kernel⟩, List.mem_of_getElem? (i := 1115) (by decide +kernel), List.mem_of_getElem? (i := 1476) (by decide +kernel), List.mem_of_getElem? (i := 1477) (by decide +kernel)⟩
theorem lw_p97 : lw_okq (⟨"GargoyleCloseModel", "daysOn", "(I)V"⟩, 44) := ⟨⟨by decide +kernel, by decide +kernel⟩, List.mem_of_getElem? (i := 1115) (by decide +kernel), List.mem_of_getElem? (i := 1480) (by decide +kernel), List.mem_of_getElem? (i := 1481) (by decide +kernel)⟩
theorem lw_p98 : lw_okq (⟨"GargoyleCloseModel", "vexedBy", "(I)V"⟩, 44) := ⟨⟨by decide +kernel, by decide +kernel⟩, List.mem_of_getElem? (i := 1115) (by decide +kernel), List.mem_of_getElem? (i := 1484) (by decide +kernel), List.mem_of_getElem? (i := 1485) (by decide +kernel)⟩
theorem lw_p99 : lw_okq (⟨"GargoyleCloseModel", "dayOn", "([IZ)V"⟩, 44) := ⟨⟨by decide +kernel, by decide +kernel⟩, List.mem_of_getElem? (i := 1115) (by decide +kernel), List.mem_of_getElem? (i := 1488) (by decide +kernel), List.mem_of_getElem? (i := 1489) (by decide +kernel)⟩
theorem lw_p100 : lw_okq (⟨"GargoyleCloseModel", "letsGo", "([II)I"⟩, 44) := ⟨⟨by decide +kernel, by decide +kernel⟩, List.mem_of_getElem? (i := 1115) (by decide +kernel), List.mem_of_getElem? (i := 1492) (by decide +kernel), List.mem_of_getElem? (i := 1493) (by decide +kernel)⟩
theorem lw_p101 : lw_okq (⟨"GargoyleCloseModel", "wetOften", "(II)I"⟩, 44) := ⟨⟨by decide +kernel, by decide +kernel⟩, List.mem_of_getElem? (i := 1115) (by decide +kernel), List.mem_of_getElem? (i := 1520) (by decide +kernel), List.mem_of_getElem? (i := 1521) (by decide +kernel)⟩
theorem lw_p102 : lw_okq (⟨"GargoyleCloseModel", "fallenOn", "([I)I"⟩, 44) := ⟨⟨by decide +kernel, by decide +kernel⟩, List.mem_of_getElem? (i := 1115) (by decide +kernel), List.mem_of_getElem? (i := 1540) (by decide +kernel), List.mem_of_getElem? (i := 1541) (by decide +kernel)⟩
theorem lw_p103 : lw_okq (⟨"GargoyleCloseModel", "planWhy", "(ZI)I"⟩, 44) := ⟨⟨by decide +kernel, by decide +kernel⟩, List.mem_of_getElem? (i := 1115) (by decide +kernel), List.mem_of_getElem? (i := 1548) (by decide +kernel), List.mem_of_getElem? (i := 1549) (by decide +kernel)⟩
theorem lw_p104 : lw_okq (⟨"GargoyleCloseModel", "mayHave", "(II)Z"⟩, 44) := ⟨⟨by decide +kernel, by decide +kernel⟩, List.mem_of_getElem? (i := 1115) (by decide +kernel), List.mem_of_getElem? (i := 1552) (by decide +kernel), List.mem_of_getElem? (i := 1553) (by decide +kernel)⟩
theorem lw_p105 : lw_okq (⟨"GargoyleCloseModel", "planAsNow", "()V"⟩, 44) := ⟨⟨by decide +kernel, by decide +kernel⟩, List.mem_of_getElem? (i := 1115) (by decide +kernel), List.mem_of_getElem? (i := 1556) (by decide +kernel), List.mem_of_getElem? (i := 1557) (by decide +kernel)⟩
theorem lw_p106 : lw_okq (⟨"GargoyleCloseModel", "goByPlan", "(I)V"⟩, 44) := ⟨⟨by decide +kernel, by decide +kernel⟩, List.mem_of_getElem? (i := 1115) (by decide +kernel), List.mem_of_getElem? (i := 1560) (by decide +kernel), List.mem_of_getElem? (i := 1561) (by decide +kernel)⟩
theorem lw_p107 : lw_okq (⟨"GargoyleCloseModel", "letsOf", "([I)I"⟩, 44) := ⟨⟨by decide +kernel, by decide +kernel⟩, List.mem_of_getElem? (i := 1115) (by decide +kernel), List.mem_of_getElem? (i := 1567) (by decide +kernel), List.mem_of_getElem? (i := 1568) (by decide +kernel)⟩
theorem lw_p108 : lw_okq (⟨"GargoyleCloseModel", "isBest", "(I)Z"⟩, 44) := ⟨⟨by decide +kernel, by decide +kernel⟩, List.mem_of_getElem? (i := 1115) (by decide +kernel), List.mem_of_getElem? (i := 1575) (by decide +kernel), List.mem_of_getElem? (i := 1576) (by decide +kernel)⟩
theorem lw_p109 : lw_okq (⟨"GargoyleCloseModel", "seekMatch", "(I)V"⟩, 44) := ⟨⟨by decide +kernel, by decide +kernel⟩, List.mem_of_getElem? (i := 1115) (by decide +kernel), List.mem_of_getElem? (i := 1583) (by decide +kernel), List.mem_of_getElem? (i := 1584) (by decide +kernel)⟩
theorem lw_p110 : lw_okq (⟨"GargoyleCloseModel", "tryPlans", "(III)V"⟩, 44) := ⟨⟨by decide +kernel, by decide +kernel⟩, List.mem_of_getElem? (i := 1115) (by decide +kernel), List.mem_of_getElem? (i := 1587) (by decide +kernel), List.mem_of_getElem? (i := 1588) (by decide +kernel)⟩
theorem lw_p111 : lw_okq (⟨"GargoyleCloseModel", "stepsOf", "(II)I"⟩, 44) := ⟨⟨by decide +kernel, by decide +kernel⟩, List.mem_of_getElem? (i := 1115) (by decide +kernel), List.mem_of_getElem? (i := 1603) (by decide +kernel), List.mem_of_getElem? (i := 1604) (by decide +kernel)⟩
def lw_privs_7 : List (MethodName × Nat) := [(⟨"GargoyleCloseModel", "why", "(ZZ)I"⟩, 44), (⟨"GargoyleCloseModel", "daysOn", "(I)V"⟩, 44), (⟨"GargoyleCloseModel", "vexedBy", "(I)V"⟩, 44), (⟨"GargoyleCloseModel", "dayOn", "([IZ)V"⟩, 44), (⟨"GargoyleCloseModel", "letsGo", "([II)I"⟩, 44), (⟨"GargoyleCloseModel", "wetOften", "(II)I"⟩, 44), (⟨"GargoyleCloseModel", "fallenOn", "([I)I"⟩, 44), (⟨"GargoyleCloseModel", "planWhy", "(ZI)I"⟩, 44), (⟨"GargoyleCloseModel", "mayHave", "(II)Z"⟩, 44), (⟨"GargoyleCloseModel", "planAsNow", "()V"⟩, 44), (⟨"GargoyleCloseModel", "goByPlan", "(I)V"⟩, 44), (⟨"GargoyleCloseModel", "letsOf", "([I)I"⟩, 44), (⟨"GargoyleCloseModel", "isBest", "(I)Z"⟩, 44), (⟨"GargoyleCloseModel", "seekMatch", "(I)V"⟩, 44), (⟨"GargoyleCloseModel", "tryPlans", "(III)V"⟩, 44), (⟨"GargoyleCloseModel", "stepsOf", "(II)I"⟩, 44)]
theorem lw_r7 : ∀ q ∈ lw_privs_7, lw_okq q := List.forall_mem_cons.mpr ⟨lw_p96, List.forall_mem_cons.mpr ⟨lw_p97, List.forall_mem_cons.mpr ⟨lw_p98, List.forall_mem_cons.mpr ⟨lw_p99, List.forall_mem_cons.mpr ⟨lw_p100, List.forall_mem_cons.mpr ⟨lw_p101, List.forall_mem_cons.mpr ⟨lw_p102, List.forall_mem_cons.mpr ⟨lw_p103, List.forall_mem_cons.mpr ⟨lw_p104, List.forall_mem_cons.mpr ⟨lw_p105, List.forall_mem_cons.mpr ⟨lw_p106, List.forall_mem_cons.mpr ⟨lw_p107, List.forall_mem_cons.mpr ⟨lw_p108, List.forall_mem_cons.mpr ⟨lw_p109, List.forall_mem_cons.mpr ⟨lw_p110, List.forall_mem_cons.mpr ⟨lw_p111, fun _ h => absurd h List.not_mem_nil⟩⟩⟩⟩⟩⟩⟩⟩⟩⟩⟩⟩⟩⟩⟩⟩
theorem lw_p112 : lw_okq (⟨"GargoyleCloseModel", "layCosts", "(II)V"⟩, 44) := ⟨⟨by decide +kernel, by decide +kernel⟩, List.mem_of_getElem? (i := 1115) (by decide +kernel), List.mem_of_getElem? (i := 1607) (by decide +kernel), List.mem_of_getElem? (i := 1608) (by decide +kernel)⟩
theorem lw_p113 : lw_okq (⟨"GargoyleCloseModel", "costOf", "(II)I"⟩, 44) := ⟨⟨by decide +kernel, by decide +kernel⟩, List.mem_of_getElem? (i := 1115) (by decide +kernel), List.mem_of_getElem? (i := 1612) (by decide +kernel), List.mem_of_getElem? (i := 1613) (by decide +kernel)⟩
theorem lw_p114 : lw_okq (⟨"GargoyleCloseModel", "isWalker", "(I)Z"⟩, 44) := ⟨⟨by decide +kernel, by decide +kernel⟩, List.mem_of_getElem? (i := 1115) (by decide +kernel), List.mem_of_getElem? (i := 1620) (by decide +kernel), List.mem_of_getElem? (i := 1621) (by decide +kernel)⟩
theorem lw_p115 : lw_okq (⟨"GargoyleCloseModel", "wayOf", "(II)I"⟩, 44) := ⟨⟨by decide +kernel, by decide +kernel⟩, List.mem_of_getElem? (i := 1115) (by decide +kernel), List.mem_of_getElem? (i := 1624) (by decide +kernel), List.mem_of_getElem? (i := 1625) (by decide +kernel)⟩
theorem lw_p116 : lw_okq (⟨"GargoyleCloseModel", "allSteps", "()I"⟩, 44) := ⟨⟨by decide +kernel, by decide +kernel⟩, List.mem_of_getElem? (i := 1115) (by decide +kernel), List.mem_of_getElem? (i := 1644) (by decide +kernel), List.mem_of_getElem? (i := 1645) (by decide +kernel)⟩
theorem lw_p117 : lw_okq (⟨"GargoyleCloseModel", "seekSets", "(I)I"⟩, 44) := ⟨⟨by decide +kernel, by decide +kernel⟩, List.mem_of_getElem? (i := 1115) (by decide +kernel), List.mem_of_getElem? (i := 1652) (by decide +kernel), List.mem_of_getElem? (i := 1653) (by decide +kernel)⟩
theorem lw_p118 : lw_okq (⟨"GargoyleCloseModel", "wrongBy", "(I)I"⟩, 44) := ⟨⟨by decide +kernel, by decide +kernel⟩, List.mem_of_getElem? (i := 1115) (by decide +kernel), List.mem_of_getElem? (i := 1656) (by decide +kernel), List.mem_of_getElem? (i := 1657) (by decide +kernel)⟩
theorem lw_p119 : lw_okq (⟨"GargoyleCloseModel", "askOf", "()I"⟩, 44) := ⟨⟨by decide +kernel, by decide +kernel⟩, List.mem_of_getElem? (i := 1115) (by decide +kernel), List.mem_of_getElem? (i := 1676) (by decide +kernel), List.mem_of_getElem? (i := 1677) (by decide +kernel)⟩
theorem lw_p120 : lw_okq (⟨"GargoyleCloseModel", "leavesOf", "(I)I"⟩, 44) := ⟨⟨by decide +kernel, by decide +kernel⟩, List.mem_of_getElem? (i := 1115) (by decide +kernel), List.mem_of_getElem? (i := 1680) (by decide +kernel), List.mem_of_getElem? (i := 1681) (by decide +kernel)⟩
theorem lw_p121 : lw_okq (⟨"GargoyleCloseModel", "seekRests", "(I)I"⟩, 44) := ⟨⟨by decide +kernel, by decide +kernel⟩, List.mem_of_getElem? (i := 1115) (by decide +kernel), List.mem_of_getElem? (i := 1706) (by decide +kernel), List.mem_of_getElem? (i := 1707) (by decide +kernel)⟩
theorem lw_p122 : lw_okq (⟨"GargoyleCloseModel", "tryCalms", "(II)V"⟩, 44) := ⟨⟨by decide +kernel, by decide +kernel⟩, List.mem_of_getElem? (i := 1115) (by decide +kernel), List.mem_of_getElem? (i := 1718) (by decide +kernel), List.mem_of_getElem? (i := 1719) (by decide +kernel)⟩
theorem lw_p123 : lw_okq (⟨"GargoyleCloseModel", "drawWhy", "(ZII)I"⟩, 44) := ⟨⟨by decide +kernel, by decide +kernel⟩, List.mem_of_getElem? (i := 1115) (by decide +kernel), List.mem_of_getElem? (i := 1733) (by decide +kernel), List.mem_of_getElem? (i := 1734) (by decide +kernel)⟩
theorem lw_p124 : lw_okq (⟨"GargoyleCloseModel", "note", "()V"⟩, 44) := ⟨⟨by decide +kernel, by decide +kernel⟩, List.mem_of_getElem? (i := 1115) (by decide +kernel), List.mem_of_getElem? (i := 1747) (by decide +kernel), List.mem_of_getElem? (i := 1748) (by decide +kernel)⟩
theorem lw_p125 : lw_okq (⟨"GargoyleCloseModel", "isNot", "(I)Z"⟩, 44) := ⟨⟨by decide +kernel, by decide +kernel⟩, List.mem_of_getElem? (i := 1115) (by decide +kernel), List.mem_of_getElem? (i := 1759) (by decide +kernel), List.mem_of_getElem? (i := 1760) (by decide +kernel)⟩
def lw_privs_8 : List (MethodName × Nat) := [(⟨"GargoyleCloseModel", "layCosts", "(II)V"⟩, 44), (⟨"GargoyleCloseModel", "costOf", "(II)I"⟩, 44), (⟨"GargoyleCloseModel", "isWalker", "(I)Z"⟩, 44), (⟨"GargoyleCloseModel", "wayOf", "(II)I"⟩, 44), (⟨"GargoyleCloseModel", "allSteps", "()I"⟩, 44), (⟨"GargoyleCloseModel", "seekSets", "(I)I"⟩, 44), (⟨"GargoyleCloseModel", "wrongBy", "(I)I"⟩, 44), (⟨"GargoyleCloseModel", "askOf", "()I"⟩, 44), (⟨"GargoyleCloseModel", "leavesOf", "(I)I"⟩, 44), (⟨"GargoyleCloseModel", "seekRests", "(I)I"⟩, 44), (⟨"GargoyleCloseModel", "tryCalms", "(II)V"⟩, 44), (⟨"GargoyleCloseModel", "drawWhy", "(ZII)I"⟩, 44), (⟨"GargoyleCloseModel", "note", "()V"⟩, 44), (⟨"GargoyleCloseModel", "isNot", "(I)Z"⟩, 44)]
theorem lw_r8 : ∀ q ∈ lw_privs_8, lw_okq q := List.forall_mem_cons.mpr ⟨lw_p112, List.forall_mem_cons.mpr ⟨lw_p113, List.forall_mem_cons.mpr ⟨lw_p114, List.forall_mem_cons.mpr ⟨lw_p115, List.forall_mem_cons.mpr ⟨lw_p116, List.forall_mem_cons.mpr ⟨lw_p117, List.forall_mem_cons.mpr ⟨lw_p118, List.forall_mem_cons.mpr ⟨lw_p119, List.forall_mem_cons.mpr ⟨lw_p120, List.forall_mem_cons.mpr ⟨lw_p121, List.forall_mem_cons.mpr ⟨lw_p122, List.forall_mem_cons.mpr ⟨lw_p123, List.forall_mem_cons.mpr ⟨lw_p124, List.forall_mem_cons.mpr ⟨lw_p125, fun _ h => absurd h List.not_mem_nil⟩⟩⟩⟩⟩⟩⟩⟩⟩⟩⟩⟩⟩⟩
def lw_privs : List (MethodName × Nat) := lw_privs_1 ++ (lw_privs_2 ++ (lw_privs_3 ++ (lw_privs_4 ++ (lw_privs_5 ++ (lw_privs_6 ++ (lw_privs_7 ++ (lw_privs_8)))))))
def lw_tbl : List Cond := k2_sels lw_privs ++ tables_1
theorem lw_privs_ok : ∀ q ∈ lw_privs, lw_okq q := by
  show ∀ q ∈ lw_privs_1 ++ (lw_privs_2 ++ (lw_privs_3 ++ (lw_privs_4 ++ (lw_privs_5 ++ (lw_privs_6 ++ (lw_privs_7 ++ (lw_privs_8))))))), lw_okq q
  exact List.forall_mem_append.mpr ⟨lw_r1, List.forall_mem_append.mpr ⟨lw_r2, List.forall_mem_append.mpr ⟨lw_r3, List.forall_mem_append.mpr ⟨lw_r4, List.forall_mem_append.mpr ⟨lw_r5, List.forall_mem_append.mpr ⟨lw_r6, List.forall_mem_append.mpr ⟨lw_r7, lw_r8⟩⟩⟩⟩⟩⟩⟩
-- ===== end of PART A; then your names; then what follows =====
def RX0 : String := "GargoyleClose$Course"
def TX0 : u_T := fun k => match k with
  | 0 => ("GargoyleClose$Course", "kind", "I", false)
  | 1 => ("GargoyleClose$Course", "wears", "I", false)
  | 2 => ("GargoyleClose$Course", "vexed", "I", false)
  | 3 => ("GargoyleClose$Course", "every", "I", false)
  | 4 => ("GargoyleClose$Course", "number", "I", false)
  | 5 => ("GargoyleClose$Course", "holds", "I", false)
  | 6 => ("GargoyleClose$Course", "bears", "I", false)
  | _ => ("GargoyleClose$Course", "drops", "I", false)
def tyX0 : Nat → FieldType := fun k => match k with
  | 0 => .int
  | 1 => .int
  | 2 => .int
  | 3 => .int
  | 4 => .int
  | 5 => .int
  | 6 => .int
  | _ => .int
abbrev wsX00 : List Cond := u_ws RX0 TX0 8
theorem nmX0 : ∀ a, a < 8 → ∀ b, b < 8 → a ≠ b → (TX0 a).2.1 ≠ (TX0 b).2.1 := by decide +kernel
theorem tyX0_ok : ∀ k, k < 8 → parseFieldDescriptor (TX0 k).2.2.1 = some (tyX0 k) := by decide +kernel
abbrev cX0_init : ByteArray := prog_2_method_1_code
def yX0_init : MethodName := ⟨RX0, "<init>", "()V"⟩
abbrev cX0_start : ByteArray := prog_2_method_2_code
def yX0_start : MethodName := ⟨RX0, "start", "(LGargoyleClose$Plan;III)V"⟩
abbrev cX0_pass : ByteArray := prog_2_method_3_code
def yX0_pass : MethodName := ⟨RX0, "pass", "(Z)Z"⟩
abbrev cX0_passAll : ByteArray := prog_2_method_4_code
def yX0_passAll : MethodName := ⟨RX0, "passAll", "(I)V"⟩
abbrev cX0_firstDrop : ByteArray := prog_2_method_5_code
def yX0_firstDrop : MethodName := ⟨RX0, "firstDrop", "(I)I"⟩
def RX1 : String := "GargoyleClose$Matching"
def TX1 : u_T := fun k => match k with
  | 0 => ("GargoyleClose$Matching", "more", "[[I", true)
  | 1 => ("GargoyleClose$Matching", "without", "[I", true)
  | 2 => ("GargoyleClose$Matching", "row", "[I", true)
  | 3 => ("GargoyleClose$Matching", "best", "[I", true)
  | 4 => ("GargoyleClose$Matching", "faces", "I", false)
  | 5 => ("GargoyleClose$Matching", "canons", "I", false)
  | 6 => ("GargoyleClose$Matching", "free", "I", false)
  | 7 => ("GargoyleClose$Matching", "idle", "I", false)
  | _ => ("GargoyleClose$Matching", "least", "I", false)
def tyX1 : Nat → FieldType := fun k => match k with
  | 0 => .array (.array .int)
  | 1 => .array .int
  | 2 => .array .int
  | 3 => .array .int
  | 4 => .int
  | 5 => .int
  | 6 => .int
  | 7 => .int
  | _ => .int
abbrev wsX10 : List Cond := u_ws RX1 TX1 9
theorem nmX1 : ∀ a, a < 9 → ∀ b, b < 9 → a ≠ b → (TX1 a).2.1 ≠ (TX1 b).2.1 := by decide +kernel
theorem tyX1_ok : ∀ k, k < 9 → parseFieldDescriptor (TX1 k).2.2.1 = some (tyX1 k) := by decide +kernel
abbrev cX1_init : ByteArray := prog_3_method_1_code
def yX1_init : MethodName := ⟨RX1, "<init>", "()V"⟩
abbrev cX1_clear : ByteArray := prog_3_method_2_code
def yX1_clear : MethodName := ⟨RX1, "clear", "(II)V"⟩
abbrev cX1_addFace : ByteArray := prog_3_method_3_code
def yX1_addFace : MethodName := ⟨RX1, "addFace", "(II)V"⟩
abbrev cX1_setCost : ByteArray := prog_3_method_4_code
def yX1_setCost : MethodName := ⟨RX1, "setCost", "(III)V"⟩
abbrev cX1_solve : ByteArray := prog_3_method_5_code
def yX1_solve : MethodName := ⟨RX1, "solve", "()V"⟩
abbrev cX1_place : ByteArray := prog_3_method_6_code
def yX1_place : MethodName := ⟨RX1, "place", "(III)V"⟩
def RX2 : String := "GargoyleClose$Moment"
def TX2 : u_T := fun k => match k with
  | 0 => ("GargoyleClose$Moment", "holds", "[I", true)
  | 1 => ("GargoyleClose$Moment", "bears", "[I", true)
  | 2 => ("GargoyleClose$Moment", "drops", "[I", true)
  | 3 => ("GargoyleClose$Moment", "faceOf", "[I", true)
  | 4 => ("GargoyleClose$Moment", "days", "I", false)
  | _ => ("GargoyleClose$Moment", "wet", "I", false)
def tyX2 : Nat → FieldType := fun k => match k with
  | 0 => .array .int
  | 1 => .array .int
  | 2 => .array .int
  | 3 => .array .int
  | 4 => .int
  | _ => .int
abbrev wsX20 : List Cond := u_ws RX2 TX2 6
theorem nmX2 : ∀ a, a < 6 → ∀ b, b < 6 → a ≠ b → (TX2 a).2.1 ≠ (TX2 b).2.1 := by decide +kernel
theorem tyX2_ok : ∀ k, k < 6 → parseFieldDescriptor (TX2 k).2.2.1 = some (tyX2 k) := by decide +kernel
abbrev cX2_init : ByteArray := prog_4_method_1_code
def yX2_init : MethodName := ⟨RX2, "<init>", "()V"⟩
abbrev cX2_begin : ByteArray := prog_4_method_2_code
def yX2_begin : MethodName := ⟨RX2, "begin", "(LGargoyleClose$Plan;)V"⟩
abbrev cX2_copy : ByteArray := prog_4_method_3_code
def yX2_copy : MethodName := ⟨RX2, "copy", "(LGargoyleClose$Moment;)V"⟩
abbrev cX2_hasFallen : ByteArray := prog_4_method_4_code
def yX2_hasFallen : MethodName := ⟨RX2, "hasFallen", "(I)Z"⟩
def RX3 : String := "GargoyleClose$Plan"
def TX3 : u_T := fun k => match k with
  | 0 => ("GargoyleClose$Plan", "wide", "I", false)
  | 1 => ("GargoyleClose$Plan", "deep", "I", false)
  | 2 => ("GargoyleClose$Plan", "calm", "I", false)
  | 3 => ("GargoyleClose$Plan", "walls", "I", false)
  | 4 => ("GargoyleClose$Plan", "faces", "I", false)
  | 5 => ("GargoyleClose$Plan", "kind", "[I", true)
  | 6 => ("GargoyleClose$Plan", "holds", "[I", true)
  | 7 => ("GargoyleClose$Plan", "wears", "[I", true)
  | 8 => ("GargoyleClose$Plan", "at", "[I", true)
  | 9 => ("GargoyleClose$Plan", "dropDay", "[I", true)
  | 10 => ("GargoyleClose$Plan", "canons", "I", false)
  | 11 => ("GargoyleClose$Plan", "faceOf", "[I", true)
  | 12 => ("GargoyleClose$Plan", "vexed", "[I", true)
  | 13 => ("GargoyleClose$Plan", "every", "[I", true)
  | 14 => ("GargoyleClose$Plan", "walkers", "I", false)
  | 15 => ("GargoyleClose$Plan", "from", "[I", true)
  | 16 => ("GargoyleClose$Plan", "to", "[I", true)
  | 17 => ("GargoyleClose$Plan", "unsures", "I", false)
  | 18 => ("GargoyleClose$Plan", "unsure", "[I", true)
  | _ => ("GargoyleClose$Plan", "otherwise", "[I", true)
def tyX3 : Nat → FieldType := fun k => match k with
  | 0 => .int
  | 1 => .int
  | 2 => .int
  | 3 => .int
  | 4 => .int
  | 5 => .array .int
  | 6 => .array .int
  | 7 => .array .int
  | 8 => .array .int
  | 9 => .array .int
  | 10 => .int
  | 11 => .array .int
  | 12 => .array .int
  | 13 => .array .int
  | 14 => .int
  | 15 => .array .int
  | 16 => .array .int
  | 17 => .int
  | 18 => .array .int
  | _ => .array .int
abbrev wsX30 : List Cond := u_ws RX3 TX3 20
theorem nmX3 : ∀ a, a < 20 → ∀ b, b < 20 → a ≠ b → (TX3 a).2.1 ≠ (TX3 b).2.1 := by decide +kernel
theorem tyX3_ok : ∀ k, k < 20 → parseFieldDescriptor (TX3 k).2.2.1 = some (tyX3 k) := by decide +kernel
abbrev cX3_init : ByteArray := prog_5_method_1_code
def yX3_init : MethodName := ⟨RX3, "<init>", "()V"⟩
abbrev cX3_clear : ByteArray := prog_5_method_2_code
def yX3_clear : MethodName := ⟨RX3, "clear", "()V"⟩
abbrev cX3_cells : ByteArray := prog_5_method_3_code
def yX3_cells : MethodName := ⟨RX3, "cells", "()I"⟩
abbrev cX3_isWall : ByteArray := prog_5_method_4_code
def yX3_isWall : MethodName := ⟨RX3, "isWall", "(I)Z"⟩
abbrev cX3_wallCount : ByteArray := prog_5_method_5_code
def yX3_wallCount : MethodName := ⟨RX3, "wallCount", "()I"⟩
abbrev cX3_open : ByteArray := prog_5_method_6_code
def yX3_open : MethodName := ⟨RX3, "open", "()I"⟩
abbrev cX3_faceOver : ByteArray := prog_5_method_7_code
def yX3_faceOver : MethodName := ⟨RX3, "faceOver", "(I)I"⟩
abbrev cX3_toldCanonOf : ByteArray := prog_5_method_8_code
def yX3_toldCanonOf : MethodName := ⟨RX3, "toldCanonOf", "(I)I"⟩
abbrev cX3_unsureOf : ByteArray := prog_5_method_9_code
def yX3_unsureOf : MethodName := ⟨RX3, "unsureOf", "(I)I"⟩
abbrev cX3_vexedBy : ByteArray := prog_5_method_10_code
def yX3_vexedBy : MethodName := ⟨RX3, "vexedBy", "(II)I"⟩
abbrev cX3_droppedCount : ByteArray := prog_5_method_11_code
def yX3_droppedCount : MethodName := ⟨RX3, "droppedCount", "()I"⟩
def RX4 : String := "GargoyleClose$Reader"
def TX4 : u_T := fun k => match k with
  | 0 => ("GargoyleClose$Reader", "text", "[B", true)
  | 1 => ("GargoyleClose$Reader", "taped", "I", false)
  | 2 => ("GargoyleClose$Reader", "length", "I", false)
  | 3 => ("GargoyleClose$Reader", "plan", "LGargoyleClose$Plan;", false)
  | 4 => ("GargoyleClose$Reader", "sort", "I", false)
  | 5 => ("GargoyleClose$Reader", "start", "I", false)
  | 6 => ("GargoyleClose$Reader", "stop", "I", false)
  | 7 => ("GargoyleClose$Reader", "value", "I", false)
  | 8 => ("GargoyleClose$Reader", "letters", "J", false)
  | 9 => ("GargoyleClose$Reader", "names", "[J", true)
  | 10 => ("GargoyleClose$Reader", "nameSorts", "[I", true)
  | 11 => ("GargoyleClose$Reader", "nameNumbers", "[I", true)
  | 12 => ("GargoyleClose$Reader", "nameCount", "I", false)
  | 13 => ("GargoyleClose$Reader", "found", "I", false)
  | _ => ("GargoyleClose$Reader", "foundAt", "I", false)
def tyX4 : Nat → FieldType := fun k => match k with
  | 0 => .array .byte
  | 1 => .int
  | 2 => .int
  | 3 => .object "GargoyleClose$Plan"
  | 4 => .int
  | 5 => .int
  | 6 => .int
  | 7 => .int
  | 8 => .long
  | 9 => .array .long
  | 10 => .array .int
  | 11 => .array .int
  | 12 => .int
  | 13 => .int
  | _ => .int
abbrev wsX40 : List Cond := u_ws RX4 TX4 15
theorem nmX4 : ∀ a, a < 15 → ∀ b, b < 15 → a ≠ b → (TX4 a).2.1 ≠ (TX4 b).2.1 := by decide +kernel
theorem tyX4_ok : ∀ k, k < 15 → parseFieldDescriptor (TX4 k).2.2.1 = some (tyX4 k) := by decide +kernel
abbrev cX4_init : ByteArray := prog_6_method_1_code
def yX4_init : MethodName := ⟨RX4, "<init>", "()V"⟩
abbrev cX4_tape : ByteArray := prog_6_method_2_code
def yX4_tape : MethodName := ⟨RX4, "tape", "(I)V"⟩
abbrev cX4_reads : ByteArray := prog_6_method_3_code
def yX4_reads : MethodName := ⟨RX4, "reads", "(ILGargoyleClose$Plan;)Z"⟩
abbrev cX4_fails : ByteArray := prog_6_method_4_code
def yX4_fails : MethodName := ⟨RX4, "fails", "(I)Z"⟩
abbrev cX4_take : ByteArray := prog_6_method_5_code
def yX4_take : MethodName := ⟨RX4, "take", "()V"⟩
abbrev cX4_takeWord : ByteArray := prog_6_method_6_code
def yX4_takeWord : MethodName := ⟨RX4, "takeWord", "()V"⟩
abbrev cX4_takeWhole : ByteArray := prog_6_method_7_code
def yX4_takeWhole : MethodName := ⟨RX4, "takeWhole", "()V"⟩
abbrev cX4_isWord : ByteArray := prog_6_method_8_code
def yX4_isWord : MethodName := ⟨RX4, "isWord", "(Ljava/lang/String;)Z"⟩
abbrev cX4_beginsLine : ByteArray := prog_6_method_9_code
def yX4_beginsLine : MethodName := ⟨RX4, "beginsLine", "()Z"⟩
abbrev cX4_readsLine : ByteArray := prog_6_method_10_code
def yX4_readsLine : MethodName := ⟨RX4, "readsLine", "()Z"⟩
abbrev cX4_readsClose : ByteArray := prog_6_method_11_code
def yX4_readsClose : MethodName := ⟨RX4, "readsClose", "()Z"⟩
abbrev cX4_readsWall : ByteArray := prog_6_method_12_code
def yX4_readsWall : MethodName := ⟨RX4, "readsWall", "()Z"⟩
abbrev cX4_readsFace : ByteArray := prog_6_method_13_code
def yX4_readsFace : MethodName := ⟨RX4, "readsFace", "()Z"⟩
abbrev cX4_kindHere : ByteArray := prog_6_method_14_code
def yX4_kindHere : MethodName := ⟨RX4, "kindHere", "()I"⟩
abbrev cX4_readsCanon : ByteArray := prog_6_method_15_code
def yX4_readsCanon : MethodName := ⟨RX4, "readsCanon", "()Z"⟩
abbrev cX4_readsWalker : ByteArray := prog_6_method_16_code
def yX4_readsWalker : MethodName := ⟨RX4, "readsWalker", "()Z"⟩
abbrev cX4_readsUnsure : ByteArray := prog_6_method_17_code
def yX4_readsUnsure : MethodName := ⟨RX4, "readsUnsure", "()Z"⟩
abbrev cX4_readsDropped : ByteArray := prog_6_method_18_code
def yX4_readsDropped : MethodName := ⟨RX4, "readsDropped", "()Z"⟩
abbrev cX4_labelled : ByteArray := prog_6_method_19_code
def yX4_labelled : MethodName := ⟨RX4, "labelled", "(Ljava/lang/String;II)Z"⟩
abbrev cX4_bounded : ByteArray := prog_6_method_20_code
def yX4_bounded : MethodName := ⟨RX4, "bounded", "(II)Z"⟩
abbrev cX4_tells : ByteArray := prog_6_method_21_code
def yX4_tells : MethodName := ⟨RX4, "tells", "(II)Z"⟩
abbrev cX4_named : ByteArray := prog_6_method_22_code
def yX4_named : MethodName := ⟨RX4, "named", "(I)I"⟩
abbrev cX4_nameAt : ByteArray := prog_6_method_23_code
def yX4_nameAt : MethodName := ⟨RX4, "nameAt", "()I"⟩
def RX5 : String := "GargoyleClose$Ways"
def TX5 : u_T := fun k => match k with
  | 0 => ("GargoyleClose$Ways", "cost", "[I", true)
  | _ => ("GargoyleClose$Ways", "wet", "I", false)
def tyX5 : Nat → FieldType := fun k => match k with
  | 0 => .array .int
  | _ => .int
abbrev wsX50 : List Cond := u_ws RX5 TX5 2
theorem nmX5 : ∀ a, a < 2 → ∀ b, b < 2 → a ≠ b → (TX5 a).2.1 ≠ (TX5 b).2.1 := by decide +kernel
theorem tyX5_ok : ∀ k, k < 2 → parseFieldDescriptor (TX5 k).2.2.1 = some (tyX5 k) := by decide +kernel
abbrev cX5_init : ByteArray := prog_7_method_1_code
def yX5_init : MethodName := ⟨RX5, "<init>", "()V"⟩
abbrev cX5_beside : ByteArray := prog_7_method_2_code
def yX5_beside : MethodName := ⟨RX5, "beside", "(LGargoyleClose$Plan;I)I"⟩
abbrev cX5_fewest : ByteArray := prog_7_method_3_code
def yX5_fewest : MethodName := ⟨RX5, "fewest", "(LGargoyleClose$Plan;III)I"⟩
abbrev cX5_measure : ByteArray := prog_7_method_4_code
def yX5_measure : MethodName := ⟨RX5, "measure", "(LGargoyleClose$Plan;II)V"⟩
abbrev cX5_stepAt : ByteArray := prog_7_method_5_code
def yX5_stepAt : MethodName := ⟨RX5, "stepAt", "(LGargoyleClose$Plan;II)I"⟩
abbrev cX5_firstStep : ByteArray := prog_7_method_6_code
def yX5_firstStep : MethodName := ⟨RX5, "firstStep", "(LGargoyleClose$Plan;I)I"⟩
abbrev cX5_leastOnward : ByteArray := prog_7_method_7_code
def yX5_leastOnward : MethodName := ⟨RX5, "leastOnward", "(LGargoyleClose$Plan;I)I"⟩
abbrev cX5_weight : ByteArray := prog_7_method_8_code
def yX5_weight : MethodName := ⟨RX5, "weight", "(I)I"⟩
abbrev cX5_next : ByteArray := prog_7_method_9_code
def yX5_next : MethodName := ⟨RX5, "next", "(LGargoyleClose$Plan;II)I"⟩
def RX6 : String := "GargoyleClose"
def TX6 : u_T := fun k => match k with
  | 0 => ("GargoyleClose", "reader", "LGargoyleClose$Reader;", true)
  | 1 => ("GargoyleClose", "plan", "LGargoyleClose$Plan;", false)
  | 2 => ("GargoyleClose", "spare", "LGargoyleClose$Plan;", false)
  | 3 => ("GargoyleClose", "now", "LGargoyleClose$Moment;", true)
  | 4 => ("GargoyleClose", "kept", "[LGargoyleClose$Moment;", true)
  | 5 => ("GargoyleClose", "keptNext", "I", false)
  | 6 => ("GargoyleClose", "keptCount", "I", false)
  | 7 => ("GargoyleClose", "images", "[LGargoyleClose$Moment;", true)
  | 8 => ("GargoyleClose", "imageCount", "I", false)
  | 9 => ("GargoyleClose", "course", "LGargoyleClose$Course;", true)
  | 10 => ("GargoyleClose", "ways", "LGargoyleClose$Ways;", true)
  | 11 => ("GargoyleClose", "matching", "LGargoyleClose$Matching;", true)
  | 12 => ("GargoyleClose", "wetOn", "[I", true)
  | _ => ("GargoyleClose", "refusal", "I", false)
def tyX6 : Nat → FieldType := fun k => match k with
  | 0 => .object "GargoyleClose$Reader"
  | 1 => .object "GargoyleClose$Plan"
  | 2 => .object "GargoyleClose$Plan"
  | 3 => .object "GargoyleClose$Moment"
  | 4 => .array (.object "GargoyleClose$Moment")
  | 5 => .int
  | 6 => .int
  | 7 => .array (.object "GargoyleClose$Moment")
  | 8 => .int
  | 9 => .object "GargoyleClose$Course"
  | 10 => .object "GargoyleClose$Ways"
  | 11 => .object "GargoyleClose$Matching"
  | 12 => .array .int
  | _ => .int
abbrev wsX60 : List Cond := u_ws RX6 TX6 14
theorem nmX6 : ∀ a, a < 14 → ∀ b, b < 14 → a ≠ b → (TX6 a).2.1 ≠ (TX6 b).2.1 := by decide +kernel
theorem tyX6_ok : ∀ k, k < 14 → parseFieldDescriptor (TX6 k).2.2.1 = some (tyX6 k) := by decide +kernel
abbrev cX6_init : ByteArray := prog_1_method_1_code
def yX6_init : MethodName := ⟨RX6, "<init>", "()V"⟩
abbrev cX6_feed : ByteArray := prog_1_method_2_code
def yX6_feed : MethodName := ⟨RX6, "feed", "(IIIII)I"⟩
abbrev cX6_close : ByteArray := prog_1_method_3_code
def yX6_close : MethodName := ⟨RX6, "close", "(I)I"⟩
abbrev cX6_fault : ByteArray := prog_1_method_4_code
def yX6_fault : MethodName := ⟨RX6, "fault", "()I"⟩
abbrev cX6_where : ByteArray := prog_1_method_5_code
def yX6_where : MethodName := ⟨RX6, "where", "()I"⟩
abbrev cX6_face : ByteArray := prog_1_method_6_code
def yX6_face : MethodName := ⟨RX6, "face", "(II)I"⟩
abbrev cX6_canon : ByteArray := prog_1_method_7_code
def yX6_canon : MethodName := ⟨RX6, "canon", "(II)I"⟩
abbrev cX6_cell : ByteArray := prog_1_method_8_code
def yX6_cell : MethodName := ⟨RX6, "cell", "(II)I"⟩
abbrev cX6_burden : ByteArray := prog_1_method_9_code
def yX6_burden : MethodName := ⟨RX6, "burden", "()I"⟩
abbrev cX6_bears : ByteArray := prog_1_method_10_code
def yX6_bears : MethodName := ⟨RX6, "bears", "(II)I"⟩
abbrev cX6_holds : ByteArray := prog_1_method_11_code
def yX6_holds : MethodName := ⟨RX6, "holds", "(II)I"⟩
abbrev cX6_drops : ByteArray := prog_1_method_12_code
def yX6_drops : MethodName := ⟨RX6, "drops", "(II)I"⟩
abbrev cX6_dropsIn : ByteArray := prog_1_method_13_code
def yX6_dropsIn : MethodName := ⟨RX6, "dropsIn", "(I)I"⟩
abbrev cX6_fallsIn : ByteArray := prog_1_method_14_code
def yX6_fallsIn : MethodName := ⟨RX6, "fallsIn", "(I)I"⟩
abbrev cX6_wet : ByteArray := prog_1_method_15_code
def yX6_wet : MethodName := ⟨RX6, "wet", "(I)I"⟩
abbrev cX6_wetDays : ByteArray := prog_1_method_16_code
def yX6_wetDays : MethodName := ⟨RX6, "wetDays", "(II)I"⟩
abbrev cX6_wettest : ByteArray := prog_1_method_17_code
def yX6_wettest : MethodName := ⟨RX6, "wettest", "()I"⟩
abbrev cX6_sunny : ByteArray := prog_1_method_18_code
def yX6_sunny : MethodName := ⟨RX6, "sunny", "()I"⟩
abbrev cX6_heaviest : ByteArray := prog_1_method_19_code
def yX6_heaviest : MethodName := ⟨RX6, "heaviest", "()I"⟩
abbrev cX6_fallen : ByteArray := prog_1_method_20_code
def yX6_fallen : MethodName := ⟨RX6, "fallen", "(I)I"⟩
abbrev cX6_dropsIf : ByteArray := prog_1_method_21_code
def yX6_dropsIf : MethodName := ⟨RX6, "dropsIf", "(III)I"⟩
abbrev cX6_faceFor : ByteArray := prog_1_method_22_code
def yX6_faceFor : MethodName := ⟨RX6, "faceFor", "(II)I"⟩
abbrev cX6_match : ByteArray := prog_1_method_23_code
def yX6_match : MethodName := ⟨RX6, "match", "(I)I"⟩
abbrev cX6_matchDrops : ByteArray := prog_1_method_24_code
def yX6_matchDrops : MethodName := ⟨RX6, "matchDrops", "(I)I"⟩
abbrev cX6_matchAt : ByteArray := prog_1_method_25_code
def yX6_matchAt : MethodName := ⟨RX6, "matchAt", "(II)I"⟩
abbrev cX6_steps : ByteArray := prog_1_method_26_code
def yX6_steps : MethodName := ⟨RX6, "steps", "(II)I"⟩
abbrev cX6_wets : ByteArray := prog_1_method_27_code
def yX6_wets : MethodName := ⟨RX6, "wets", "(II)I"⟩
abbrev cX6_way : ByteArray := prog_1_method_28_code
def yX6_way : MethodName := ⟨RX6, "way", "(II)I"⟩
abbrev cX6_wayAt : ByteArray := prog_1_method_29_code
def yX6_wayAt : MethodName := ⟨RX6, "wayAt", "(III)I"⟩
abbrev cX6_dryDay : ByteArray := prog_1_method_30_code
def yX6_dryDay : MethodName := ⟨RX6, "dryDay", "(I)I"⟩
abbrev cX6_gate : ByteArray := prog_1_method_31_code
def yX6_gate : MethodName := ⟨RX6, "gate", "()I"⟩
abbrev cX6_fits : ByteArray := prog_1_method_32_code
def yX6_fits : MethodName := ⟨RX6, "fits", "()I"⟩
abbrev cX6_fitAt : ByteArray := prog_1_method_33_code
def yX6_fitAt : MethodName := ⟨RX6, "fitAt", "(I)I"⟩
abbrev cX6_could : ByteArray := prog_1_method_34_code
def yX6_could : MethodName := ⟨RX6, "could", "()I"⟩
abbrev cX6_surely : ByteArray := prog_1_method_35_code
def yX6_surely : MethodName := ⟨RX6, "surely", "()I"⟩
abbrev cX6_ask : ByteArray := prog_1_method_36_code
def yX6_ask : MethodName := ⟨RX6, "ask", "()I"⟩
abbrev cX6_askLeaves : ByteArray := prog_1_method_37_code
def yX6_askLeaves : MethodName := ⟨RX6, "askLeaves", "()I"⟩
abbrev cX6_judge : ByteArray := prog_1_method_38_code
def yX6_judge : MethodName := ⟨RX6, "judge", "()I"⟩
abbrev cX6_sulks : ByteArray := prog_1_method_39_code
def yX6_sulks : MethodName := ⟨RX6, "sulks", "(IZZZ)I"⟩
abbrev cX6_rests : ByteArray := prog_1_method_40_code
def yX6_rests : MethodName := ⟨RX6, "rests", "(I)I"⟩
abbrev cX6_rest : ByteArray := prog_1_method_41_code
def yX6_rest : MethodName := ⟨RX6, "rest", "(I)I"⟩
abbrev cX6_odds : ByteArray := prog_1_method_42_code
def yX6_odds : MethodName := ⟨RX6, "odds", "(IIZ)J"⟩
abbrev cX6_mean : ByteArray := prog_1_method_43_code
def yX6_mean : MethodName := ⟨RX6, "mean", "(IIZ)J"⟩
abbrev cX6_borne : ByteArray := prog_1_method_44_code
def yX6_borne : MethodName := ⟨RX6, "borne", "(III)I"⟩
abbrev cX6_firstWet : ByteArray := prog_1_method_45_code
def yX6_firstWet : MethodName := ⟨RX6, "firstWet", "(II)I"⟩
abbrev cX6_day : ByteArray := prog_1_method_46_code
def yX6_day : MethodName := ⟨RX6, "day", "()I"⟩
abbrev cX6_give : ByteArray := prog_1_method_47_code
def yX6_give : MethodName := ⟨RX6, "give", "(II)I"⟩
abbrev cX6_mend : ByteArray := prog_1_method_48_code
def yX6_mend : MethodName := ⟨RX6, "mend", "(I)Z"⟩
abbrev cX6_vex : ByteArray := prog_1_method_49_code
def yX6_vex : MethodName := ⟨RX6, "vex", "(II)I"⟩
abbrev cX6_undo : ByteArray := prog_1_method_50_code
def yX6_undo : MethodName := ⟨RX6, "undo", "()Z"⟩
abbrev cX6_image : ByteArray := prog_1_method_51_code
def yX6_image : MethodName := ⟨RX6, "image", "()I"⟩
abbrev cX6_back : ByteArray := prog_1_method_52_code
def yX6_back : MethodName := ⟨RX6, "back", "(I)Z"⟩
abbrev cX6_led : ByteArray := prog_1_method_53_code
def yX6_led : MethodName := ⟨RX6, "led", "(I)I"⟩
abbrev cX6_size : ByteArray := prog_1_method_54_code
def yX6_size : MethodName := ⟨RX6, "size", "(I)I"⟩
abbrev cX6_trouble : ByteArray := prog_1_method_55_code
def yX6_trouble : MethodName := ⟨RX6, "trouble", "()I"⟩
abbrev cX6_answer : ByteArray := prog_1_method_56_code
def yX6_answer : MethodName := ⟨RX6, "answer", "(I)I"⟩
abbrev cX6_refuse : ByteArray := prog_1_method_57_code
def yX6_refuse : MethodName := ⟨RX6, "refuse", "(I)I"⟩
abbrev cX6_within : ByteArray := prog_1_method_58_code
def yX6_within : MethodName := ⟨RX6, "within", "(III)Z"⟩
abbrev cX6_hasClose : ByteArray := prog_1_method_59_code
def yX6_hasClose : MethodName := ⟨RX6, "hasClose", "()Z"⟩
abbrev cX6_isFace : ByteArray := prog_1_method_60_code
def yX6_isFace : MethodName := ⟨RX6, "isFace", "(I)Z"⟩
abbrev cX6_isCanon : ByteArray := prog_1_method_61_code
def yX6_isCanon : MethodName := ⟨RX6, "isCanon", "(I)Z"⟩
abbrev cX6_isCell : ByteArray := prog_1_method_62_code
def yX6_isCell : MethodName := ⟨RX6, "isCell", "(I)Z"⟩
abbrev cX6_isWalker : ByteArray := prog_1_method_63_code
def yX6_isWalker : MethodName := ⟨RX6, "isWalker", "(I)Z"⟩
abbrev cX6_isSeed : ByteArray := prog_1_method_64_code
def yX6_isSeed : MethodName := ⟨RX6, "isSeed", "(I)Z"⟩
abbrev cX6_canonOf : ByteArray := prog_1_method_65_code
def yX6_canonOf : MethodName := ⟨RX6, "canonOf", "(I)I"⟩
abbrev cX6_canFollow : ByteArray := prog_1_method_66_code
def yX6_canFollow : MethodName := ⟨RX6, "canFollow", "(II)Z"⟩
abbrev cX6_canLookAhead : ByteArray := prog_1_method_67_code
def yX6_canLookAhead : MethodName := ⟨RX6, "canLookAhead", "(III)Z"⟩
abbrev cX6_canWalk : ByteArray := prog_1_method_68_code
def yX6_canWalk : MethodName := ⟨RX6, "canWalk", "(II)Z"⟩
abbrev cX6_canGame : ByteArray := prog_1_method_69_code
def yX6_canGame : MethodName := ⟨RX6, "canGame", "(I)Z"⟩
abbrev cX6_canChance : ByteArray := prog_1_method_70_code
def yX6_canChance : MethodName := ⟨RX6, "canChance", "(II)Z"⟩
abbrev cX6_numberFits : ByteArray := prog_1_method_71_code
def yX6_numberFits : MethodName := ⟨RX6, "numberFits", "(III)Z"⟩
abbrev cX6_startNow : ByteArray := prog_1_method_72_code
def yX6_startNow : MethodName := ⟨RX6, "startNow", "(II)V"⟩
abbrev cX6_follow : ByteArray := prog_1_method_73_code
def yX6_follow : MethodName := ⟨RX6, "follow", "(II)V"⟩
abbrev cX6_foretellWet : ByteArray := prog_1_method_74_code
def yX6_foretellWet : MethodName := ⟨RX6, "foretellWet", "(I)V"⟩
abbrev cX6_wetDaysOf : ByteArray := prog_1_method_75_code
def yX6_wetDaysOf : MethodName := ⟨RX6, "wetDaysOf", "(II)I"⟩
abbrev cX6_firstDropBySeed : ByteArray := prog_1_method_76_code
def yX6_firstDropBySeed : MethodName := ⟨RX6, "firstDropBySeed", "(III)I"⟩
abbrev cX6_draw : ByteArray := prog_1_method_77_code
def yX6_draw : MethodName := ⟨RX6, "draw", "(I)I"⟩
abbrev cX6_isCalm : ByteArray := prog_1_method_78_code
def yX6_isCalm : MethodName := ⟨RX6, "isCalm", "(I)Z"⟩
abbrev cX6_couldHave : ByteArray := prog_1_method_79_code
def yX6_couldHave : MethodName := ⟨RX6, "couldHave", "(II)Z"⟩
abbrev cX6_costOf : ByteArray := prog_1_method_80_code
def yX6_costOf : MethodName := ⟨RX6, "costOf", "(III)I"⟩
abbrev cX6_costIf : ByteArray := prog_1_method_81_code
def yX6_costIf : MethodName := ⟨RX6, "costIf", "(III)I"⟩
abbrev cX6_tooFewFaces : ByteArray := prog_1_method_82_code
def yX6_tooFewFaces : MethodName := ⟨RX6, "tooFewFaces", "()Z"⟩
abbrev cX6_makeMatch : ByteArray := prog_1_method_83_code
def yX6_makeMatch : MethodName := ⟨RX6, "makeMatch", "(I)V"⟩
abbrev cX6_wayCost : ByteArray := prog_1_method_84_code
def yX6_wayCost : MethodName := ⟨RX6, "wayCost", "(II)I"⟩
abbrev cX6_stepsTogether : ByteArray := prog_1_method_85_code
def yX6_stepsTogether : MethodName := ⟨RX6, "stepsTogether", "(I)I"⟩
abbrev cX6_fittingSets : ByteArray := prog_1_method_86_code
def yX6_fittingSets : MethodName := ⟨RX6, "fittingSets", "()I"⟩
abbrev cX6_setFits : ByteArray := prog_1_method_87_code
def yX6_setFits : MethodName := ⟨RX6, "setFits", "(I)Z"⟩
abbrev cX6_dropFits : ByteArray := prog_1_method_88_code
def yX6_dropFits : MethodName := ⟨RX6, "dropFits", "(II)Z"⟩
abbrev cX6_setsWith : ByteArray := prog_1_method_89_code
def yX6_setsWith : MethodName := ⟨RX6, "setsWith", "(II)I"⟩
abbrev cX6_leftAtMost : ByteArray := prog_1_method_90_code
def yX6_leftAtMost : MethodName := ⟨RX6, "leftAtMost", "(II)I"⟩
abbrev cX6_bestToAsk : ByteArray := prog_1_method_91_code
def yX6_bestToAsk : MethodName := ⟨RX6, "bestToAsk", "(I)I"⟩
abbrev cX6_share : ByteArray := prog_1_method_92_code
def yX6_share : MethodName := ⟨RX6, "share", "(IIIZ)I"⟩
abbrev cX6_isRest : ByteArray := prog_1_method_93_code
def yX6_isRest : MethodName := ⟨RX6, "isRest", "(III)Z"⟩
abbrev cX6_chance : ByteArray := prog_1_method_94_code
def yX6_chance : MethodName := ⟨RX6, "chance", "(IIZZ)J"⟩
abbrev cX6_greatestDivisor : ByteArray := prog_1_method_95_code
def yX6_greatestDivisor : MethodName := ⟨RX6, "greatestDivisor", "(JJ)J"⟩
abbrev cX6_keep : ByteArray := prog_1_method_96_code
def yX6_keep : MethodName := ⟨RX6, "keep", "()V"⟩
def RX7 : String := "GargoyleCloseModel"
def TX7 : u_T := fun k => match k with
  | 0 => ("GargoyleCloseModel", "thrown", "I", false)
  | 1 => ("GargoyleCloseModel", "tape", "[I", true)
  | 2 => ("GargoyleCloseModel", "taped", "I", false)
  | 3 => ("GargoyleCloseModel", "size", "I", false)
  | 4 => ("GargoyleCloseModel", "at", "I", false)
  | 5 => ("GargoyleCloseModel", "end", "I", false)
  | 6 => ("GargoyleCloseModel", "token", "I", false)
  | 7 => ("GargoyleCloseModel", "whole", "I", false)
  | 8 => ("GargoyleCloseModel", "nameSize", "I", false)
  | 9 => ("GargoyleCloseModel", "fault", "I", false)
  | 10 => ("GargoyleCloseModel", "place", "I", false)
  | 11 => ("GargoyleCloseModel", "trouble", "I", false)
  | 12 => ("GargoyleCloseModel", "letters", "[I", true)
  | 13 => ("GargoyleCloseModel", "failed", "Z", false)
  | 14 => ("GargoyleCloseModel", "hasClose", "Z", false)
  | 15 => ("GargoyleCloseModel", "\x72", "[I", true)
  | 16 => ("GargoyleCloseModel", "fresh", "[I", true)
  | 17 => ("GargoyleCloseModel", "told", "[I", true)
  | 18 => ("GargoyleCloseModel", "read", "[I", true)
  | 19 => ("GargoyleCloseModel", "st", "[I", true)
  | 20 => ("GargoyleCloseModel", "undone", "[I", true)
  | 21 => ("GargoyleCloseModel", "kept", "[I", true)
  | 22 => ("GargoyleCloseModel", "undos", "I", false)
  | 23 => ("GargoyleCloseModel", "images", "I", false)
  | 24 => ("GargoyleCloseModel", "vexed", "[I", true)
  | 25 => ("GargoyleCloseModel", "trial", "[I", true)
  | 26 => ("GargoyleCloseModel", "goneWall", "I", false)
  | 27 => ("GargoyleCloseModel", "plan", "[I", true)
  | 28 => ("GargoyleCloseModel", "bestPlan", "[I", true)
  | 29 => ("GargoyleCloseModel", "planFalls", "I", false)
  | 30 => ("GargoyleCloseModel", "planLets", "I", false)
  | 31 => ("GargoyleCloseModel", "bestFalls", "I", false)
  | 32 => ("GargoyleCloseModel", "bestLets", "I", false)
  | 33 => ("GargoyleCloseModel", "cost", "[I", true)
  | 34 => ("GargoyleCloseModel", "firstDay", "[I", true)
  | 35 => ("GargoyleCloseModel", "often", "[I", true)
  | 36 => ("GargoyleCloseModel", "setMany", "I", false)
  | 37 => ("GargoyleCloseModel", "someOf", "I", false)
  | 38 => ("GargoyleCloseModel", "allOf", "I", false)
  | 39 => ("GargoyleCloseModel", "firstRest", "I", false)
  | 40 => ("GargoyleCloseModel", "allWeight", "J", false)
  | 41 => ("GargoyleCloseModel", "dropWeight", "J", false)
  | 42 => ("GargoyleCloseModel", "bearSum", "J", false)
  | _ => ("GargoyleCloseModel", "wetFirst", "I", false)
def tyX7 : Nat → FieldType := fun k => match k with
  | 0 => .int
  | 1 => .array .int
  | 2 => .int
  | 3 => .int
  | 4 => .int
  | 5 => .int
  | 6 => .int
  | 7 => .int
  | 8 => .int
  | 9 => .int
  | 10 => .int
  | 11 => .int
  | 12 => .array .int
  | 13 => .boolean
  | 14 => .boolean
  | 15 => .array .int
  | 16 => .array .int
  | 17 => .array .int
  | 18 => .array .int
  | 19 => .array .int
  | 20 => .array .int
  | 21 => .array .int
  | 22 => .int
  | 23 => .int
  | 24 => .array .int
  | 25 => .array .int
  | 26 => .int
  | 27 => .array .int
  | 28 => .array .int
  | 29 => .int
  | 30 => .int
  | 31 => .int
  | 32 => .int
  | 33 => .array .int
  | 34 => .array .int
  | 35 => .array .int
  | 36 => .int
  | 37 => .int
  | 38 => .int
  | 39 => .int
  | 40 => .long
  | 41 => .long
  | 42 => .long
  | _ => .int
abbrev wsX70 : List Cond := u_ws RX7 TX7 44
theorem nmX7 : ∀ a, a < 44 → ∀ b, b < 44 → a ≠ b → (TX7 a).2.1 ≠ (TX7 b).2.1 := by decide +kernel
theorem tyX7_ok : ∀ k, k < 44 → parseFieldDescriptor (TX7 k).2.2.1 = some (tyX7 k) := by decide +kernel
abbrev cX7_init : ByteArray := prog_9_method_1_code
def yX7_init : MethodName := ⟨RX7, "<init>", "()V"⟩
abbrev cX7_good : ByteArray := prog_9_method_3_code
def yX7_good : MethodName := ⟨RX7, "good", "()V"⟩
abbrev cX7_no : ByteArray := prog_9_method_4_code
def yX7_no : MethodName := ⟨RX7, "no", "(I)I"⟩
abbrev cX7_isNot : ByteArray := prog_9_method_5_code
def yX7_isNot : MethodName := ⟨RX7, "isNot", "(I)Z"⟩
abbrev cX7_in : ByteArray := prog_9_method_6_code
def yX7_in : MethodName := ⟨RX7, "in", "(III)Z"⟩
abbrev cX7_hasBit : ByteArray := prog_9_method_7_code
def yX7_hasBit : MethodName := ⟨RX7, "hasBit", "(II)Z"⟩
abbrev cX7_ones : ByteArray := prog_9_method_8_code
def yX7_ones : MethodName := ⟨RX7, "ones", "(I)I"⟩
abbrev cX7_copy : ByteArray := prog_9_method_9_code
def yX7_copy : MethodName := ⟨RX7, "copy", "([II[III)V"⟩
abbrev cX7_lowest : ByteArray := prog_9_method_10_code
def yX7_lowest : MethodName := ⟨RX7, "lowest", "(JJZ)J"⟩
abbrev cX7_feed : ByteArray := prog_9_method_11_code
def yX7_feed : MethodName := ⟨RX7, "feed", "(IIIII)I"⟩
abbrev cX7_see : ByteArray := prog_9_method_12_code
def yX7_see : MethodName := ⟨RX7, "see", "(I)I"⟩
abbrev cX7_isSmall : ByteArray := prog_9_method_13_code
def yX7_isSmall : MethodName := ⟨RX7, "isSmall", "(I)Z"⟩
abbrev cX7_isDigit : ByteArray := prog_9_method_14_code
def yX7_isDigit : MethodName := ⟨RX7, "isDigit", "(I)Z"⟩
abbrev cX7_next : ByteArray := prog_9_method_15_code
def yX7_next : MethodName := ⟨RX7, "next", "()V"⟩
abbrev cX7_wrong : ByteArray := prog_9_method_16_code
def yX7_wrong : MethodName := ⟨RX7, "wrong", "(II)V"⟩
abbrev cX7_isWord : ByteArray := prog_9_method_17_code
def yX7_isWord : MethodName := ⟨RX7, "isWord", "(Ljava/lang/String;)Z"⟩
abbrev cX7_takesWord : ByteArray := prog_9_method_18_code
def yX7_takesWord : MethodName := ⟨RX7, "takesWord", "(Ljava/lang/String;)Z"⟩
abbrev cX7_must : ByteArray := prog_9_method_19_code
def yX7_must : MethodName := ⟨RX7, "must", "(Ljava/lang/String;)V"⟩
abbrev cX7_mustName : ByteArray := prog_9_method_20_code
def yX7_mustName : MethodName := ⟨RX7, "mustName", "()V"⟩
abbrev cX7_find : ByteArray := prog_9_method_21_code
def yX7_find : MethodName := ⟨RX7, "find", "()I"⟩
abbrev cX7_newName : ByteArray := prog_9_method_22_code
def yX7_newName : MethodName := ⟨RX7, "newName", "(I)V"⟩
abbrev cX7_named : ByteArray := prog_9_method_23_code
def yX7_named : MethodName := ⟨RX7, "named", "(II)I"⟩
abbrev cX7_pass : ByteArray := prog_9_method_24_code
def yX7_pass : MethodName := ⟨RX7, "pass", "()V"⟩
abbrev cX7_numberHere : ByteArray := prog_9_method_25_code
def yX7_numberHere : MethodName := ⟨RX7, "numberHere", "(II)I"⟩
abbrev cX7_number : ByteArray := prog_9_method_26_code
def yX7_number : MethodName := ⟨RX7, "number", "(II)I"⟩
abbrev cX7_after : ByteArray := prog_9_method_27_code
def yX7_after : MethodName := ⟨RX7, "after", "(Ljava/lang/String;II)I"⟩
abbrev cX7_close : ByteArray := prog_9_method_28_code
def yX7_close : MethodName := ⟨RX7, "close", "(I)I"⟩
abbrev cX7_begins : ByteArray := prog_9_method_29_code
def yX7_begins : MethodName := ⟨RX7, "begins", "(Ljava/lang/String;Z)Z"⟩
abbrev cX7_readLine : ByteArray := prog_9_method_30_code
def yX7_readLine : MethodName := ⟨RX7, "readLine", "()V"⟩
abbrev cX7_closeLine : ByteArray := prog_9_method_31_code
def yX7_closeLine : MethodName := ⟨RX7, "closeLine", "()V"⟩
abbrev cX7_cellHere : ByteArray := prog_9_method_32_code
def yX7_cellHere : MethodName := ⟨RX7, "cellHere", "()I"⟩
abbrev cX7_wallLine : ByteArray := prog_9_method_33_code
def yX7_wallLine : MethodName := ⟨RX7, "wallLine", "()V"⟩
abbrev cX7_faceLine : ByteArray := prog_9_method_34_code
def yX7_faceLine : MethodName := ⟨RX7, "faceLine", "()V"⟩
abbrev cX7_canonLine : ByteArray := prog_9_method_35_code
def yX7_canonLine : MethodName := ⟨RX7, "canonLine", "()V"⟩
abbrev cX7_openCell : ByteArray := prog_9_method_36_code
def yX7_openCell : MethodName := ⟨RX7, "openCell", "()I"⟩
abbrev cX7_walkerLine : ByteArray := prog_9_method_37_code
def yX7_walkerLine : MethodName := ⟨RX7, "walkerLine", "()V"⟩
abbrev cX7_unsureLine : ByteArray := prog_9_method_38_code
def yX7_unsureLine : MethodName := ⟨RX7, "unsureLine", "()V"⟩
abbrev cX7_droppedLine : ByteArray := prog_9_method_39_code
def yX7_droppedLine : MethodName := ⟨RX7, "droppedLine", "()V"⟩
abbrev cX7_fault : ByteArray := prog_9_method_40_code
def yX7_fault : MethodName := ⟨RX7, "fault", "()I"⟩
abbrev cX7_where : ByteArray := prog_9_method_41_code
def yX7_where : MethodName := ⟨RX7, "where", "()I"⟩
abbrev cX7_isFace : ByteArray := prog_9_method_42_code
def yX7_isFace : MethodName := ⟨RX7, "isFace", "(I)Z"⟩
abbrev cX7_isCanon : ByteArray := prog_9_method_43_code
def yX7_isCanon : MethodName := ⟨RX7, "isCanon", "(I)Z"⟩
abbrev cX7_cells : ByteArray := prog_9_method_44_code
def yX7_cells : MethodName := ⟨RX7, "cells", "()I"⟩
abbrev cX7_isCell : ByteArray := prog_9_method_45_code
def yX7_isCell : MethodName := ⟨RX7, "isCell", "(I)Z"⟩
abbrev cX7_isWalker : ByteArray := prog_9_method_46_code
def yX7_isWalker : MethodName := ⟨RX7, "isWalker", "(I)Z"⟩
abbrev cX7_why : ByteArray := prog_9_method_47_code
def yX7_why : MethodName := ⟨RX7, "why", "(ZZ)I"⟩
abbrev cX7_vexedBy : ByteArray := prog_9_method_48_code
def yX7_vexedBy : MethodName := ⟨RX7, "vexedBy", "(I)V"⟩
abbrev cX7_letsGo : ByteArray := prog_9_method_49_code
def yX7_letsGo : MethodName := ⟨RX7, "letsGo", "([II)I"⟩
abbrev cX7_dayOn : ByteArray := prog_9_method_50_code
def yX7_dayOn : MethodName := ⟨RX7, "dayOn", "([IZ)V"⟩
abbrev cX7_daysOn : ByteArray := prog_9_method_51_code
def yX7_daysOn : MethodName := ⟨RX7, "daysOn", "(I)V"⟩
abbrev cX7_letsOf : ByteArray := prog_9_method_52_code
def yX7_letsOf : MethodName := ⟨RX7, "letsOf", "([I)I"⟩
abbrev cX7_fallenOn : ByteArray := prog_9_method_53_code
def yX7_fallenOn : MethodName := ⟨RX7, "fallenOn", "([I)I"⟩
abbrev cX7_canonOf : ByteArray := prog_9_method_54_code
def yX7_canonOf : MethodName := ⟨RX7, "canonOf", "(I)I"⟩
abbrev cX7_face : ByteArray := prog_9_method_55_code
def yX7_face : MethodName := ⟨RX7, "face", "(II)I"⟩
abbrev cX7_canon : ByteArray := prog_9_method_56_code
def yX7_canon : MethodName := ⟨RX7, "canon", "(II)I"⟩
abbrev cX7_faceOver : ByteArray := prog_9_method_57_code
def yX7_faceOver : MethodName := ⟨RX7, "faceOver", "(I)I"⟩
abbrev cX7_isWall : ByteArray := prog_9_method_58_code
def yX7_isWall : MethodName := ⟨RX7, "isWall", "(I)Z"⟩
abbrev cX7_stepFrom : ByteArray := prog_9_method_59_code
def yX7_stepFrom : MethodName := ⟨RX7, "stepFrom", "(II)I"⟩
abbrev cX7_beside : ByteArray := prog_9_method_60_code
def yX7_beside : MethodName := ⟨RX7, "beside", "(I)I"⟩
abbrev cX7_cell : ByteArray := prog_9_method_61_code
def yX7_cell : MethodName := ⟨RX7, "cell", "(II)I"⟩
abbrev cX7_burden : ByteArray := prog_9_method_62_code
def yX7_burden : MethodName := ⟨RX7, "burden", "()I"⟩
abbrev cX7_aheadWhy : ByteArray := prog_9_method_63_code
def yX7_aheadWhy : MethodName := ⟨RX7, "aheadWhy", "(ZII)I"⟩
abbrev cX7_bears : ByteArray := prog_9_method_64_code
def yX7_bears : MethodName := ⟨RX7, "bears", "(II)I"⟩
abbrev cX7_holds : ByteArray := prog_9_method_65_code
def yX7_holds : MethodName := ⟨RX7, "holds", "(II)I"⟩
abbrev cX7_drops : ByteArray := prog_9_method_66_code
def yX7_drops : MethodName := ⟨RX7, "drops", "(II)I"⟩
abbrev cX7_dropsIn : ByteArray := prog_9_method_67_code
def yX7_dropsIn : MethodName := ⟨RX7, "dropsIn", "(I)I"⟩
abbrev cX7_fallsIn : ByteArray := prog_9_method_68_code
def yX7_fallsIn : MethodName := ⟨RX7, "fallsIn", "(I)I"⟩
abbrev cX7_wet : ByteArray := prog_9_method_69_code
def yX7_wet : MethodName := ⟨RX7, "wet", "(I)I"⟩
abbrev cX7_wetOften : ByteArray := prog_9_method_70_code
def yX7_wetOften : MethodName := ⟨RX7, "wetOften", "(II)I"⟩
abbrev cX7_wetDays : ByteArray := prog_9_method_71_code
def yX7_wetDays : MethodName := ⟨RX7, "wetDays", "(II)I"⟩
abbrev cX7_wettest : ByteArray := prog_9_method_72_code
def yX7_wettest : MethodName := ⟨RX7, "wettest", "()I"⟩
abbrev cX7_sunny : ByteArray := prog_9_method_73_code
def yX7_sunny : MethodName := ⟨RX7, "sunny", "()I"⟩
abbrev cX7_heaviest : ByteArray := prog_9_method_74_code
def yX7_heaviest : MethodName := ⟨RX7, "heaviest", "()I"⟩
abbrev cX7_fallen : ByteArray := prog_9_method_75_code
def yX7_fallen : MethodName := ⟨RX7, "fallen", "(I)I"⟩
abbrev cX7_planAsNow : ByteArray := prog_9_method_76_code
def yX7_planAsNow : MethodName := ⟨RX7, "planAsNow", "()V"⟩
abbrev cX7_goByPlan : ByteArray := prog_9_method_77_code
def yX7_goByPlan : MethodName := ⟨RX7, "goByPlan", "(I)V"⟩
abbrev cX7_mayHave : ByteArray := prog_9_method_78_code
def yX7_mayHave : MethodName := ⟨RX7, "mayHave", "(II)Z"⟩
abbrev cX7_planWhy : ByteArray := prog_9_method_79_code
def yX7_planWhy : MethodName := ⟨RX7, "planWhy", "(ZI)I"⟩
abbrev cX7_dropsIf : ByteArray := prog_9_method_80_code
def yX7_dropsIf : MethodName := ⟨RX7, "dropsIf", "(III)I"⟩
abbrev cX7_isBest : ByteArray := prog_9_method_81_code
def yX7_isBest : MethodName := ⟨RX7, "isBest", "(I)Z"⟩
abbrev cX7_faceFor : ByteArray := prog_9_method_82_code
def yX7_faceFor : MethodName := ⟨RX7, "faceFor", "(II)I"⟩
abbrev cX7_tryPlans : ByteArray := prog_9_method_83_code
def yX7_tryPlans : MethodName := ⟨RX7, "tryPlans", "(III)V"⟩
abbrev cX7_seekMatch : ByteArray := prog_9_method_84_code
def yX7_seekMatch : MethodName := ⟨RX7, "seekMatch", "(I)V"⟩
abbrev cX7_match : ByteArray := prog_9_method_85_code
def yX7_match : MethodName := ⟨RX7, "match", "(I)I"⟩
abbrev cX7_matchDrops : ByteArray := prog_9_method_86_code
def yX7_matchDrops : MethodName := ⟨RX7, "matchDrops", "(I)I"⟩
abbrev cX7_matchAt : ByteArray := prog_9_method_87_code
def yX7_matchAt : MethodName := ⟨RX7, "matchAt", "(II)I"⟩
abbrev cX7_costOf : ByteArray := prog_9_method_88_code
def yX7_costOf : MethodName := ⟨RX7, "costOf", "(II)I"⟩
abbrev cX7_layCosts : ByteArray := prog_9_method_89_code
def yX7_layCosts : MethodName := ⟨RX7, "layCosts", "(II)V"⟩
abbrev cX7_stepsOf : ByteArray := prog_9_method_90_code
def yX7_stepsOf : MethodName := ⟨RX7, "stepsOf", "(II)I"⟩
abbrev cX7_steps : ByteArray := prog_9_method_91_code
def yX7_steps : MethodName := ⟨RX7, "steps", "(II)I"⟩
abbrev cX7_wayOf : ByteArray := prog_9_method_92_code
def yX7_wayOf : MethodName := ⟨RX7, "wayOf", "(II)I"⟩
abbrev cX7_wets : ByteArray := prog_9_method_93_code
def yX7_wets : MethodName := ⟨RX7, "wets", "(II)I"⟩
abbrev cX7_way : ByteArray := prog_9_method_94_code
def yX7_way : MethodName := ⟨RX7, "way", "(II)I"⟩
abbrev cX7_wayAt : ByteArray := prog_9_method_95_code
def yX7_wayAt : MethodName := ⟨RX7, "wayAt", "(III)I"⟩
abbrev cX7_dryDay : ByteArray := prog_9_method_96_code
def yX7_dryDay : MethodName := ⟨RX7, "dryDay", "(I)I"⟩
abbrev cX7_allSteps : ByteArray := prog_9_method_97_code
def yX7_allSteps : MethodName := ⟨RX7, "allSteps", "()I"⟩
abbrev cX7_gate : ByteArray := prog_9_method_98_code
def yX7_gate : MethodName := ⟨RX7, "gate", "()I"⟩
abbrev cX7_wrongBy : ByteArray := prog_9_method_99_code
def yX7_wrongBy : MethodName := ⟨RX7, "wrongBy", "(I)I"⟩
abbrev cX7_seekSets : ByteArray := prog_9_method_100_code
def yX7_seekSets : MethodName := ⟨RX7, "seekSets", "(I)I"⟩
abbrev cX7_fits : ByteArray := prog_9_method_101_code
def yX7_fits : MethodName := ⟨RX7, "fits", "()I"⟩
abbrev cX7_fitAt : ByteArray := prog_9_method_102_code
def yX7_fitAt : MethodName := ⟨RX7, "fitAt", "(I)I"⟩
abbrev cX7_could : ByteArray := prog_9_method_103_code
def yX7_could : MethodName := ⟨RX7, "could", "()I"⟩
abbrev cX7_surely : ByteArray := prog_9_method_104_code
def yX7_surely : MethodName := ⟨RX7, "surely", "()I"⟩
abbrev cX7_leavesOf : ByteArray := prog_9_method_105_code
def yX7_leavesOf : MethodName := ⟨RX7, "leavesOf", "(I)I"⟩
abbrev cX7_askOf : ByteArray := prog_9_method_106_code
def yX7_askOf : MethodName := ⟨RX7, "askOf", "()I"⟩
abbrev cX7_ask : ByteArray := prog_9_method_107_code
def yX7_ask : MethodName := ⟨RX7, "ask", "()I"⟩
abbrev cX7_askLeaves : ByteArray := prog_9_method_108_code
def yX7_askLeaves : MethodName := ⟨RX7, "askLeaves", "()I"⟩
abbrev cX7_judge : ByteArray := prog_9_method_109_code
def yX7_judge : MethodName := ⟨RX7, "judge", "()I"⟩
abbrev cX7_canonHas : ByteArray := prog_9_method_110_code
def yX7_canonHas : MethodName := ⟨RX7, "canonHas", "(IZZ)I"⟩
abbrev cX7_breadHas : ByteArray := prog_9_method_111_code
def yX7_breadHas : MethodName := ⟨RX7, "breadHas", "(ZZ)I"⟩
abbrev cX7_sulks : ByteArray := prog_9_method_112_code
def yX7_sulks : MethodName := ⟨RX7, "sulks", "(IZZZ)I"⟩
abbrev cX7_seekRests : ByteArray := prog_9_method_113_code
def yX7_seekRests : MethodName := ⟨RX7, "seekRests", "(I)I"⟩
abbrev cX7_rests : ByteArray := prog_9_method_114_code
def yX7_rests : MethodName := ⟨RX7, "rests", "(I)I"⟩
abbrev cX7_rest : ByteArray := prog_9_method_115_code
def yX7_rest : MethodName := ⟨RX7, "rest", "(I)I"⟩
abbrev cX7_tryCalms : ByteArray := prog_9_method_116_code
def yX7_tryCalms : MethodName := ⟨RX7, "tryCalms", "(II)V"⟩
abbrev cX7_odds : ByteArray := prog_9_method_117_code
def yX7_odds : MethodName := ⟨RX7, "odds", "(IIZ)J"⟩
abbrev cX7_mean : ByteArray := prog_9_method_118_code
def yX7_mean : MethodName := ⟨RX7, "mean", "(IIZ)J"⟩
abbrev cX7_drawWhy : ByteArray := prog_9_method_119_code
def yX7_drawWhy : MethodName := ⟨RX7, "drawWhy", "(ZII)I"⟩
abbrev cX7_borne : ByteArray := prog_9_method_120_code
def yX7_borne : MethodName := ⟨RX7, "borne", "(III)I"⟩
abbrev cX7_firstWet : ByteArray := prog_9_method_121_code
def yX7_firstWet : MethodName := ⟨RX7, "firstWet", "(II)I"⟩
abbrev cX7_note : ByteArray := prog_9_method_122_code
def yX7_note : MethodName := ⟨RX7, "note", "()V"⟩
abbrev cX7_day : ByteArray := prog_9_method_123_code
def yX7_day : MethodName := ⟨RX7, "day", "()I"⟩
abbrev cX7_give : ByteArray := prog_9_method_124_code
def yX7_give : MethodName := ⟨RX7, "give", "(II)I"⟩
abbrev cX7_mend : ByteArray := prog_9_method_125_code
def yX7_mend : MethodName := ⟨RX7, "mend", "(I)Z"⟩
abbrev cX7_vex : ByteArray := prog_9_method_126_code
def yX7_vex : MethodName := ⟨RX7, "vex", "(II)I"⟩
abbrev cX7_undo : ByteArray := prog_9_method_127_code
def yX7_undo : MethodName := ⟨RX7, "undo", "()Z"⟩
abbrev cX7_image : ByteArray := prog_9_method_128_code
def yX7_image : MethodName := ⟨RX7, "image", "()I"⟩
abbrev cX7_back : ByteArray := prog_9_method_129_code
def yX7_back : MethodName := ⟨RX7, "back", "(I)Z"⟩
abbrev cX7_led : ByteArray := prog_9_method_130_code
def yX7_led : MethodName := ⟨RX7, "led", "(I)I"⟩
abbrev cX7_size : ByteArray := prog_9_method_131_code
def yX7_size : MethodName := ⟨RX7, "size", "(I)I"⟩
abbrev cX7_trouble : ByteArray := prog_9_method_132_code
def yX7_trouble : MethodName := ⟨RX7, "trouble", "()I"⟩
def RJx145de : String := "java/io/Serializable"
def RJx9f9b0 : String := "java/lang/CharSequence"
def RJxb160c : String := "java/lang/Comparable"
def RJ6 : String := "java/lang/Integer"
abbrev cJ6_bitCount_0f7a4 : ByteArray := prog_14_method_49_code
def yJ6_bitCount_0f7a4 : MethodName := ⟨RJ6, "bitCount", "(I)I"⟩
def RJ9 : String := "java/lang/Math"
abbrev cJ9_max_7cf53 : ByteArray := prog_15_method_65_code
def yJ9_max_7cf53 : MethodName := ⟨RJ9, "max", "(II)I"⟩
abbrev cJ9_max_f86c9 : ByteArray := prog_15_method_66_code
def yJ9_max_f86c9 : MethodName := ⟨RJ9, "max", "(JJ)J"⟩
abbrev cJ9_min_7cf53 : ByteArray := prog_15_method_69_code
def yJ9_min_7cf53 : MethodName := ⟨RJ9, "min", "(II)I"⟩
def RJ0 : String := "java/lang/String"
abbrev cJ0_length_8abf5 : ByteArray := prog_17_method_54_code
def yJ0_length_8abf5 : MethodName := ⟨RJ0, "length", "()I"⟩
abbrev cJ0_charAt_5068e : ByteArray := prog_17_method_56_code
def yJ0_charAt_5068e : MethodName := ⟨RJ0, "charAt", "(I)C"⟩
abbrev cJ0_coder_7d493 : ByteArray := prog_17_method_152_code
def yJ0_coder_7d493 : MethodName := ⟨RJ0, "coder", "()B"⟩
abbrev cJ0_isLatin1_aae02 : ByteArray := prog_17_method_154_code
def yJ0_isLatin1_aae02 : MethodName := ⟨RJ0, "isLatin1", "()Z"⟩
abbrev cJ0_checkIndex_df160 : ByteArray := prog_17_method_155_code
def yJ0_checkIndex_df160 : MethodName := ⟨RJ0, "checkIndex", "(II)V"⟩
def RJ1 : String := "java/lang/StringLatin1"
abbrev cJ1_charAt_3b067 : ByteArray := prog_18_method_2_code
def yJ1_charAt_3b067 : MethodName := ⟨RJ1, "charAt", "([BI)C"⟩
def RJ2 : String := "java/lang/StringUTF16"
abbrev cJ2_getChar_3b067 : ByteArray := prog_19_method_5_code
def yJ2_getChar_3b067 : MethodName := ⟨RJ2, "getChar", "([BI)C"⟩
abbrev cJ2_length_9d52b : ByteArray := prog_19_method_6_code
def yJ2_length_9d52b : MethodName := ⟨RJ2, "length", "([B)I"⟩
abbrev cJ2_charAt_3b067 : ByteArray := prog_19_method_83_code
def yJ2_charAt_3b067 : MethodName := ⟨RJ2, "charAt", "([BI)C"⟩
abbrev cJ2_checkIndex_2214a : ByteArray := prog_19_method_91_code
def yJ2_checkIndex_2214a : MethodName := ⟨RJ2, "checkIndex", "(I[B)V"⟩
def RJ10 : String := "java/lang/System"
def RJxfd54e : String := "java/lang/constant/Constable"
def RJx3cf43 : String := "java/lang/constant/ConstantDesc"
def RJ3 : String := "jdk/internal/util/Preconditions"
abbrev cJ3_checkIndex_8e157 : ByteArray := prog_25_method_11_code
def yJ3_checkIndex_8e157 : MethodName := ⟨RJ3, "checkIndex", "(IILjava/util/function/BiFunction;)I"⟩
def RL : String := "GargoyleCloseLaw"
abbrev cL_led : ByteArray := method_3_code
def yL_led : MethodName := ⟨RL, "led", "(LGargoyleClose;I[J)I"⟩
abbrev cL_law : ByteArray := code
def yL_law : MethodName := ⟨RL, "law", "([I)Z"⟩
abbrev vwCl : List vw_C := [(RX0, TX0, 8), (RX1, TX1, 9), (RX2, TX2, 6), (RX3, TX3, 20), (RX4, TX4, 15), (RX5, TX5, 2), (RX6, TX6, 14), (RX7, TX7, 44)]
