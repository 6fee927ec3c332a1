section
-- ===== PART A: goes FIRST, ahead of the names: the tables' words, and 'selects' of the private methods out of them =====
/-- a private method of a class that the tables say can be made, by its rows of tables_1 -/
def lw_okq (q : MethodName × Nat) : Prop := (q.1.cls ≠ "java/lang/invoke/MethodHandle" ∧ q.1.cls ≠ "java/lang/invoke/VarHandle") ∧ Cond.instantiable q.1.cls q.2 ∈ tables_1 ∧ Cond.privateMethod q.1 ∈ tables_1 ∧ Cond.instanceMethod q.1 ∈ tables_1
theorem lw_p0 : lw_okq (⟨"GargoyleClose", "refuse", "(I)I"⟩, 14) := ⟨⟨by decide +kernel, by decide +kernel⟩, List.mem_of_getElem? (i := 21) (by decide +kernel), List.mem_of_getElem? (i := 371) (by decide +kernel), List.mem_of_getElem? (i := 372) (by decide +kernel)⟩
theorem lw_p1 : lw_okq (⟨"GargoyleClose$Reader", "take", "()V"⟩, 15) := ⟨⟨by decide +kernel, by decide +kernel⟩, List.mem_of_getElem? (i := 29) (by decide +kernel), List.mem_of_getElem? (i := 386) (by decide +kernel), List.mem_of_getElem? (i := 387) (by decide +kernel)⟩
theorem lw_p2 : lw_okq (⟨"GargoyleClose$Reader", "takeWord", "()V"⟩, 15) := ⟨⟨by decide +kernel, by decide +kernel⟩, List.mem_of_getElem? (i := 29) (by decide +kernel), List.mem_of_getElem? (i := 390) (by decide +kernel), List.mem_of_getElem? (i := 391) (by decide +kernel)⟩
theorem lw_p3 : lw_okq (⟨"GargoyleClose$Reader", "takeWhole", "()V"⟩, 15) := ⟨⟨by decide +kernel, by decide +kernel⟩, List.mem_of_getElem? (i := 29) (by decide +kernel), List.mem_of_getElem? (i := 395) (by decide +kernel), List.mem_of_getElem? (i := 396) (by decide +kernel)⟩
theorem lw_p4 : lw_okq (⟨"GargoyleClose$Reader", "readsLine", "()Z"⟩, 15) := ⟨⟨by decide +kernel, by decide +kernel⟩, List.mem_of_getElem? (i := 29) (by decide +kernel), List.mem_of_getElem? (i := 399) (by decide +kernel), List.mem_of_getElem? (i := 400) (by decide +kernel)⟩
theorem lw_p5 : lw_okq (⟨"GargoyleClose$Reader", "beginsLine", "()Z"⟩, 15) := ⟨⟨by decide +kernel, by decide +kernel⟩, List.mem_of_getElem? (i := 29) (by decide +kernel), List.mem_of_getElem? (i := 403) (by decide +kernel), List.mem_of_getElem? (i := 404) (by decide +kernel)⟩
theorem lw_p6 : lw_okq (⟨"GargoyleClose$Reader", "isWord", "(Ljava/lang/String;)Z"⟩, 15) := ⟨⟨by decide +kernel, by decide +kernel⟩, List.mem_of_getElem? (i := 29) (by decide +kernel), List.mem_of_getElem? (i := 408) (by decide +kernel), List.mem_of_getElem? (i := 409) (by decide +kernel)⟩
theorem lw_p7 : lw_okq (⟨"GargoyleClose$Reader", "fails", "(I)Z"⟩, 15) := ⟨⟨by decide +kernel, by decide +kernel⟩, List.mem_of_getElem? (i := 29) (by decide +kernel), List.mem_of_getElem? (i := 466) (by decide +kernel), List.mem_of_getElem? (i := 467) (by decide +kernel)⟩
theorem lw_p8 : lw_okq (⟨"GargoyleClose$Reader", "readsClose", "()Z"⟩, 15) := ⟨⟨by decide +kernel, by decide +kernel⟩, List.mem_of_getElem? (i := 29) (by decide +kernel), List.mem_of_getElem? (i := 470) (by decide +kernel), List.mem_of_getElem? (i := 471) (by decide +kernel)⟩
theorem lw_p9 : lw_okq (⟨"GargoyleClose$Reader", "labelled", "(Ljava/lang/String;II)Z"⟩, 15) := ⟨⟨by decide +kernel, by decide +kernel⟩, List.mem_of_getElem? (i := 29) (by decide +kernel), List.mem_of_getElem? (i := 475) (by decide +kernel), List.mem_of_getElem? (i := 476) (by decide +kernel)⟩
theorem lw_p10 : lw_okq (⟨"GargoyleClose$Reader", "bounded", "(II)Z"⟩, 15) := ⟨⟨by decide +kernel, by decide +kernel⟩, List.mem_of_getElem? (i := 29) (by decide +kernel), List.mem_of_getElem? (i := 479) (by decide +kernel), List.mem_of_getElem? (i := 480) (by decide +kernel)⟩
theorem lw_p11 : lw_okq (⟨"GargoyleClose$Reader", "readsWall", "()Z"⟩, 15) := ⟨⟨by decide +kernel, by decide +kernel⟩, List.mem_of_getElem? (i := 29) (by decide +kernel), List.mem_of_getElem? (i := 488) (by decide +kernel), List.mem_of_getElem? (i := 489) (by decide +kernel)⟩
theorem lw_p12 : lw_okq (⟨"GargoyleClose$Reader", "readsFace", "()Z"⟩, 15) := ⟨⟨by decide +kernel, by decide +kernel⟩, List.mem_of_getElem? (i := 29) (by decide +kernel), List.mem_of_getElem? (i := 510) (by decide +kernel), List.mem_of_getElem? (i := 511) (by decide +kernel)⟩
theorem lw_p13 : lw_okq (⟨"GargoyleClose$Reader", "tells", "(II)Z"⟩, 15) := ⟨⟨by decide +kernel, by decide +kernel⟩, List.mem_of_getElem? (i := 29) (by decide +kernel), List.mem_of_getElem? (i := 514) (by decide +kernel), List.mem_of_getElem? (i := 515) (by decide +kernel)⟩
theorem lw_p14 : lw_okq (⟨"GargoyleClose$Reader", "nameAt", "()I"⟩, 15) := ⟨⟨by decide +kernel, by decide +kernel⟩, List.mem_of_getElem? (i := 29) (by decide +kernel), List.mem_of_getElem? (i := 518) (by decide +kernel), List.mem_of_getElem? (i := 519) (by decide +kernel)⟩
theorem lw_p15 : lw_okq (⟨"GargoyleClose$Reader", "kindHere", "()I"⟩, 15) := ⟨⟨by decide +kernel, by decide +kernel⟩, List.mem_of_getElem? (i := 29) (by decide +kernel), List.mem_of_getElem? (i := 522) (by decide +kernel), List.mem_of_getElem? (i := 523) (by decide +kernel)⟩
def lw_privs_1 : List (MethodName × Nat) := [(⟨"GargoyleClose", "refuse", "(I)I"⟩, 14), (⟨"GargoyleClose$Reader", "take", "()V"⟩, 15), (⟨"GargoyleClose$Reader", "takeWord", "()V"⟩, 15), (⟨"GargoyleClose$Reader", "takeWhole", "()V"⟩, 15), (⟨"GargoyleClose$Reader", "readsLine", "()Z"⟩, 15), (⟨"GargoyleClose$Reader", "beginsLine", "()Z"⟩, 15), (⟨"GargoyleClose$Reader", "isWord", "(Ljava/lang/String;)Z"⟩, 15), (⟨"GargoyleClose$Reader", "fails", "(I)Z"⟩, 15), (⟨"GargoyleClose$Reader", "readsClose", "()Z"⟩, 15), (⟨"GargoyleClose$Reader", "labelled", "(Ljava/lang/String;II)Z"⟩, 15), (⟨"GargoyleClose$Reader", "bounded", "(II)Z"⟩, 15), (⟨"GargoyleClose$Reader", "readsWall", "()Z"⟩, 15), (⟨"GargoyleClose$Reader", "readsFace", "()Z"⟩, 15), (⟨"GargoyleClose$Reader", "tells", "(II)Z"⟩, 15), (⟨"GargoyleClose$Reader", "nameAt", "()I"⟩, 15), (⟨"GargoyleClose$Reader", "kindHere", "()I"⟩, 15)]
theorem lw_r1 : ∀ q ∈ lw_privs_1, lw_okq q := List.forall_mem_cons.mpr ⟨lw_p0, List.forall_mem_cons.mpr ⟨lw_p1, List.forall_mem_cons.mpr ⟨lw_p2, List.forall_mem_cons.mpr ⟨lw_p3, List.forall_mem_cons.mpr ⟨lw_p4, List.forall_mem_cons.mpr ⟨lw_p5, List.forall_mem_cons.mpr ⟨lw_p6, List.forall_mem_cons.mpr ⟨lw_p7, List.forall_mem_cons.mpr ⟨lw_p8, List.forall_mem_cons.mpr ⟨lw_p9, List.forall_mem_cons.mpr ⟨lw_p10, List.forall_mem_cons.mpr ⟨lw_p11, List.forall_mem_cons.mpr ⟨lw_p12, List.forall_mem_cons.mpr ⟨lw_p13, List.forall_mem_cons.mpr ⟨lw_p14, List.forall_mem_cons.mpr ⟨lw_p15, fun _ h => absurd h List.not_mem_nil⟩⟩⟩⟩⟩⟩⟩⟩⟩⟩⟩⟩⟩⟩⟩⟩
theorem lw_p16 : lw_okq (⟨"GargoyleClose$Reader", "readsCanon", "()Z"⟩, 15) := ⟨⟨by decide +kernel, by decide +kernel⟩, List.mem_of_getElem? (i := 29) (by decide +kernel), List.mem_of_getElem? (i := 536) (by decide +kernel), List.mem_of_getElem? (i := 537) (by decide +kernel)⟩
theorem lw_p17 : lw_okq (⟨"GargoyleClose$Reader", "named", "(I)I"⟩, 15) := ⟨⟨by decide +kernel, by decide +kernel⟩, List.mem_of_getElem? (i := 29) (by decide +kernel), List.mem_of_getElem? (i := 540) (by decide +kernel), List.mem_of_getElem? (i := 541) (by decide +kernel)⟩
theorem lw_p18 : lw_okq (⟨"GargoyleClose$Reader", "readsWalker", "()Z"⟩, 15) := ⟨⟨by decide +kernel, by decide +kernel⟩, List.mem_of_getElem? (i := 29) (by decide +kernel), List.mem_of_getElem? (i := 550) (by decide +kernel), List.mem_of_getElem? (i := 551) (by decide +kernel)⟩
theorem lw_p19 : lw_okq (⟨"GargoyleClose$Reader", "readsUnsure", "()Z"⟩, 15) := ⟨⟨by decide +kernel, by decide +kernel⟩, List.mem_of_getElem? (i := 29) (by decide +kernel), List.mem_of_getElem? (i := 556) (by decide +kernel), List.mem_of_getElem? (i := 557) (by decide +kernel)⟩
theorem lw_p20 : lw_okq (⟨"GargoyleClose$Reader", "readsDropped", "()Z"⟩, 15) := ⟨⟨by decide +kernel, by decide +kernel⟩, List.mem_of_getElem? (i := 29) (by decide +kernel), List.mem_of_getElem? (i := 564) (by decide +kernel), List.mem_of_getElem? (i := 565) (by decide +kernel)⟩
theorem lw_p21 : lw_okq (⟨"GargoyleClose", "answer", "(I)I"⟩, 14) := ⟨⟨by decide +kernel, by decide +kernel⟩, List.mem_of_getElem? (i := 21) (by decide +kernel), List.mem_of_getElem? (i := 576) (by decide +kernel), List.mem_of_getElem? (i := 577) (by decide +kernel)⟩
theorem lw_p22 : lw_okq (⟨"GargoyleClose", "isFace", "(I)Z"⟩, 14) := ⟨⟨by decide +kernel, by decide +kernel⟩, List.mem_of_getElem? (i := 21) (by decide +kernel), List.mem_of_getElem? (i := 592) (by decide +kernel), List.mem_of_getElem? (i := 593) (by decide +kernel)⟩
theorem lw_p23 : lw_okq (⟨"GargoyleClose", "canonOf", "(I)I"⟩, 14) := ⟨⟨by decide +kernel, by decide +kernel⟩, List.mem_of_getElem? (i := 21) (by decide +kernel), List.mem_of_getElem? (i := 600) (by decide +kernel), List.mem_of_getElem? (i := 601) (by decide +kernel)⟩
theorem lw_p24 : lw_okq (⟨"GargoyleClose", "isCanon", "(I)Z"⟩, 14) := ⟨⟨by decide +kernel, by decide +kernel⟩, List.mem_of_getElem? (i := 21) (by decide +kernel), List.mem_of_getElem? (i := 608) (by decide +kernel), List.mem_of_getElem? (i := 609) (by decide +kernel)⟩
theorem lw_p25 : lw_okq (⟨"GargoyleClose", "isCell", "(I)Z"⟩, 14) := ⟨⟨by decide +kernel, by decide +kernel⟩, List.mem_of_getElem? (i := 21) (by decide +kernel), List.mem_of_getElem? (i := 616) (by decide +kernel), List.mem_of_getElem? (i := 617) (by decide +kernel)⟩
theorem lw_p26 : lw_okq (⟨"GargoyleClose", "hasClose", "()Z"⟩, 14) := ⟨⟨by decide +kernel, by decide +kernel⟩, List.mem_of_getElem? (i := 21) (by decide +kernel), List.mem_of_getElem? (i := 636) (by decide +kernel), List.mem_of_getElem? (i := 637) (by decide +kernel)⟩
theorem lw_p27 : lw_okq (⟨"GargoyleClose", "canFollow", "(II)Z"⟩, 14) := ⟨⟨by decide +kernel, by decide +kernel⟩, List.mem_of_getElem? (i := 21) (by decide +kernel), List.mem_of_getElem? (i := 644) (by decide +kernel), List.mem_of_getElem? (i := 645) (by decide +kernel)⟩
theorem lw_p28 : lw_okq (⟨"GargoyleClose", "numberFits", "(III)Z"⟩, 14) := ⟨⟨by decide +kernel, by decide +kernel⟩, List.mem_of_getElem? (i := 21) (by decide +kernel), List.mem_of_getElem? (i := 648) (by decide +kernel), List.mem_of_getElem? (i := 649) (by decide +kernel)⟩
theorem lw_p29 : lw_okq (⟨"GargoyleClose", "follow", "(II)V"⟩, 14) := ⟨⟨by decide +kernel, by decide +kernel⟩, List.mem_of_getElem? (i := 21) (by decide +kernel), List.mem_of_getElem? (i := 653) (by decide +kernel), List.mem_of_getElem? (i := 654) (by decide +kernel)⟩
theorem lw_p30 : lw_okq (⟨"GargoyleClose", "startNow", "(II)V"⟩, 14) := ⟨⟨by decide +kernel, by decide +kernel⟩, List.mem_of_getElem? (i := 21) (by decide +kernel), List.mem_of_getElem? (i := 657) (by decide +kernel), List.mem_of_getElem? (i := 658) (by decide +kernel)⟩
theorem lw_p31 : lw_okq (⟨"GargoyleClose", "canLookAhead", "(III)Z"⟩, 14) := ⟨⟨by decide +kernel, by decide +kernel⟩, List.mem_of_getElem? (i := 21) (by decide +kernel), List.mem_of_getElem? (i := 698) (by decide +kernel), List.mem_of_getElem? (i := 699) (by decide +kernel)⟩
def lw_privs_2 : List (MethodName × Nat) := [(⟨"GargoyleClose$Reader", "readsCanon", "()Z"⟩, 15), (⟨"GargoyleClose$Reader", "named", "(I)I"⟩, 15), (⟨"GargoyleClose$Reader", "readsWalker", "()Z"⟩, 15), (⟨"GargoyleClose$Reader", "readsUnsure", "()Z"⟩, 15), (⟨"GargoyleClose$Reader", "readsDropped", "()Z"⟩, 15), (⟨"GargoyleClose", "answer", "(I)I"⟩, 14), (⟨"GargoyleClose", "isFace", "(I)Z"⟩, 14), (⟨"GargoyleClose", "canonOf", "(I)I"⟩, 14), (⟨"GargoyleClose", "isCanon", "(I)Z"⟩, 14), (⟨"GargoyleClose", "isCell", "(I)Z"⟩, 14), (⟨"GargoyleClose", "hasClose", "()Z"⟩, 14), (⟨"GargoyleClose", "canFollow", "(II)Z"⟩, 14), (⟨"GargoyleClose", "numberFits", "(III)Z"⟩, 14), (⟨"GargoyleClose", "follow", "(II)V"⟩, 14), (⟨"GargoyleClose", "startNow", "(II)V"⟩, 14), (⟨"GargoyleClose", "canLookAhead", "(III)Z"⟩, 14)]
theorem lw_r2 : ∀ q ∈ lw_privs_2, lw_okq q := List.forall_mem_cons.mpr ⟨lw_p16, List.forall_mem_cons.mpr ⟨lw_p17, List.forall_mem_cons.mpr ⟨lw_p18, List.forall_mem_cons.mpr ⟨lw_p19, List.forall_mem_cons.mpr ⟨lw_p20, List.forall_mem_cons.mpr ⟨lw_p21, List.forall_mem_cons.mpr ⟨lw_p22, List.forall_mem_cons.mpr ⟨lw_p23, List.forall_mem_cons.mpr ⟨lw_p24, List.forall_mem_cons.mpr ⟨lw_p25, List.forall_mem_cons.mpr ⟨lw_p26, List.forall_mem_cons.mpr ⟨lw_p27, List.forall_mem_cons.mpr ⟨lw_p28, List.forall_mem_cons.mpr ⟨lw_p29, List.forall_mem_cons.mpr ⟨lw_p30, List.forall_mem_cons.mpr ⟨lw_p31, fun _ h => absurd h List.not_mem_nil⟩⟩⟩⟩⟩⟩⟩⟩⟩⟩⟩⟩⟩⟩⟩⟩
theorem lw_p32 : lw_okq (⟨"GargoyleClose", "foretellWet", "(I)V"⟩, 14) := ⟨⟨by decide +kernel, by decide +kernel⟩, List.mem_of_getElem? (i := 21) (by decide +kernel), List.mem_of_getElem? (i := 702) (by decide +kernel), List.mem_of_getElem? (i := 703) (by decide +kernel)⟩
theorem lw_p33 : lw_okq (⟨"GargoyleClose", "wetDaysOf", "(II)I"⟩, 14) := ⟨⟨by decide +kernel, by decide +kernel⟩, List.mem_of_getElem? (i := 21) (by decide +kernel), List.mem_of_getElem? (i := 710) (by decide +kernel), List.mem_of_getElem? (i := 711) (by decide +kernel)⟩
theorem lw_p34 : lw_okq (⟨"GargoyleClose", "couldHave", "(II)Z"⟩, 14) := ⟨⟨by decide +kernel, by decide +kernel⟩, List.mem_of_getElem? (i := 21) (by decide +kernel), List.mem_of_getElem? (i := 737) (by decide +kernel), List.mem_of_getElem? (i := 738) (by decide +kernel)⟩
theorem lw_p35 : lw_okq (⟨"GargoyleClose", "costIf", "(III)I"⟩, 14) := ⟨⟨by decide +kernel, by decide +kernel⟩, List.mem_of_getElem? (i := 21) (by decide +kernel), List.mem_of_getElem? (i := 741) (by decide +kernel), List.mem_of_getElem? (i := 742) (by decide +kernel)⟩
theorem lw_p36 : lw_okq (⟨"GargoyleClose", "costOf", "(III)I"⟩, 14) := ⟨⟨by decide +kernel, by decide +kernel⟩, List.mem_of_getElem? (i := 21) (by decide +kernel), List.mem_of_getElem? (i := 745) (by decide +kernel), List.mem_of_getElem? (i := 746) (by decide +kernel)⟩
theorem lw_p37 : lw_okq (⟨"GargoyleClose", "tooFewFaces", "()Z"⟩, 14) := ⟨⟨by decide +kernel, by decide +kernel⟩, List.mem_of_getElem? (i := 21) (by decide +kernel), List.mem_of_getElem? (i := 757) (by decide +kernel), List.mem_of_getElem? (i := 758) (by decide +kernel)⟩
theorem lw_p38 : lw_okq (⟨"GargoyleClose", "makeMatch", "(I)V"⟩, 14) := ⟨⟨by decide +kernel, by decide +kernel⟩, List.mem_of_getElem? (i := 21) (by decide +kernel), List.mem_of_getElem? (i := 761) (by decide +kernel), List.mem_of_getElem? (i := 762) (by decide +kernel)⟩
theorem lw_p39 : lw_okq (⟨"GargoyleClose$Matching", "place", "(III)V"⟩, 9) := ⟨⟨by decide +kernel, by decide +kernel⟩, List.mem_of_getElem? (i := 278) (by decide +kernel), List.mem_of_getElem? (i := 782) (by decide +kernel), List.mem_of_getElem? (i := 783) (by decide +kernel)⟩
theorem lw_p40 : lw_okq (⟨"GargoyleClose", "canWalk", "(II)Z"⟩, 14) := ⟨⟨by decide +kernel, by decide +kernel⟩, List.mem_of_getElem? (i := 21) (by decide +kernel), List.mem_of_getElem? (i := 808) (by decide +kernel), List.mem_of_getElem? (i := 809) (by decide +kernel)⟩
theorem lw_p41 : lw_okq (⟨"GargoyleClose", "isWalker", "(I)Z"⟩, 14) := ⟨⟨by decide +kernel, by decide +kernel⟩, List.mem_of_getElem? (i := 21) (by decide +kernel), List.mem_of_getElem? (i := 812) (by decide +kernel), List.mem_of_getElem? (i := 813) (by decide +kernel)⟩
theorem lw_p42 : lw_okq (⟨"GargoyleClose", "wayCost", "(II)I"⟩, 14) := ⟨⟨by decide +kernel, by decide +kernel⟩, List.mem_of_getElem? (i := 21) (by decide +kernel), List.mem_of_getElem? (i := 816) (by decide +kernel), List.mem_of_getElem? (i := 817) (by decide +kernel)⟩
theorem lw_p43 : lw_okq (⟨"GargoyleClose$Ways", "weight", "(I)I"⟩, 2) := ⟨⟨by decide +kernel, by decide +kernel⟩, List.mem_of_getElem? (i := 264) (by decide +kernel), List.mem_of_getElem? (i := 825) (by decide +kernel), List.mem_of_getElem? (i := 826) (by decide +kernel)⟩
theorem lw_p44 : lw_okq (⟨"GargoyleClose$Ways", "leastOnward", "(LGargoyleClose$Plan;I)I"⟩, 2) := ⟨⟨by decide +kernel, by decide +kernel⟩, List.mem_of_getElem? (i := 264) (by decide +kernel), List.mem_of_getElem? (i := 830) (by decide +kernel), List.mem_of_getElem? (i := 831) (by decide +kernel)⟩
theorem lw_p45 : lw_okq (⟨"GargoyleClose$Ways", "next", "(LGargoyleClose$Plan;II)I"⟩, 2) := ⟨⟨by decide +kernel, by decide +kernel⟩, List.mem_of_getElem? (i := 264) (by decide +kernel), List.mem_of_getElem? (i := 834) (by decide +kernel), List.mem_of_getElem? (i := 835) (by decide +kernel)⟩
theorem lw_p46 : lw_okq (⟨"GargoyleClose$Ways", "firstStep", "(LGargoyleClose$Plan;I)I"⟩, 2) := ⟨⟨by decide +kernel, by decide +kernel⟩, List.mem_of_getElem? (i := 264) (by decide +kernel), List.mem_of_getElem? (i := 854) (by decide +kernel), List.mem_of_getElem? (i := 855) (by decide +kernel)⟩
theorem lw_p47 : lw_okq (⟨"GargoyleClose", "stepsTogether", "(I)I"⟩, 14) := ⟨⟨by decide +kernel, by decide +kernel⟩, List.mem_of_getElem? (i := 21) (by decide +kernel), List.mem_of_getElem? (i := 866) (by decide +kernel), List.mem_of_getElem? (i := 867) (by decide +kernel)⟩
def lw_privs_3 : List (MethodName × Nat) := [(⟨"GargoyleClose", "foretellWet", "(I)V"⟩, 14), (⟨"GargoyleClose", "wetDaysOf", "(II)I"⟩, 14), (⟨"GargoyleClose", "couldHave", "(II)Z"⟩, 14), (⟨"GargoyleClose", "costIf", "(III)I"⟩, 14), (⟨"GargoyleClose", "costOf", "(III)I"⟩, 14), (⟨"GargoyleClose", "tooFewFaces", "()Z"⟩, 14), (⟨"GargoyleClose", "makeMatch", "(I)V"⟩, 14), (⟨"GargoyleClose$Matching", "place", "(III)V"⟩, 9), (⟨"GargoyleClose", "canWalk", "(II)Z"⟩, 14), (⟨"GargoyleClose", "isWalker", "(I)Z"⟩, 14), (⟨"GargoyleClose", "wayCost", "(II)I"⟩, 14), (⟨"GargoyleClose$Ways", "weight", "(I)I"⟩, 2), (⟨"GargoyleClose$Ways", "leastOnward", "(LGargoyleClose$Plan;I)I"⟩, 2), (⟨"GargoyleClose$Ways", "next", "(LGargoyleClose$Plan;II)I"⟩, 2), (⟨"GargoyleClose$Ways", "firstStep", "(LGargoyleClose$Plan;I)I"⟩, 2), (⟨"GargoyleClose", "stepsTogether", "(I)I"⟩, 14)]
theorem lw_r3 : ∀ q ∈ lw_privs_3, lw_okq q := List.forall_mem_cons.mpr ⟨lw_p32, List.forall_mem_cons.mpr ⟨lw_p33, List.forall_mem_cons.mpr ⟨lw_p34, List.forall_mem_cons.mpr ⟨lw_p35, List.forall_mem_cons.mpr ⟨lw_p36, List.forall_mem_cons.mpr ⟨lw_p37, List.forall_mem_cons.mpr ⟨lw_p38, List.forall_mem_cons.mpr ⟨lw_p39, List.forall_mem_cons.mpr ⟨lw_p40, List.forall_mem_cons.mpr ⟨lw_p41, List.forall_mem_cons.mpr ⟨lw_p42, List.forall_mem_cons.mpr ⟨lw_p43, List.forall_mem_cons.mpr ⟨lw_p44, List.forall_mem_cons.mpr ⟨lw_p45, List.forall_mem_cons.mpr ⟨lw_p46, List.forall_mem_cons.mpr ⟨lw_p47, fun _ h => absurd h List.not_mem_nil⟩⟩⟩⟩⟩⟩⟩⟩⟩⟩⟩⟩⟩⟩⟩⟩
theorem lw_p48 : lw_okq (⟨"GargoyleClose", "fittingSets", "()I"⟩, 14) := ⟨⟨by decide +kernel, by decide +kernel⟩, List.mem_of_getElem? (i := 21) (by decide +kernel), List.mem_of_getElem? (i := 874) (by decide +kernel), List.mem_of_getElem? (i := 875) (by decide +kernel)⟩
theorem lw_p49 : lw_okq (⟨"GargoyleClose", "setFits", "(I)Z"⟩, 14) := ⟨⟨by decide +kernel, by decide +kernel⟩, List.mem_of_getElem? (i := 21) (by decide +kernel), List.mem_of_getElem? (i := 878) (by decide +kernel), List.mem_of_getElem? (i := 879) (by decide +kernel)⟩
theorem lw_p50 : lw_okq (⟨"GargoyleClose", "dropFits", "(II)Z"⟩, 14) := ⟨⟨by decide +kernel, by decide +kernel⟩, List.mem_of_getElem? (i := 21) (by decide +kernel), List.mem_of_getElem? (i := 882) (by decide +kernel), List.mem_of_getElem? (i := 883) (by decide +kernel)⟩
theorem lw_p51 : lw_okq (⟨"GargoyleClose", "bestToAsk", "(I)I"⟩, 14) := ⟨⟨by decide +kernel, by decide +kernel⟩, List.mem_of_getElem? (i := 21) (by decide +kernel), List.mem_of_getElem? (i := 912) (by decide +kernel), List.mem_of_getElem? (i := 913) (by decide +kernel)⟩
theorem lw_p52 : lw_okq (⟨"GargoyleClose", "canGame", "(I)Z"⟩, 14) := ⟨⟨by decide +kernel, by decide +kernel⟩, List.mem_of_getElem? (i := 21) (by decide +kernel), List.mem_of_getElem? (i := 931) (by decide +kernel), List.mem_of_getElem? (i := 932) (by decide +kernel)⟩
theorem lw_p53 : lw_okq (⟨"GargoyleClose", "canChance", "(II)Z"⟩, 14) := ⟨⟨by decide +kernel, by decide +kernel⟩, List.mem_of_getElem? (i := 21) (by decide +kernel), List.mem_of_getElem? (i := 953) (by decide +kernel), List.mem_of_getElem? (i := 954) (by decide +kernel)⟩
theorem lw_p54 : lw_okq (⟨"GargoyleClose", "chance", "(IIZZ)J"⟩, 14) := ⟨⟨by decide +kernel, by decide +kernel⟩, List.mem_of_getElem? (i := 21) (by decide +kernel), List.mem_of_getElem? (i := 958) (by decide +kernel), List.mem_of_getElem? (i := 959) (by decide +kernel)⟩
theorem lw_p55 : lw_okq (⟨"GargoyleClose", "isCalm", "(I)Z"⟩, 14) := ⟨⟨by decide +kernel, by decide +kernel⟩, List.mem_of_getElem? (i := 21) (by decide +kernel), List.mem_of_getElem? (i := 984) (by decide +kernel), List.mem_of_getElem? (i := 985) (by decide +kernel)⟩
theorem lw_p56 : lw_okq (⟨"GargoyleClose", "firstDropBySeed", "(III)I"⟩, 14) := ⟨⟨by decide +kernel, by decide +kernel⟩, List.mem_of_getElem? (i := 21) (by decide +kernel), List.mem_of_getElem? (i := 992) (by decide +kernel), List.mem_of_getElem? (i := 993) (by decide +kernel)⟩
theorem lw_p57 : lw_okq (⟨"GargoyleClose", "keep", "()V"⟩, 14) := ⟨⟨by decide +kernel, by decide +kernel⟩, List.mem_of_getElem? (i := 21) (by decide +kernel), List.mem_of_getElem? (i := 1000) (by decide +kernel), List.mem_of_getElem? (i := 1001) (by decide +kernel)⟩
theorem lw_p58 : lw_okq (⟨"java/lang/Throwable", "fillInStackTrace", "(I)Ljava/lang/Throwable;"⟩, 6) := ⟨⟨by decide +kernel, by decide +kernel⟩, List.mem_of_getElem? (i := 1090) (by decide +kernel), List.mem_of_getElem? (i := 1088) (by decide +kernel), List.mem_of_getElem? (i := 1089) (by decide +kernel)⟩
theorem lw_p59 : lw_okq (⟨"GargoyleCloseModel", "good", "()V"⟩, 44) := ⟨⟨by decide +kernel, by decide +kernel⟩, List.mem_of_getElem? (i := 1115) (by decide +kernel), List.mem_of_getElem? (i := 1266) (by decide +kernel), List.mem_of_getElem? (i := 1267) (by decide +kernel)⟩
theorem lw_p60 : lw_okq (⟨"GargoyleCloseModel", "no", "(I)I"⟩, 44) := ⟨⟨by decide +kernel, by decide +kernel⟩, List.mem_of_getElem? (i := 1115) (by decide +kernel), List.mem_of_getElem? (i := 1273) (by decide +kernel), List.mem_of_getElem? (i := 1274) (by decide +kernel)⟩
theorem lw_p61 : lw_okq (⟨"GargoyleCloseModel", "next", "()V"⟩, 44) := ⟨⟨by decide +kernel, by decide +kernel⟩, List.mem_of_getElem? (i := 1115) (by decide +kernel), List.mem_of_getElem? (i := 1277) (by decide +kernel), List.mem_of_getElem? (i := 1278) (by decide +kernel)⟩
theorem lw_p62 : lw_okq (⟨"GargoyleCloseModel", "see", "(I)I"⟩, 44) := ⟨⟨by decide +kernel, by decide +kernel⟩, List.mem_of_getElem? (i := 1115) (by decide +kernel), List.mem_of_getElem? (i := 1281) (by decide +kernel), List.mem_of_getElem? (i := 1282) (by decide +kernel)⟩
theorem lw_p63 : lw_okq (⟨"GargoyleCloseModel", "readLine", "()V"⟩, 44) := ⟨⟨by decide +kernel, by decide +kernel⟩, List.mem_of_getElem? (i := 1115) (by decide +kernel), List.mem_of_getElem? (i := 1291) (by decide +kernel), List.mem_of_getElem? (i := 1292) (by decide +kernel)⟩
def lw_privs_4 : List (MethodName × Nat) := [(⟨"GargoyleClose", "fittingSets", "()I"⟩, 14), (⟨"GargoyleClose", "setFits", "(I)Z"⟩, 14), (⟨"GargoyleClose", "dropFits", "(II)Z"⟩, 14), (⟨"GargoyleClose", "bestToAsk", "(I)I"⟩, 14), (⟨"GargoyleClose", "canGame", "(I)Z"⟩, 14), (⟨"GargoyleClose", "canChance", "(II)Z"⟩, 14), (⟨"GargoyleClose", "chance", "(IIZZ)J"⟩, 14), (⟨"GargoyleClose", "isCalm", "(I)Z"⟩, 14), (⟨"GargoyleClose", "firstDropBySeed", "(III)I"⟩, 14), (⟨"GargoyleClose", "keep", "()V"⟩, 14), (⟨"java/lang/Throwable", "fillInStackTrace", "(I)Ljava/lang/Throwable;"⟩, 6), (⟨"GargoyleCloseModel", "good", "()V"⟩, 44), (⟨"GargoyleCloseModel", "no", "(I)I"⟩, 44), (⟨"GargoyleCloseModel", "next", "()V"⟩, 44), (⟨"GargoyleCloseModel", "see", "(I)I"⟩, 44), (⟨"GargoyleCloseModel", "readLine", "()V"⟩, 44)]
theorem lw_r4 : ∀ q ∈ lw_privs_4, lw_okq q := List.forall_mem_cons.mpr ⟨lw_p48, List.forall_mem_cons.mpr ⟨lw_p49, List.forall_mem_cons.mpr ⟨lw_p50, List.forall_mem_cons.mpr ⟨lw_p51, List.forall_mem_cons.mpr ⟨lw_p52, List.forall_mem_cons.mpr ⟨lw_p53, List.forall_mem_cons.mpr ⟨lw_p54, List.forall_mem_cons.mpr ⟨lw_p55, List.forall_mem_cons.mpr ⟨lw_p56, List.forall_mem_cons.mpr ⟨lw_p57, List.forall_mem_cons.mpr ⟨lw_p58, List.forall_mem_cons.mpr ⟨lw_p59, List.forall_mem_cons.mpr ⟨lw_p60, List.forall_mem_cons.mpr ⟨lw_p61, List.forall_mem_cons.mpr ⟨lw_p62, List.forall_mem_cons.mpr ⟨lw_p63, fun _ h => absurd h List.not_mem_nil⟩⟩⟩⟩⟩⟩⟩⟩⟩⟩⟩⟩⟩⟩⟩⟩
theorem lw_p64 : lw_okq (⟨"GargoyleCloseModel", "isWord", "(Ljava/lang/String;)Z"⟩, 44) := ⟨⟨by decide +kernel, by decide +kernel⟩, List.mem_of_getElem? (i := 1115) (by decide +kernel), List.mem_of_getElem? (i := 1296) (by decide +kernel), List.mem_of_getElem? (i := 1297) (by decide +kernel)⟩
theorem lw_p65 : lw_okq (⟨"GargoyleCloseModel", "closeLine", "()V"⟩, 44) := ⟨⟨by decide +kernel, by decide +kernel⟩, List.mem_of_getElem? (i := 1115) (by decide +kernel), List.mem_of_getElem? (i := 1302) (by decide +kernel), List.mem_of_getElem? (i := 1303) (by decide +kernel)⟩
theorem lw_p66 : lw_okq (⟨"GargoyleCloseModel", "wrong", "(II)V"⟩, 44) := ⟨⟨by decide +kernel, by decide +kernel⟩, List.mem_of_getElem? (i := 1115) (by decide +kernel), List.mem_of_getElem? (i := 1306) (by decide +kernel), List.mem_of_getElem? (i := 1307) (by decide +kernel)⟩
theorem lw_p67 : lw_okq (⟨"GargoyleCloseModel", "after", "(Ljava/lang/String;II)I"⟩, 44) := ⟨⟨by decide +kernel, by decide +kernel⟩, List.mem_of_getElem? (i := 1115) (by decide +kernel), List.mem_of_getElem? (i := 1311) (by decide +kernel), List.mem_of_getElem? (i := 1312) (by decide +kernel)⟩
theorem lw_p68 : lw_okq (⟨"GargoyleCloseModel", "must", "(Ljava/lang/String;)V"⟩, 44) := ⟨⟨by decide +kernel, by decide +kernel⟩, List.mem_of_getElem? (i := 1115) (by decide +kernel), List.mem_of_getElem? (i := 1315) (by decide +kernel), List.mem_of_getElem? (i := 1316) (by decide +kernel)⟩
theorem lw_p69 : lw_okq (⟨"GargoyleCloseModel", "takesWord", "(Ljava/lang/String;)Z"⟩, 44) := ⟨⟨by decide +kernel, by decide +kernel⟩, List.mem_of_getElem? (i := 1115) (by decide +kernel), List.mem_of_getElem? (i := 1319) (by decide +kernel), List.mem_of_getElem? (i := 1320) (by decide +kernel)⟩
theorem lw_p70 : lw_okq (⟨"GargoyleCloseModel", "number", "(II)I"⟩, 44) := ⟨⟨by decide +kernel, by decide +kernel⟩, List.mem_of_getElem? (i := 1115) (by decide +kernel), List.mem_of_getElem? (i := 1323) (by decide +kernel), List.mem_of_getElem? (i := 1324) (by decide +kernel)⟩
theorem lw_p71 : lw_okq (⟨"GargoyleCloseModel", "numberHere", "(II)I"⟩, 44) := ⟨⟨by decide +kernel, by decide +kernel⟩, List.mem_of_getElem? (i := 1115) (by decide +kernel), List.mem_of_getElem? (i := 1327) (by decide +kernel), List.mem_of_getElem? (i := 1328) (by decide +kernel)⟩
theorem lw_p72 : lw_okq (⟨"GargoyleCloseModel", "pass", "()V"⟩, 44) := ⟨⟨by decide +kernel, by decide +kernel⟩, List.mem_of_getElem? (i := 1115) (by decide +kernel), List.mem_of_getElem? (i := 1331) (by decide +kernel), List.mem_of_getElem? (i := 1332) (by decide +kernel)⟩
theorem lw_p73 : lw_okq (⟨"GargoyleCloseModel", "begins", "(Ljava/lang/String;Z)Z"⟩, 44) := ⟨⟨by decide +kernel, by decide +kernel⟩, List.mem_of_getElem? (i := 1115) (by decide +kernel), List.mem_of_getElem? (i := 1338) (by decide +kernel), List.mem_of_getElem? (i := 1339) (by decide +kernel)⟩
theorem lw_p74 : lw_okq (⟨"GargoyleCloseModel", "wallLine", "()V"⟩, 44) := ⟨⟨by decide +kernel, by decide +kernel⟩, List.mem_of_getElem? (i := 1115) (by decide +kernel), List.mem_of_getElem? (i := 1342) (by decide +kernel), List.mem_of_getElem? (i := 1343) (by decide +kernel)⟩
theorem lw_p75 : lw_okq (⟨"GargoyleCloseModel", "cellHere", "()I"⟩, 44) := ⟨⟨by decide +kernel, by decide +kernel⟩, List.mem_of_getElem? (i := 1115) (by decide +kernel), List.mem_of_getElem? (i := 1346) (by decide +kernel), List.mem_of_getElem? (i := 1347) (by decide +kernel)⟩
theorem lw_p76 : lw_okq (⟨"GargoyleCloseModel", "faceLine", "()V"⟩, 44) := ⟨⟨by decide +kernel, by decide +kernel⟩, List.mem_of_getElem? (i := 1115) (by decide +kernel), List.mem_of_getElem? (i := 1354) (by decide +kernel), List.mem_of_getElem? (i := 1355) (by decide +kernel)⟩
theorem lw_p77 : lw_okq (⟨"GargoyleCloseModel", "newName", "(I)V"⟩, 44) := ⟨⟨by decide +kernel, by decide +kernel⟩, List.mem_of_getElem? (i := 1115) (by decide +kernel), List.mem_of_getElem? (i := 1358) (by decide +kernel), List.mem_of_getElem? (i := 1359) (by decide +kernel)⟩
theorem lw_p78 : lw_okq (⟨"GargoyleCloseModel", "mustName", "()V"⟩, 44) := ⟨⟨by decide +kernel, by decide +kernel⟩, List.mem_of_getElem? (i := 1115) (by decide +kernel), List.mem_of_getElem? (i := 1362) (by decide +kernel), List.mem_of_getElem? (i := 1363) (by decide +kernel)⟩
theorem lw_p79 : lw_okq (⟨"GargoyleCloseModel", "find", "()I"⟩, 44) := ⟨⟨by decide +kernel, by decide +kernel⟩, List.mem_of_getElem? (i := 1115) (by decide +kernel), List.mem_of_getElem? (i := 1370) (by decide +kernel), List.mem_of_getElem? (i := 1371) (by decide +kernel)⟩
def lw_privs_5 : List (MethodName × Nat) := [(⟨"GargoyleCloseModel", "isWord", "(Ljava/lang/String;)Z"⟩, 44), (⟨"GargoyleCloseModel", "closeLine", "()V"⟩, 44), (⟨"GargoyleCloseModel", "wrong", "(II)V"⟩, 44), (⟨"GargoyleCloseModel", "after", "(Ljava/lang/String;II)I"⟩, 44), (⟨"GargoyleCloseModel", "must", "(Ljava/lang/String;)V"⟩, 44), (⟨"GargoyleCloseModel", "takesWord", "(Ljava/lang/String;)Z"⟩, 44), (⟨"GargoyleCloseModel", "number", "(II)I"⟩, 44), (⟨"GargoyleCloseModel", "numberHere", "(II)I"⟩, 44), (⟨"GargoyleCloseModel", "pass", "()V"⟩, 44), (⟨"GargoyleCloseModel", "begins", "(Ljava/lang/String;Z)Z"⟩, 44), (⟨"GargoyleCloseModel", "wallLine", "()V"⟩, 44), (⟨"GargoyleCloseModel", "cellHere", "()I"⟩, 44), (⟨"GargoyleCloseModel", "faceLine", "()V"⟩, 44), (⟨"GargoyleCloseModel", "newName", "(I)V"⟩, 44), (⟨"GargoyleCloseModel", "mustName", "()V"⟩, 44), (⟨"GargoyleCloseModel", "find", "()I"⟩, 44)]
theorem lw_r5 : ∀ q ∈ lw_privs_5, lw_okq q := List.forall_mem_cons.mpr ⟨lw_p64, List.forall_mem_cons.mpr ⟨lw_p65, List.forall_mem_cons.mpr ⟨lw_p66, List.forall_mem_cons.mpr ⟨lw_p67, List.forall_mem_cons.mpr ⟨lw_p68, List.forall_mem_cons.mpr ⟨lw_p69, List.forall_mem_cons.mpr ⟨lw_p70, List.forall_mem_cons.mpr ⟨lw_p71, List.forall_mem_cons.mpr ⟨lw_p72, List.forall_mem_cons.mpr ⟨lw_p73, List.forall_mem_cons.mpr ⟨lw_p74, List.forall_mem_cons.mpr ⟨lw_p75, List.forall_mem_cons.mpr ⟨lw_p76, List.forall_mem_cons.mpr ⟨lw_p77, List.forall_mem_cons.mpr ⟨lw_p78, List.forall_mem_cons.mpr ⟨lw_p79, fun _ h => absurd h List.not_mem_nil⟩⟩⟩⟩⟩⟩⟩⟩⟩⟩⟩⟩⟩⟩⟩⟩
theorem lw_p80 : lw_okq (⟨"GargoyleCloseModel", "canonLine", "()V"⟩, 44) := ⟨⟨by decide +kernel, by decide +kernel⟩, List.mem_of_getElem? (i := 1115) (by decide +kernel), List.mem_of_getElem? (i := 1380) (by decide +kernel), List.mem_of_getElem? (i := 1381) (by decide +kernel)⟩
theorem lw_p81 : lw_okq (⟨"GargoyleCloseModel", "named", "(II)I"⟩, 44) := ⟨⟨by decide +kernel, by decide +kernel⟩, List.mem_of_getElem? (i := 1115) (by decide +kernel), List.mem_of_getElem? (i := 1384) (by decide +kernel), List.mem_of_getElem? (i := 1385) (by decide +kernel)⟩
theorem lw_p82 : lw_okq (⟨"GargoyleCloseModel", "walkerLine", "()V"⟩, 44) := ⟨⟨by decide +kernel, by decide +kernel⟩, List.mem_of_getElem? (i := 1115) (by decide +kernel), List.mem_of_getElem? (i := 1390) (by decide +kernel), List.mem_of_getElem? (i := 1391) (by decide +kernel)⟩
theorem lw_p83 : lw_okq (⟨"GargoyleCloseModel", "openCell", "()I"⟩, 44) := ⟨⟨by decide +kernel, by decide +kernel⟩, List.mem_of_getElem? (i := 1115) (by decide +kernel), List.mem_of_getElem? (i := 1395) (by decide +kernel), List.mem_of_getElem? (i := 1396) (by decide +kernel)⟩
theorem lw_p84 : lw_okq (⟨"GargoyleCloseModel", "unsureLine", "()V"⟩, 44) := ⟨⟨by decide +kernel, by decide +kernel⟩, List.mem_of_getElem? (i := 1115) (by decide +kernel), List.mem_of_getElem? (i := 1400) (by decide +kernel), List.mem_of_getElem? (i := 1401) (by decide +kernel)⟩
theorem lw_p85 : lw_okq (⟨"GargoyleCloseModel", "droppedLine", "()V"⟩, 44) := ⟨⟨by decide +kernel, by decide +kernel⟩, List.mem_of_getElem? (i := 1115) (by decide +kernel), List.mem_of_getElem? (i := 1404) (by decide +kernel), List.mem_of_getElem? (i := 1405) (by decide +kernel)⟩
theorem lw_p86 : lw_okq (⟨"GargoyleCloseModel", "isFace", "(I)Z"⟩, 44) := ⟨⟨by decide +kernel, by decide +kernel⟩, List.mem_of_getElem? (i := 1115) (by decide +kernel), List.mem_of_getElem? (i := 1424) (by decide +kernel), List.mem_of_getElem? (i := 1425) (by decide +kernel)⟩
theorem lw_p87 : lw_okq (⟨"GargoyleCloseModel", "canonOf", "(I)I"⟩, 44) := ⟨⟨by decide +kernel, by decide +kernel⟩, List.mem_of_getElem? (i := 1115) (by decide +kernel), List.mem_of_getElem? (i := 1428) (by decide +kernel), List.mem_of_getElem? (i := 1429) (by decide +kernel)⟩
theorem lw_p88 : lw_okq (⟨"GargoyleCloseModel", "isCanon", "(I)Z"⟩, 44) := ⟨⟨by decide +kernel, by decide +kernel⟩, List.mem_of_getElem? (i := 1115) (by decide +kernel), List.mem_of_getElem? (i := 1436) (by decide +kernel), List.mem_of_getElem? (i := 1437) (by decide +kernel)⟩
theorem lw_p89 : lw_okq (⟨"GargoyleCloseModel", "isCell", "(I)Z"⟩, 44) := ⟨⟨by decide +kernel, by decide +kernel⟩, List.mem_of_getElem? (i := 1115) (by decide +kernel), List.mem_of_getElem? (i := 1444) (by decide +kernel), List.mem_of_getElem? (i := 1445) (by decide +kernel)⟩
theorem lw_p90 : lw_okq (⟨"GargoyleCloseModel", "cells", "()I"⟩, 44) := ⟨⟨by decide +kernel, by decide +kernel⟩, List.mem_of_getElem? (i := 1115) (by decide +kernel), List.mem_of_getElem? (i := 1448) (by decide +kernel), List.mem_of_getElem? (i := 1449) (by decide +kernel)⟩
theorem lw_p91 : lw_okq (⟨"GargoyleCloseModel", "faceOver", "(I)I"⟩, 44) := ⟨⟨by decide +kernel, by decide +kernel⟩, List.mem_of_getElem? (i := 1115) (by decide +kernel), List.mem_of_getElem? (i := 1452) (by decide +kernel), List.mem_of_getElem? (i := 1453) (by decide +kernel)⟩
theorem lw_p92 : lw_okq (⟨"GargoyleCloseModel", "beside", "(I)I"⟩, 44) := ⟨⟨by decide +kernel, by decide +kernel⟩, List.mem_of_getElem? (i := 1115) (by decide +kernel), List.mem_of_getElem? (i := 1456) (by decide +kernel), List.mem_of_getElem? (i := 1457) (by decide +kernel)⟩
theorem lw_p93 : lw_okq (⟨"GargoyleCloseModel", "stepFrom", "(II)I"⟩, 44) := ⟨⟨by decide +kernel, by decide +kernel⟩, List.mem_of_getElem? (i := 1115) (by decide +kernel), List.mem_of_getElem? (i := 1460) (by decide +kernel), List.mem_of_getElem? (i := 1461) (by decide +kernel)⟩
theorem lw_p94 : lw_okq (⟨"GargoyleCloseModel", "isWall", "(I)Z"⟩, 44) := ⟨⟨by decide +kernel, by decide +kernel⟩, List.mem_of_getElem? (i := 1115) (by decide +kernel), List.mem_of_getElem? (i := 1464) (by decide +kernel), List.mem_of_getElem? (i := 1465) (by decide +kernel)⟩
theorem lw_p95 : lw_okq (⟨"GargoyleCloseModel", "aheadWhy", "(ZII)I"⟩, 44) := ⟨⟨by decide +kernel, by decide +kernel⟩, List.mem_of_getElem? (i := 1115) (by decide +kernel), List.mem_of_getElem? (i := 1476) (by decide +kernel), List.mem_of_getElem? (i := 1477) (by decide +kernel)⟩
def lw_privs_6 : List (MethodName × Nat) := [(⟨"GargoyleCloseModel", "canonLine", "()V"⟩, 44), (⟨"GargoyleCloseModel", "named", "(II)I"⟩, 44), (⟨"GargoyleCloseModel", "walkerLine", "()V"⟩, 44), (⟨"GargoyleCloseModel", "openCell", "()I"⟩, 44), (⟨"GargoyleCloseModel", "unsureLine", "()V"⟩, 44), (⟨"GargoyleCloseModel", "droppedLine", "()V"⟩, 44), (⟨"GargoyleCloseModel", "isFace", "(I)Z"⟩, 44), (⟨"GargoyleCloseModel", "canonOf", "(I)I"⟩, 44), (⟨"GargoyleCloseModel", "isCanon", "(I)Z"⟩, 44), (⟨"GargoyleCloseModel", "isCell", "(I)Z"⟩, 44), (⟨"GargoyleCloseModel", "cells", "()I"⟩, 44), (⟨"GargoyleCloseModel", "faceOver", "(I)I"⟩, 44), (⟨"GargoyleCloseModel", "beside", "(I)I"⟩, 44), (⟨"GargoyleCloseModel", "stepFrom", "(II)I"⟩, 44), (⟨"GargoyleCloseModel", "isWall", "(I)Z"⟩, 44), (⟨"GargoyleCloseModel", "aheadWhy", "(ZII)I"⟩, 44)]
theorem lw_r6 : ∀ q ∈ lw_privs_6, lw_okq q := List.forall_mem_cons.mpr ⟨lw_p80, List.forall_mem_cons.mpr ⟨lw_p81, List.forall_mem_cons.mpr ⟨lw_p82, List.forall_mem_cons.mpr ⟨lw_p83, List.forall_mem_cons.mpr ⟨lw_p84, List.forall_mem_cons.mpr ⟨lw_p85, List.forall_mem_cons.mpr ⟨lw_p86, List.forall_mem_cons.mpr ⟨lw_p87, List.forall_mem_cons.mpr ⟨lw_p88, List.forall_mem_cons.mpr ⟨lw_p89, List.forall_mem_cons.mpr ⟨lw_p90, List.forall_mem_cons.mpr ⟨lw_p91, List.forall_mem_cons.mpr ⟨lw_p92, List.forall_mem_cons.mpr ⟨lw_p93, List.forall_mem_cons.mpr ⟨lw_p94, List.forall_mem_cons.mpr ⟨lw_p95, fun _ h => absurd h List.not_mem_nil⟩⟩⟩⟩⟩⟩⟩⟩⟩⟩⟩⟩⟩⟩⟩⟩
theorem lw_p96 : lw_okq (⟨"GargoyleCloseModel", "why", "(ZZ)I"⟩, 44) := ⟨⟨by decide +kernel, by decide +kernel⟩, List.mem_of_getElem? (i := 1115) (by decide +kernel), List.mem_of_getElem? (i := 1480) (by decide +kernel), List.mem_of_getElem? (i := 1481) (by decide +kernel)⟩
theorem lw_p97 : lw_okq (⟨"GargoyleCloseModel", "daysOn", "(I)V"⟩, 44) := ⟨⟨by decide +kernel, by decide +kernel⟩, List.mem_of_getElem? (i := 1115) (by decide +kernel), List.mem_of_getElem? (i := 1484) (by decide +kernel), List.mem_of_getElem? (i := 1485) (by decide +kernel)⟩
theorem lw_p98 : lw_okq (⟨"GargoyleCloseModel", "vexedBy", "(I)V"⟩, 44) := ⟨⟨by decide +kernel, by decide +kernel⟩, List.mem_of_getElem? (i := 1115) (by decide +kernel), List.mem_of_getElem? (i := 1488) (by decide +kernel), List.mem_of_getElem? (i := 1489) (by decide +kernel)⟩
theorem lw_p99 : lw_okq (⟨"GargoyleCloseModel", "dayOn", "([IZ)V"⟩, 44) := ⟨⟨by decide +kernel, by decide +kernel⟩, List.mem_of_getElem? (i := 1115) (by decide +kernel), List.mem_of_getElem? (i := 1492) (by decide +kernel), List.mem_of_getElem? (i := 1493) (by decide +kernel)⟩
theorem lw_p100 : lw_okq (⟨"GargoyleCloseModel", "letsGo", "([II)I"⟩, 44) := ⟨⟨by decide +kernel, by decide +kernel⟩, List.mem_of_getElem? (i := 1115) (by decide +kernel), List.mem_of_getElem? (i := 1496) (by decide +kernel), List.mem_of_getElem? (i := 1497) (by decide +kernel)⟩
theorem lw_p101 : lw_okq (⟨"GargoyleCloseModel", "wetOften", "(II)I"⟩, 44) := ⟨⟨by decide +kernel, by decide +kernel⟩, List.mem_of_getElem? (i := 1115) (by decide +kernel), List.mem_of_getElem? (i := 1524) (by decide +kernel), List.mem_of_getElem? (i := 1525) (by decide +kernel)⟩
theorem lw_p102 : lw_okq (⟨"GargoyleCloseModel", "fallenOn", "([I)I"⟩, 44) := ⟨⟨by decide +kernel, by decide +kernel⟩, List.mem_of_getElem? (i := 1115) (by decide +kernel), List.mem_of_getElem? (i := 1544) (by decide +kernel), List.mem_of_getElem? (i := 1545) (by decide +kernel)⟩
theorem lw_p103 : lw_okq (⟨"GargoyleCloseModel", "planWhy", "(ZI)I"⟩, 44) := ⟨⟨by decide +kernel, by decide +kernel⟩, List.mem_of_getElem? (i := 1115) (by decide +kernel), List.mem_of_getElem? (i := 1552) (by decide +kernel), List.mem_of_getElem? (i := 1553) (by decide +kernel)⟩
theorem lw_p104 : lw_okq (⟨"GargoyleCloseModel", "mayHave", "(II)Z"⟩, 44) := ⟨⟨by decide +kernel, by decide +kernel⟩, List.mem_of_getElem? (i := 1115) (by decide +kernel), List.mem_of_getElem? (i := 1556) (by decide +kernel), List.mem_of_getElem? (i := 1557) (by decide +kernel)⟩
theorem lw_p105 : lw_okq (⟨"GargoyleCloseModel", "planAsNow", "()V"⟩, 44) := ⟨⟨by decide +kernel, by decide +kernel⟩, List.mem_of_getElem? (i := 1115) (by decide +kernel), List.mem_of_getElem? (i := 1560) (by decide +kernel), List.mem_of_getElem? (i := 1561) (by decide +kernel)⟩
theorem lw_p106 : lw_okq (⟨"GargoyleCloseModel", "goByPlan", "(I)V"⟩, 44) := ⟨⟨by decide +kernel, by decide +kernel⟩, List.mem_of_getElem? (i := 1115) (by decide +kernel), List.mem_of_getElem? (i := 1564) (by decide +kernel), List.mem_of_getElem? (i := 1565) (by decide +kernel)⟩
theorem lw_p107 : lw_okq (⟨"GargoyleCloseModel", "letsOf", "([I)I"⟩, 44) := ⟨⟨by decide +kernel, by decide +kernel⟩, List.mem_of_getElem? (i := 1115) (by decide +kernel), List.mem_of_getElem? (i := 1571) (by decide +kernel), List.mem_of_getElem? (i := 1572) (by decide +kernel)⟩
theorem lw_p108 : lw_okq (⟨"GargoyleCloseModel", "isBest", "(I)Z"⟩, 44) := ⟨⟨by decide +kernel, by decide +kernel⟩, List.mem_of_getElem? (i := 1115) (by decide +kernel), List.mem_of_getElem? (i := 1579) (by decide +kernel), List.mem_of_getElem? (i := 1580) (by decide +kernel)⟩
theorem lw_p109 : lw_okq (⟨"GargoyleCloseModel", "seekMatch", "(I)V"⟩, 44) := ⟨⟨by decide +kernel, by decide +kernel⟩, List.mem_of_getElem? (i := 1115) (by decide +kernel), List.mem_of_getElem? (i := 1587) (by decide +kernel), List.mem_of_getElem? (i := 1588) (by decide +kernel)⟩
theorem lw_p110 : lw_okq (⟨"GargoyleCloseModel", "tryPlans", "(III)V"⟩, 44) := ⟨⟨by decide +kernel, by decide +kernel⟩, List.mem_of_getElem? (i := 1115) (by decide +kernel), List.mem_of_getElem? (i := 1591) (by decide +kernel), List.mem_of_getElem? (i := 1592) (by decide +kernel)⟩
theorem lw_p111 : lw_okq (⟨"GargoyleCloseModel", "stepsOf", "(II)I"⟩, 44) := ⟨⟨by decide +kernel, by decide +kernel⟩, List.mem_of_getElem? (i := 1115) (by decide +kernel), List.mem_of_getElem? (i := 1607) (by decide +kernel), List.mem_of_getElem? (i := 1608) (by decide +kernel)⟩
def lw_privs_7 : List (MethodName × Nat) := [(⟨"GargoyleCloseModel", "why", "(ZZ)I"⟩, 44), (⟨"GargoyleCloseModel", "daysOn", "(I)V"⟩, 44), (⟨"GargoyleCloseModel", "vexedBy", "(I)V"⟩, 44), (⟨"GargoyleCloseModel", "dayOn", "([IZ)V"⟩, 44), (⟨"GargoyleCloseModel", "letsGo", "([II)I"⟩, 44), (⟨"GargoyleCloseModel", "wetOften", "(II)I"⟩, 44), (⟨"GargoyleCloseModel", "fallenOn", "([I)I"⟩, 44), (⟨"GargoyleCloseModel", "planWhy", "(ZI)I"⟩, 44), (⟨"GargoyleCloseModel", "mayHave", "(II)Z"⟩, 44), (⟨"GargoyleCloseModel", "planAsNow", "()V"⟩, 44), (⟨"GargoyleCloseModel", "goByPlan", "(I)V"⟩, 44), (⟨"GargoyleCloseModel", "letsOf", "([I)I"⟩, 44), (⟨"GargoyleCloseModel", "isBest", "(I)Z"⟩, 44), (⟨"GargoyleCloseModel", "seekMatch", "(I)V"⟩, 44), (⟨"GargoyleCloseModel", "tryPlans", "(III)V"⟩, 44), (⟨"GargoyleCloseModel", "stepsOf", "(II)I"⟩, 44)]
theorem lw_r7 : ∀ q ∈ lw_privs_7, lw_okq q := List.forall_mem_cons.mpr ⟨lw_p96, List.forall_mem_cons.mpr ⟨lw_p97, List.forall_mem_cons.mpr ⟨lw_p98, List.forall_mem_cons.mpr ⟨lw_p99, List.forall_mem_cons.mpr ⟨lw_p100, List.forall_mem_cons.mpr ⟨lw_p101, List.forall_mem_cons.mpr ⟨lw_p102, List.forall_mem_cons.mpr ⟨lw_p103, List.forall_mem_cons.mpr ⟨lw_p104, List.forall_mem_cons.mpr ⟨lw_p105, List.forall_mem_cons.mpr ⟨lw_p106, List.forall_mem_cons.mpr ⟨lw_p107, List.forall_mem_cons.mpr ⟨lw_p108, List.forall_mem_cons.mpr ⟨lw_p109, List.forall_mem_cons.mpr ⟨lw_p110, List.forall_mem_cons.mpr ⟨lw_p111, fun _ h => absurd h List.not_mem_nil⟩⟩⟩⟩⟩⟩⟩⟩⟩⟩⟩⟩⟩⟩⟩⟩
theorem lw_p112 : lw_okq (⟨"GargoyleCloseModel", "layCosts", "(II)V"⟩, 44) := ⟨⟨by decide +kernel, by decide +kernel⟩, List.mem_of_getElem? (i := 1115) (by decide +kernel), List.mem_of_getElem? (i := 1611) (by decide +kernel), List.mem_of_getElem? (i := 1612) (by decide +kernel)⟩
theorem lw_p113 : lw_okq (⟨"GargoyleCloseModel", "costOf", "(II)I"⟩, 44) := ⟨⟨by decide +kernel, by decide +kernel⟩, List.mem_of_getElem? (i := 1115) (by decide +kernel), List.mem_of_getElem? (i := 1616) (by decide +kernel), List.mem_of_getElem? (i := 1617) (by decide +kernel)⟩
theorem lw_p114 : lw_okq (⟨"GargoyleCloseModel", "isWalker", "(I)Z"⟩, 44) := ⟨⟨by decide +kernel, by decide +kernel⟩, List.mem_of_getElem? (i := 1115) (by decide +kernel), List.mem_of_getElem? (i := 1624) (by decide +kernel), List.mem_of_getElem? (i := 1625) (by decide +kernel)⟩
theorem lw_p115 : lw_okq (⟨"GargoyleCloseModel", "wayOf", "(II)I"⟩, 44) := ⟨⟨by decide +kernel, by decide +kernel⟩, List.mem_of_getElem? (i := 1115) (by decide +kernel), List.mem_of_getElem? (i := 1628) (by decide +kernel), List.mem_of_getElem? (i := 1629) (by decide +kernel)⟩
theorem lw_p116 : lw_okq (⟨"GargoyleCloseModel", "allSteps", "()I"⟩, 44) := ⟨⟨by decide +kernel, by decide +kernel⟩, List.mem_of_getElem? (i := 1115) (by decide +kernel), List.mem_of_getElem? (i := 1648) (by decide +kernel), List.mem_of_getElem? (i := 1649) (by decide +kernel)⟩
theorem lw_p117 : lw_okq (⟨"GargoyleCloseModel", "seekSets", "(I)I"⟩, 44) := ⟨⟨by decide +kernel, by decide +kernel⟩, List.mem_of_getElem? (i := 1115) (by decide +kernel), List.mem_of_getElem? (i := 1656) (by decide +kernel), List.mem_of_getElem? (i := 1657) (by decide +kernel)⟩
theorem lw_p118 : lw_okq (⟨"GargoyleCloseModel", "wrongBy", "(I)I"⟩, 44) := ⟨⟨by decide +kernel, by decide +kernel⟩, List.mem_of_getElem? (i := 1115) (by decide +kernel), List.mem_of_getElem? (i := 1660) (by decide +kernel), List.mem_of_getElem? (i := 1661) (by decide +kernel)⟩
theorem lw_p119 : lw_okq (⟨"GargoyleCloseModel", "askOf", "()I"⟩, 44) := ⟨⟨by decide +kernel, by decide +kernel⟩, List.mem_of_getElem? (i := 1115) (by decide +kernel), List.mem_of_getElem? (i := 1680) (by decide +kernel), List.mem_of_getElem? (i := 1681) (by decide +kernel)⟩
theorem lw_p120 : lw_okq (⟨"GargoyleCloseModel", "leavesOf", "(I)I"⟩, 44) := ⟨⟨by decide +kernel, by decide +kernel⟩, List.mem_of_getElem? (i := 1115) (by decide +kernel), List.mem_of_getElem? (i := 1684) (by decide +kernel), List.mem_of_getElem? (i := 1685) (by decide +kernel)⟩
theorem lw_p121 : lw_okq (⟨"GargoyleCloseModel", "seekRests", "(I)I"⟩, 44) := ⟨⟨by decide +kernel, by decide +kernel⟩, List.mem_of_getElem? (i := 1115) (by decide +kernel), List.mem_of_getElem? (i := 1710) (by decide +kernel), List.mem_of_getElem? (i := 1711) (by decide +kernel)⟩
theorem lw_p122 : lw_okq (⟨"GargoyleCloseModel", "tryCalms", "(II)V"⟩, 44) := ⟨⟨by decide +kernel, by decide +kernel⟩, List.mem_of_getElem? (i := 1115) (by decide +kernel), List.mem_of_getElem? (i := 1722) (by decide +kernel), List.mem_of_getElem? (i := 1723) (by decide +kernel)⟩
theorem lw_p123 : lw_okq (⟨"GargoyleCloseModel", "drawWhy", "(ZII)I"⟩, 44) := ⟨⟨by decide +kernel, by decide +kernel⟩, List.mem_of_getElem? (i := 1115) (by decide +kernel), List.mem_of_getElem? (i := 1737) (by decide +kernel), List.mem_of_getElem? (i := 1738) (by decide +kernel)⟩
theorem lw_p124 : lw_okq (⟨"GargoyleCloseModel", "note", "()V"⟩, 44) := ⟨⟨by decide +kernel, by decide +kernel⟩, List.mem_of_getElem? (i := 1115) (by decide +kernel), List.mem_of_getElem? (i := 1751) (by decide +kernel), List.mem_of_getElem? (i := 1752) (by decide +kernel)⟩
theorem lw_p125 : lw_okq (⟨"GargoyleCloseModel", "isNot", "(I)Z"⟩, 44) := ⟨⟨by decide +kernel, by decide +kernel⟩, List.mem_of_getElem? (i := 1115) (by decide +kernel), List.mem_of_getElem? (i := 1763) (by decide +kernel), List.mem_of_getElem? (i := 1764) (by decide +kernel)⟩
def lw_privs_8 : List (MethodName × Nat) := [(⟨"GargoyleCloseModel", "layCosts", "(II)V"⟩, 44), (⟨"GargoyleCloseModel", "costOf", "(II)I"⟩, 44), (⟨"GargoyleCloseModel", "isWalker", "(I)Z"⟩, 44), (⟨"GargoyleCloseModel", "wayOf", "(II)I"⟩, 44), (⟨"GargoyleCloseModel", "allSteps", "()I"⟩, 44), (⟨"GargoyleCloseModel", "seekSets", "(I)I"⟩, 44), (⟨"GargoyleCloseModel", "wrongBy", "(I)I"⟩, 44), (⟨"GargoyleCloseModel", "askOf", "()I"⟩, 44), (⟨"GargoyleCloseModel", "leavesOf", "(I)I"⟩, 44), (⟨"GargoyleCloseModel", "seekRests", "(I)I"⟩, 44), (⟨"GargoyleCloseModel", "tryCalms", "(II)V"⟩, 44), (⟨"GargoyleCloseModel", "drawWhy", "(ZII)I"⟩, 44), (⟨"GargoyleCloseModel", "note", "()V"⟩, 44), (⟨"GargoyleCloseModel", "isNot", "(I)Z"⟩, 44)]
theorem lw_r8 : ∀ q ∈ lw_privs_8, lw_okq q := List.forall_mem_cons.mpr ⟨lw_p112, List.forall_mem_cons.mpr ⟨lw_p113, List.forall_mem_cons.mpr ⟨lw_p114, List.forall_mem_cons.mpr ⟨lw_p115, List.forall_mem_cons.mpr ⟨lw_p116, List.forall_mem_cons.mpr ⟨lw_p117, List.forall_mem_cons.mpr ⟨lw_p118, List.forall_mem_cons.mpr ⟨lw_p119, List.forall_mem_cons.mpr ⟨lw_p120, List.forall_mem_cons.mpr ⟨lw_p121, List.forall_mem_cons.mpr ⟨lw_p122, List.forall_mem_cons.mpr ⟨lw_p123, List.forall_mem_cons.mpr ⟨lw_p124, List.forall_mem_cons.mpr ⟨lw_p125, fun _ h => absurd h List.not_mem_nil⟩⟩⟩⟩⟩⟩⟩⟩⟩⟩⟩⟩⟩⟩
def lw_privs : List (MethodName × Nat) := lw_privs_1 ++ (lw_privs_2 ++ (lw_privs_3 ++ (lw_privs_4 ++ (lw_privs_5 ++ (lw_privs_6 ++ (lw_privs_7 ++ (lw_privs_8)))))))
def lw_tbl : List Cond := k2_sels lw_privs ++ tables_1
theorem lw_privs_ok : ∀ q ∈ lw_privs, lw_okq q := by
  show ∀ q ∈ lw_privs_1 ++ (lw_privs_2 ++ (lw_privs_3 ++ (lw_privs_4 ++ (lw_privs_5 ++ (lw_privs_6 ++ (lw_privs_7 ++ (lw_privs_8))))))), lw_okq q
  exact List.forall_mem_append.mpr ⟨lw_r1, List.forall_mem_append.mpr ⟨lw_r2, List.forall_mem_append.mpr ⟨lw_r3, List.forall_mem_append.mpr ⟨lw_r4, List.forall_mem_append.mpr ⟨lw_r5, List.forall_mem_append.mpr ⟨lw_r6, List.forall_mem_append.mpr ⟨lw_r7, lw_r8⟩⟩⟩⟩⟩⟩⟩
-- ===== end of PART A; then your names; then what follows =====
def RX0 : String := "GargoyleClose$Course"
def TX0 : u_T := fun k => match k with
  | 0 => ("GargoyleClose$Course", "kind", "I", false)
  | 1 => ("GargoyleClose$Course", "wears", "I", false)
  | 2 => ("GargoyleClose$Course", "vexed", "I", false)
  | 3 => ("GargoyleClose$Course", "every", "I", false)
  | 4 => ("GargoyleClose$Course", "number", "I", false)
  | 5 => ("GargoyleClose$Course", "holds", "I", false)
  | 6 => ("GargoyleClose$Course", "bears", "I", false)
  | _ => ("GargoyleClose$Course", "drops", "I", false)
def tyX0 : Nat → FieldType := fun k => match k with
  | 0 => .int
  | 1 => .int
  | 2 => .int
  | 3 => .int
  | 4 => .int
  | 5 => .int
  | 6 => .int
  | _ => .int
abbrev wsX00 : List Cond := u_ws RX0 TX0 8
theorem nmX0 : ∀ a, a < 8 → ∀ b, b < 8 → a ≠ b → (TX0 a).2.1 ≠ (TX0 b).2.1 := by decide +kernel
theorem tyX0_ok : ∀ k, k < 8 → parseFieldDescriptor (TX0 k).2.2.1 = some (tyX0 k) := by decide +kernel
abbrev cX0_init : ByteArray := prog_2_method_1_code
def yX0_init : MethodName := ⟨RX0, "<init>", "()V"⟩
abbrev cX0_start : ByteArray := prog_2_method_2_code
def yX0_start : MethodName := ⟨RX0, "start", "(LGargoyleClose$Plan;III)V"⟩
abbrev cX0_pass : ByteArray := prog_2_method_3_code
def yX0_pass : MethodName := ⟨RX0, "pass", "(Z)Z"⟩
abbrev cX0_passAll : ByteArray := prog_2_method_4_code
def yX0_passAll : MethodName := ⟨RX0, "passAll", "(I)V"⟩
abbrev cX0_firstDrop : ByteArray := prog_2_method_5_code
def yX0_firstDrop : MethodName := ⟨RX0, "firstDrop", "(I)I"⟩
def RX1 : String := "GargoyleClose$Matching"
def TX1 : u_T := fun k => match k with
  | 0 => ("GargoyleClose$Matching", "more", "[[I", true)
  | 1 => ("GargoyleClose$Matching", "without", "[I", true)
  | 2 => ("GargoyleClose$Matching", "row", "[I", true)
  | 3 => ("GargoyleClose$Matching", "best", "[I", true)
  | 4 => ("GargoyleClose$Matching", "faces", "I", false)
  | 5 => ("GargoyleClose$Matching", "canons", "I", false)
  | 6 => ("GargoyleClose$Matching", "free", "I", false)
  | 7 => ("GargoyleClose$Matching", "idle", "I", false)
  | _ => ("GargoyleClose$Matching", "least", "I", false)
def tyX1 : Nat → FieldType := fun k => match k with
  | 0 => .array (.array .int)
  | 1 => .array .int
  | 2 => .array .int
  | 3 => .array .int
  | 4 => .int
  | 5 => .int
  | 6 => .int
  | 7 => .int
  | _ => .int
abbrev wsX10 : List Cond := u_ws RX1 TX1 9
theorem nmX1 : ∀ a, a < 9 → ∀ b, b < 9 → a ≠ b → (TX1 a).2.1 ≠ (TX1 b).2.1 := by decide +kernel
theorem tyX1_ok : ∀ k, k < 9 → parseFieldDescriptor (TX1 k).2.2.1 = some (tyX1 k) := by decide +kernel
abbrev cX1_init : ByteArray := prog_3_method_1_code
def yX1_init : MethodName := ⟨RX1, "<init>", "()V"⟩
abbrev cX1_clear : ByteArray := prog_3_method_2_code
def yX1_clear : MethodName := ⟨RX1, "clear", "(II)V"⟩
abbrev cX1_addFace : ByteArray := prog_3_method_3_code
def yX1_addFace : MethodName := ⟨RX1, "addFace", "(II)V"⟩
abbrev cX1_setCost : ByteArray := prog_3_method_4_code
def yX1_setCost : MethodName := ⟨RX1, "setCost", "(III)V"⟩
abbrev cX1_solve : ByteArray := prog_3_method_5_code
def yX1_solve : MethodName := ⟨RX1, "solve", "()V"⟩
abbrev cX1_place : ByteArray := prog_3_method_6_code
def yX1_place : MethodName := ⟨RX1, "place", "(III)V"⟩
def RX2 : String := "GargoyleClose$Moment"
def TX2 : u_T := fun k => match k with
  | 0 => ("GargoyleClose$Moment", "holds", "[I", true)
  | 1 => ("GargoyleClose$Moment", "bears", "[I", true)
  | 2 => ("GargoyleClose$Moment", "drops", "[I", true)
  | 3 => ("GargoyleClose$Moment", "faceOf", "[I", true)
  | 4 => ("GargoyleClose$Moment", "days", "I", false)
  | _ => ("GargoyleClose$Moment", "wet", "I", false)
def tyX2 : Nat → FieldType := fun k => match k with
  | 0 => .array .int
  | 1 => .array .int
  | 2 => .array .int
  | 3 => .array .int
  | 4 => .int
  | _ => .int
abbrev wsX20 : List Cond := u_ws RX2 TX2 6
theorem nmX2 : ∀ a, a < 6 → ∀ b, b < 6 → a ≠ b → (TX2 a).2.1 ≠ (TX2 b).2.1 := by decide +kernel
theorem tyX2_ok : ∀ k, k < 6 → parseFieldDescriptor (TX2 k).2.2.1 = some (tyX2 k) := by decide +kernel
abbrev cX2_init : ByteArray := prog_4_method_1_code
def yX2_init : MethodName := ⟨RX2, "<init>", "()V"⟩
abbrev cX2_begin : ByteArray := prog_4_method_2_code
def yX2_begin : MethodName := ⟨RX2, "begin", "(LGargoyleClose$Plan;)V"⟩
abbrev cX2_copy : ByteArray := prog_4_method_3_code
def yX2_copy : MethodName := ⟨RX2, "copy", "(LGargoyleClose$Moment;)V"⟩
abbrev cX2_hasFallen : ByteArray := prog_4_method_4_code
def yX2_hasFallen : MethodName := ⟨RX2, "hasFallen", "(I)Z"⟩
def RX3 : String := "GargoyleClose$Plan"
def TX3 : u_T := fun k => match k with
  | 0 => ("GargoyleClose$Plan", "wide", "I", false)
  | 1 => ("GargoyleClose$Plan", "deep", "I", false)
  | 2 => ("GargoyleClose$Plan", "calm", "I", false)
  | 3 => ("GargoyleClose$Plan", "walls", "I", false)
  | 4 => ("GargoyleClose$Plan", "faces", "I", false)
  | 5 => ("GargoyleClose$Plan", "kind", "[I", true)
  | 6 => ("GargoyleClose$Plan", "holds", "[I", true)
  | 7 => ("GargoyleClose$Plan", "wears", "[I", true)
  | 8 => ("GargoyleClose$Plan", "at", "[I", true)
  | 9 => ("GargoyleClose$Plan", "dropDay", "[I", true)
  | 10 => ("GargoyleClose$Plan", "canons", "I", false)
  | 11 => ("GargoyleClose$Plan", "faceOf", "[I", true)
  | 12 => ("GargoyleClose$Plan", "vexed", "[I", true)
  | 13 => ("GargoyleClose$Plan", "every", "[I", true)
  | 14 => ("GargoyleClose$Plan", "walkers", "I", false)
  | 15 => ("GargoyleClose$Plan", "from", "[I", true)
  | 16 => ("GargoyleClose$Plan", "to", "[I", true)
  | 17 => ("GargoyleClose$Plan", "unsures", "I", false)
  | 18 => ("GargoyleClose$Plan", "unsure", "[I", true)
  | _ => ("GargoyleClose$Plan", "otherwise", "[I", true)
def tyX3 : Nat → FieldType := fun k => match k with
  | 0 => .int
  | 1 => .int
  | 2 => .int
  | 3 => .int
  | 4 => .int
  | 5 => .array .int
  | 6 => .array .int
  | 7 => .array .int
  | 8 => .array .int
  | 9 => .array .int
  | 10 => .int
  | 11 => .array .int
  | 12 => .array .int
  | 13 => .array .int
  | 14 => .int
  | 15 => .array .int
  | 16 => .array .int
  | 17 => .int
  | 18 => .array .int
  | _ => .array .int
abbrev wsX30 : List Cond := u_ws RX3 TX3 20
theorem nmX3 : ∀ a, a < 20 → ∀ b, b < 20 → a ≠ b → (TX3 a).2.1 ≠ (TX3 b).2.1 := by decide +kernel
theorem tyX3_ok : ∀ k, k < 20 → parseFieldDescriptor (TX3 k).2.2.1 = some (tyX3 k) := by decide +kernel
abbrev cX3_init : ByteArray := prog_5_method_1_code
def yX3_init : MethodName := ⟨RX3, "<init>", "()V"⟩
abbrev cX3_clear : ByteArray := prog_5_method_2_code
def yX3_clear : MethodName := ⟨RX3, "clear", "()V"⟩
abbrev cX3_cells : ByteArray := prog_5_method_3_code
def yX3_cells : MethodName := ⟨RX3, "cells", "()I"⟩
abbrev cX3_isWall : ByteArray := prog_5_method_4_code
def yX3_isWall : MethodName := ⟨RX3, "isWall", "(I)Z"⟩
abbrev cX3_wallCount : ByteArray := prog_5_method_5_code
def yX3_wallCount : MethodName := ⟨RX3, "wallCount", "()I"⟩
abbrev cX3_open : ByteArray := prog_5_method_6_code
def yX3_open : MethodName := ⟨RX3, "open", "()I"⟩
abbrev cX3_faceOver : ByteArray := prog_5_method_7_code
def yX3_faceOver : MethodName := ⟨RX3, "faceOver", "(I)I"⟩
abbrev cX3_toldCanonOf : ByteArray := prog_5_method_8_code
def yX3_toldCanonOf : MethodName := ⟨RX3, "toldCanonOf", "(I)I"⟩
abbrev cX3_unsureOf : ByteArray := prog_5_method_9_code
def yX3_unsureOf : MethodName := ⟨RX3, "unsureOf", "(I)I"⟩
abbrev cX3_vexedBy : ByteArray := prog_5_method_10_code
def yX3_vexedBy : MethodName := ⟨RX3, "vexedBy", "(II)I"⟩
abbrev cX3_droppedCount : ByteArray := prog_5_method_11_code
def yX3_droppedCount : MethodName := ⟨RX3, "droppedCount", "()I"⟩
def RX4 : String := "GargoyleClose$Reader"
def TX4 : u_T := fun k => match k with
  | 0 => ("GargoyleClose$Reader", "text", "[B", true)
  | 1 => ("GargoyleClose$Reader", "taped", "I", false)
  | 2 => ("GargoyleClose$Reader", "length", "I", false)
  | 3 => ("GargoyleClose$Reader", "plan", "LGargoyleClose$Plan;", false)
  | 4 => ("GargoyleClose$Reader", "sort", "I", false)
  | 5 => ("GargoyleClose$Reader", "start", "I", false)
  | 6 => ("GargoyleClose$Reader", "stop", "I", false)
  | 7 => ("GargoyleClose$Reader", "value", "I", false)
  | 8 => ("GargoyleClose$Reader", "letters", "J", false)
  | 9 => ("GargoyleClose$Reader", "names", "[J", true)
  | 10 => ("GargoyleClose$Reader", "nameSorts", "[I", true)
  | 11 => ("GargoyleClose$Reader", "nameNumbers", "[I", true)
  | 12 => ("GargoyleClose$Reader", "nameCount", "I", false)
  | 13 => ("GargoyleClose$Reader", "found", "I", false)
  | _ => ("GargoyleClose$Reader", "foundAt", "I", false)
def tyX4 : Nat → FieldType := fun k => match k with
  | 0 => .array .byte
  | 1 => .int
  | 2 => .int
  | 3 => .object "GargoyleClose$Plan"
  | 4 => .int
  | 5 => .int
  | 6 => .int
  | 7 => .int
  | 8 => .long
  | 9 => .array .long
  | 10 => .array .int
  | 11 => .array .int
  | 12 => .int
  | 13 => .int
  | _ => .int
abbrev wsX40 : List Cond := u_ws RX4 TX4 15
theorem nmX4 : ∀ a, a < 15 → ∀ b, b < 15 → a ≠ b → (TX4 a).2.1 ≠ (TX4 b).2.1 := by decide +kernel
theorem tyX4_ok : ∀ k, k < 15 → parseFieldDescriptor (TX4 k).2.2.1 = some (tyX4 k) := by decide +kernel
abbrev cX4_init : ByteArray := prog_6_method_1_code
def yX4_init : MethodName := ⟨RX4, "<init>", "()V"⟩
abbrev cX4_tape : ByteArray := prog_6_method_2_code
def yX4_tape : MethodName := ⟨RX4, "tape", "(I)V"⟩
abbrev cX4_reads : ByteArray := prog_6_method_3_code
def yX4_reads : MethodName := ⟨RX4, "reads", "(ILGargoyleClose$Plan;)Z"⟩
abbrev cX4_fails : ByteArray := prog_6_method_4_code
def yX4_fails : MethodName := ⟨RX4, "fails", "(I)Z"⟩
abbrev cX4_take : ByteArray := prog_6_method_5_code
def yX4_take : MethodName := ⟨RX4, "take", "()V"⟩
abbrev cX4_takeWord : ByteArray := prog_6_method_6_code
def yX4_takeWord : MethodName := ⟨RX4, "takeWord", "()V"⟩
abbrev cX4_takeWhole : ByteArray := prog_6_method_7_code
def yX4_takeWhole : MethodName := ⟨RX4, "takeWhole", "()V"⟩
abbrev cX4_isWord : ByteArray := prog_6_method_8_code
def yX4_isWord : MethodName := ⟨RX4, "isWord", "(Ljava/lang/String;)Z"⟩
abbrev cX4_beginsLine : ByteArray := prog_6_method_9_code
def yX4_beginsLine : MethodName := ⟨RX4, "beginsLine", "()Z"⟩
abbrev cX4_readsLine : ByteArray := prog_6_method_10_code
def yX4_readsLine : MethodName := ⟨RX4, "readsLine", "()Z"⟩
abbrev cX4_readsClose : ByteArray := prog_6_method_11_code
def yX4_readsClose : MethodName := ⟨RX4, "readsClose", "()Z"⟩
abbrev cX4_readsWall : ByteArray := prog_6_method_12_code
def yX4_readsWall : MethodName := ⟨RX4, "readsWall", "()Z"⟩
abbrev cX4_readsFace : ByteArray := prog_6_method_13_code
def yX4_readsFace : MethodName := ⟨RX4, "readsFace", "()Z"⟩
abbrev cX4_kindHere : ByteArray := prog_6_method_14_code
def yX4_kindHere : MethodName := ⟨RX4, "kindHere", "()I"⟩
abbrev cX4_readsCanon : ByteArray := prog_6_method_15_code
def yX4_readsCanon : MethodName := ⟨RX4, "readsCanon", "()Z"⟩
abbrev cX4_readsWalker : ByteArray := prog_6_method_16_code
def yX4_readsWalker : MethodName := ⟨RX4, "readsWalker", "()Z"⟩
abbrev cX4_readsUnsure : ByteArray := prog_6_method_17_code
def yX4_readsUnsure : MethodName := ⟨RX4, "readsUnsure", "()Z"⟩
abbrev cX4_readsDropped : ByteArray := prog_6_method_18_code
def yX4_readsDropped : MethodName := ⟨RX4, "readsDropped", "()Z"⟩
abbrev cX4_labelled : ByteArray := prog_6_method_19_code
def yX4_labelled : MethodName := ⟨RX4, "labelled", "(Ljava/lang/String;II)Z"⟩
abbrev cX4_bounded : ByteArray := prog_6_method_20_code
def yX4_bounded : MethodName := ⟨RX4, "bounded", "(II)Z"⟩
abbrev cX4_tells : ByteArray := prog_6_method_21_code
def yX4_tells : MethodName := ⟨RX4, "tells", "(II)Z"⟩
abbrev cX4_named : ByteArray := prog_6_method_22_code
def yX4_named : MethodName := ⟨RX4, "named", "(I)I"⟩
abbrev cX4_nameAt : ByteArray := prog_6_method_23_code
def yX4_nameAt : MethodName := ⟨RX4, "nameAt", "()I"⟩
def RX5 : String := "GargoyleClose$Ways"
def TX5 : u_T := fun k => match k with
  | 0 => ("GargoyleClose$Ways", "cost", "[I", true)
  | _ => ("GargoyleClose$Ways", "wet", "I", false)
def tyX5 : Nat → FieldType := fun k => match k with
  | 0 => .array .int
  | _ => .int
abbrev wsX50 : List Cond := u_ws RX5 TX5 2
theorem nmX5 : ∀ a, a < 2 → ∀ b, b < 2 → a ≠ b → (TX5 a).2.1 ≠ (TX5 b).2.1 := by decide +kernel
theorem tyX5_ok : ∀ k, k < 2 → parseFieldDescriptor (TX5 k).2.2.1 = some (tyX5 k) := by decide +kernel
abbrev cX5_init : ByteArray := prog_7_method_1_code
def yX5_init : MethodName := ⟨RX5, "<init>", "()V"⟩
abbrev cX5_beside : ByteArray := prog_7_method_2_code
def yX5_beside : MethodName := ⟨RX5, "beside", "(LGargoyleClose$Plan;I)I"⟩
abbrev cX5_fewest : ByteArray := prog_7_method_3_code
def yX5_fewest : MethodName := ⟨RX5, "fewest", "(LGargoyleClose$Plan;III)I"⟩
abbrev cX5_measure : ByteArray := prog_7_method_4_code
def yX5_measure : MethodName := ⟨RX5, "measure", "(LGargoyleClose$Plan;II)V"⟩
abbrev cX5_stepAt : ByteArray := prog_7_method_5_code
def yX5_stepAt : MethodName := ⟨RX5, "stepAt", "(LGargoyleClose$Plan;II)I"⟩
abbrev cX5_firstStep : ByteArray := prog_7_method_6_code
def yX5_firstStep : MethodName := ⟨RX5, "firstStep", "(LGargoyleClose$Plan;I)I"⟩
abbrev cX5_leastOnward : ByteArray := prog_7_method_7_code
def yX5_leastOnward : MethodName := ⟨RX5, "leastOnward", "(LGargoyleClose$Plan;I)I"⟩
abbrev cX5_weight : ByteArray := prog_7_method_8_code
def yX5_weight : MethodName := ⟨RX5, "weight", "(I)I"⟩
abbrev cX5_next : ByteArray := prog_7_method_9_code
def yX5_next : MethodName := ⟨RX5, "next", "(LGargoyleClose$Plan;II)I"⟩
def RX6 : String := "GargoyleClose"
def TX6 : u_T := fun k => match k with
  | 0 => ("GargoyleClose", "reader", "LGargoyleClose$Reader;", true)
  | 1 => ("GargoyleClose", "plan", "LGargoyleClose$Plan;", false)
  | 2 => ("GargoyleClose", "spare", "LGargoyleClose$Plan;", false)
  | 3 => ("GargoyleClose", "now", "LGargoyleClose$Moment;", true)
  | 4 => ("GargoyleClose", "kept", "[LGargoyleClose$Moment;", true)
  | 5 => ("GargoyleClose", "keptNext", "I", false)
  | 6 => ("GargoyleClose", "keptCount", "I", false)
  | 7 => ("GargoyleClose", "images", "[LGargoyleClose$Moment;", true)
  | 8 => ("GargoyleClose", "imageCount", "I", false)
  | 9 => ("GargoyleClose", "course", "LGargoyleClose$Course;", true)
  | 10 => ("GargoyleClose", "ways", "LGargoyleClose$Ways;", true)
  | 11 => ("GargoyleClose", "matching", "LGargoyleClose$Matching;", true)
  | 12 => ("GargoyleClose", "wetOn", "[I", true)
  | _ => ("GargoyleClose", "refusal", "I", false)
def tyX6 : Nat → FieldType := fun k => match k with
  | 0 => .object "GargoyleClose$Reader"
  | 1 => .object "GargoyleClose$Plan"
  | 2 => .object "GargoyleClose$Plan"
  | 3 => .object "GargoyleClose$Moment"
  | 4 => .array (.object "GargoyleClose$Moment")
  | 5 => .int
  | 6 => .int
  | 7 => .array (.object "GargoyleClose$Moment")
  | 8 => .int
  | 9 => .object "GargoyleClose$Course"
  | 10 => .object "GargoyleClose$Ways"
  | 11 => .object "GargoyleClose$Matching"
  | 12 => .array .int
  | _ => .int
abbrev wsX60 : List Cond := u_ws RX6 TX6 14
theorem nmX6 : ∀ a, a < 14 → ∀ b, b < 14 → a ≠ b → (TX6 a).2.1 ≠ (TX6 b).2.1 := by decide +kernel
theorem tyX6_ok : ∀ k, k < 14 → parseFieldDescriptor (TX6 k).2.2.1 = some (tyX6 k) := by decide +kernel
abbrev cX6_init : ByteArray := prog_1_method_1_code
def yX6_init : MethodName := ⟨RX6, "<init>", "()V"⟩
abbrev cX6_feed : ByteArray := prog_1_method_2_code
def yX6_feed : MethodName := ⟨RX6, "feed", "(IIIII)I"⟩
abbrev cX6_close : ByteArray := prog_1_method_3_code
def yX6_close : MethodName := ⟨RX6, "close", "(I)I"⟩
abbrev cX6_fault : ByteArray := prog_1_method_4_code
def yX6_fault : MethodName := ⟨RX6, "fault", "()I"⟩
abbrev cX6_where : ByteArray := prog_1_method_5_code
def yX6_where : MethodName := ⟨RX6, "where", "()I"⟩
abbrev cX6_face : ByteArray := prog_1_method_6_code
def yX6_face : MethodName := ⟨RX6, "face", "(II)I"⟩
abbrev cX6_canon : ByteArray := prog_1_method_7_code
def yX6_canon : MethodName := ⟨RX6, "canon", "(II)I"⟩
abbrev cX6_cell : ByteArray := prog_1_method_8_code
def yX6_cell : MethodName := ⟨RX6, "cell", "(II)I"⟩
abbrev cX6_burden : ByteArray := prog_1_method_9_code
def yX6_burden : MethodName := ⟨RX6, "burden", "()I"⟩
abbrev cX6_bears : ByteArray := prog_1_method_10_code
def yX6_bears : MethodName := ⟨RX6, "bears", "(II)I"⟩
abbrev cX6_holds : ByteArray := prog_1_method_11_code
def yX6_holds : MethodName := ⟨RX6, "holds", "(II)I"⟩
abbrev cX6_drops : ByteArray := prog_1_method_12_code
def yX6_drops : MethodName := ⟨RX6, "drops", "(II)I"⟩
abbrev cX6_dropsIn : ByteArray := prog_1_method_13_code
def yX6_dropsIn : MethodName := ⟨RX6, "dropsIn", "(I)I"⟩
abbrev cX6_fallsIn : ByteArray := prog_1_method_14_code
def yX6_fallsIn : MethodName := ⟨RX6, "fallsIn", "(I)I"⟩
abbrev cX6_wet : ByteArray := prog_1_method_15_code
def yX6_wet : MethodName := ⟨RX6, "wet", "(I)I"⟩
abbrev cX6_wetDays : ByteArray := prog_1_method_16_code
def yX6_wetDays : MethodName := ⟨RX6, "wetDays", "(II)I"⟩
abbrev cX6_wettest : ByteArray := prog_1_method_17_code
def yX6_wettest : MethodName := ⟨RX6, "wettest", "()I"⟩
abbrev cX6_sunny : ByteArray := prog_1_method_18_code
def yX6_sunny : MethodName := ⟨RX6, "sunny", "()I"⟩
abbrev cX6_heaviest : ByteArray := prog_1_method_19_code
def yX6_heaviest : MethodName := ⟨RX6, "heaviest", "()I"⟩
abbrev cX6_fallen : ByteArray := prog_1_method_20_code
def yX6_fallen : MethodName := ⟨RX6, "fallen", "(I)I"⟩
abbrev cX6_dropsIf : ByteArray := prog_1_method_21_code
def yX6_dropsIf : MethodName := ⟨RX6, "dropsIf", "(III)I"⟩
abbrev cX6_faceFor : ByteArray := prog_1_method_22_code
def yX6_faceFor : MethodName := ⟨RX6, "faceFor", "(II)I"⟩
abbrev cX6_match : ByteArray := prog_1_method_23_code
def yX6_match : MethodName := ⟨RX6, "match", "(I)I"⟩
abbrev cX6_matchDrops : ByteArray := prog_1_method_24_code
def yX6_matchDrops : MethodName := ⟨RX6, "matchDrops", "(I)I"⟩
abbrev cX6_matchAt : ByteArray := prog_1_method_25_code
def yX6_matchAt : MethodName := ⟨RX6, "matchAt", "(II)I"⟩
abbrev cX6_steps : ByteArray := prog_1_method_26_code
def yX6_steps : MethodName := ⟨RX6, "steps", "(II)I"⟩
abbrev cX6_wets : ByteArray := prog_1_method_27_code
def yX6_wets : MethodName := ⟨RX6, "wets", "(II)I"⟩
abbrev cX6_way : ByteArray := prog_1_method_28_code
def yX6_way : MethodName := ⟨RX6, "way", "(II)I"⟩
abbrev cX6_wayAt : ByteArray := prog_1_method_29_code
def yX6_wayAt : MethodName := ⟨RX6, "wayAt", "(III)I"⟩
abbrev cX6_dryDay : ByteArray := prog_1_method_30_code
def yX6_dryDay : MethodName := ⟨RX6, "dryDay", "(I)I"⟩
abbrev cX6_gate : ByteArray := prog_1_method_31_code
def yX6_gate : MethodName := ⟨RX6, "gate", "()I"⟩
abbrev cX6_fits : ByteArray := prog_1_method_32_code
def yX6_fits : MethodName := ⟨RX6, "fits", "()I"⟩
abbrev cX6_fitAt : ByteArray := prog_1_method_33_code
def yX6_fitAt : MethodName := ⟨RX6, "fitAt", "(I)I"⟩
abbrev cX6_could : ByteArray := prog_1_method_34_code
def yX6_could : MethodName := ⟨RX6, "could", "()I"⟩
abbrev cX6_surely : ByteArray := prog_1_method_35_code
def yX6_surely : MethodName := ⟨RX6, "surely", "()I"⟩
abbrev cX6_ask : ByteArray := prog_1_method_36_code
def yX6_ask : MethodName := ⟨RX6, "ask", "()I"⟩
abbrev cX6_askLeaves : ByteArray := prog_1_method_37_code
def yX6_askLeaves : MethodName := ⟨RX6, "askLeaves", "()I"⟩
abbrev cX6_judge : ByteArray := prog_1_method_38_code
def yX6_judge : MethodName := ⟨RX6, "judge", "()I"⟩
abbrev cX6_sulks : ByteArray := prog_1_method_39_code
def yX6_sulks : MethodName := ⟨RX6, "sulks", "(IZZZ)I"⟩
abbrev cX6_rests : ByteArray := prog_1_method_40_code
def yX6_rests : MethodName := ⟨RX6, "rests", "(I)I"⟩
abbrev cX6_rest : ByteArray := prog_1_method_41_code
def yX6_rest : MethodName := ⟨RX6, "rest", "(I)I"⟩
abbrev cX6_odds : ByteArray := prog_1_method_42_code
def yX6_odds : MethodName := ⟨RX6, "odds", "(IIZ)J"⟩
abbrev cX6_mean : ByteArray := prog_1_method_43_code
def yX6_mean : MethodName := ⟨RX6, "mean", "(IIZ)J"⟩
abbrev cX6_borne : ByteArray := prog_1_method_44_code
def yX6_borne : MethodName := ⟨RX6, "borne", "(III)I"⟩
abbrev cX6_firstWet : ByteArray := prog_1_method_45_code
def yX6_firstWet : MethodName := ⟨RX6, "firstWet", "(II)I"⟩
abbrev cX6_day : ByteArray := prog_1_method_46_code
def yX6_day : MethodName := ⟨RX6, "day", "()I"⟩
abbrev cX6_give : ByteArray := prog_1_method_47_code
def yX6_give : MethodName := ⟨RX6, "give", "(II)I"⟩
abbrev cX6_mend : ByteArray := prog_1_method_48_code
def yX6_mend : MethodName := ⟨RX6, "mend", "(I)Z"⟩
abbrev cX6_vex : ByteArray := prog_1_method_49_code
def yX6_vex : MethodName := ⟨RX6, "vex", "(II)I"⟩
abbrev cX6_undo : ByteArray := prog_1_method_50_code
def yX6_undo : MethodName := ⟨RX6, "undo", "()Z"⟩
abbrev cX6_image : ByteArray := prog_1_method_51_code
def yX6_image : MethodName := ⟨RX6, "image", "()I"⟩
abbrev cX6_back : ByteArray := prog_1_method_52_code
def yX6_back : MethodName := ⟨RX6, "back", "(I)Z"⟩
abbrev cX6_led : ByteArray := prog_1_method_53_code
def yX6_led : MethodName := ⟨RX6, "led", "(I)I"⟩
abbrev cX6_size : ByteArray := prog_1_method_54_code
def yX6_size : MethodName := ⟨RX6, "size", "(I)I"⟩
abbrev cX6_trouble : ByteArray := prog_1_method_55_code
def yX6_trouble : MethodName := ⟨RX6, "trouble", "()I"⟩
abbrev cX6_answer : ByteArray := prog_1_method_56_code
def yX6_answer : MethodName := ⟨RX6, "answer", "(I)I"⟩
abbrev cX6_refuse : ByteArray := prog_1_method_57_code
def yX6_refuse : MethodName := ⟨RX6, "refuse", "(I)I"⟩
abbrev cX6_within : ByteArray := prog_1_method_58_code
def yX6_within : MethodName := ⟨RX6, "within", "(III)Z"⟩
abbrev cX6_hasClose : ByteArray := prog_1_method_59_code
def yX6_hasClose : MethodName := ⟨RX6, "hasClose", "()Z"⟩
abbrev cX6_isFace : ByteArray := prog_1_method_60_code
def yX6_isFace : MethodName := ⟨RX6, "isFace", "(I)Z"⟩
abbrev cX6_isCanon : ByteArray := prog_1_method_61_code
def yX6_isCanon : MethodName := ⟨RX6, "isCanon", "(I)Z"⟩
abbrev cX6_isCell : ByteArray := prog_1_method_62_code
def yX6_isCell : MethodName := ⟨RX6, "isCell", "(I)Z"⟩
abbrev cX6_isWalker : ByteArray := prog_1_method_63_code
def yX6_isWalker : MethodName := ⟨RX6, "isWalker", "(I)Z"⟩
abbrev cX6_isSeed : ByteArray := prog_1_method_64_code
def yX6_isSeed : MethodName := ⟨RX6, "isSeed", "(I)Z"⟩
abbrev cX6_canonOf : ByteArray := prog_1_method_65_code
def yX6_canonOf : MethodName := ⟨RX6, "canonOf", "(I)I"⟩
abbrev cX6_canFollow : ByteArray := prog_1_method_66_code
def yX6_canFollow : MethodName := ⟨RX6, "canFollow", "(II)Z"⟩
abbrev cX6_canLookAhead : ByteArray := prog_1_method_67_code
def yX6_canLookAhead : MethodName := ⟨RX6, "canLookAhead", "(III)Z"⟩
abbrev cX6_canWalk : ByteArray := prog_1_method_68_code
def yX6_canWalk : MethodName := ⟨RX6, "canWalk", "(II)Z"⟩
abbrev cX6_canGame : ByteArray := prog_1_method_69_code
def yX6_canGame : MethodName := ⟨RX6, "canGame", "(I)Z"⟩
abbrev cX6_canChance : ByteArray := prog_1_method_70_code
def yX6_canChance : MethodName := ⟨RX6, "canChance", "(II)Z"⟩
abbrev cX6_numberFits : ByteArray := prog_1_method_71_code
def yX6_numberFits : MethodName := ⟨RX6, "numberFits", "(III)Z"⟩
abbrev cX6_startNow : ByteArray := prog_1_method_72_code
def yX6_startNow : MethodName := ⟨RX6, "startNow", "(II)V"⟩
abbrev cX6_follow : ByteArray := prog_1_method_73_code
def yX6_follow : MethodName := ⟨RX6, "follow", "(II)V"⟩
abbrev cX6_foretellWet : ByteArray := prog_1_method_74_code
def yX6_foretellWet : MethodName := ⟨RX6, "foretellWet", "(I)V"⟩
abbrev cX6_wetDaysOf : ByteArray := prog_1_method_75_code
def yX6_wetDaysOf : MethodName := ⟨RX6, "wetDaysOf", "(II)I"⟩
abbrev cX6_firstDropBySeed : ByteArray := prog_1_method_76_code
def yX6_firstDropBySeed : MethodName := ⟨RX6, "firstDropBySeed", "(III)I"⟩
abbrev cX6_draw : ByteArray := prog_1_method_77_code
def yX6_draw : MethodName := ⟨RX6, "draw", "(I)I"⟩
abbrev cX6_isCalm : ByteArray := prog_1_method_78_code
def yX6_isCalm : MethodName := ⟨RX6, "isCalm", "(I)Z"⟩
abbrev cX6_couldHave : ByteArray := prog_1_method_79_code
def yX6_couldHave : MethodName := ⟨RX6, "couldHave", "(II)Z"⟩
abbrev cX6_costOf : ByteArray := prog_1_method_80_code
def yX6_costOf : MethodName := ⟨RX6, "costOf", "(III)I"⟩
abbrev cX6_costIf : ByteArray := prog_1_method_81_code
def yX6_costIf : MethodName := ⟨RX6, "costIf", "(III)I"⟩
abbrev cX6_tooFewFaces : ByteArray := prog_1_method_82_code
def yX6_tooFewFaces : MethodName := ⟨RX6, "tooFewFaces", "()Z"⟩
abbrev cX6_makeMatch : ByteArray := prog_1_method_83_code
def yX6_makeMatch : MethodName := ⟨RX6, "makeMatch", "(I)V"⟩
abbrev cX6_wayCost : ByteArray := prog_1_method_84_code
def yX6_wayCost : MethodName := ⟨RX6, "wayCost", "(II)I"⟩
abbrev cX6_stepsTogether : ByteArray := prog_1_method_85_code
def yX6_stepsTogether : MethodName := ⟨RX6, "stepsTogether", "(I)I"⟩
abbrev cX6_fittingSets : ByteArray := prog_1_method_86_code
def yX6_fittingSets : MethodName := ⟨RX6, "fittingSets", "()I"⟩
abbrev cX6_setFits : ByteArray := prog_1_method_87_code
def yX6_setFits : MethodName := ⟨RX6, "setFits", "(I)Z"⟩
abbrev cX6_dropFits : ByteArray := prog_1_method_88_code
def yX6_dropFits : MethodName := ⟨RX6, "dropFits", "(II)Z"⟩
abbrev cX6_setsWith : ByteArray := prog_1_method_89_code
def yX6_setsWith : MethodName := ⟨RX6, "setsWith", "(II)I"⟩
abbrev cX6_leftAtMost : ByteArray := prog_1_method_90_code
def yX6_leftAtMost : MethodName := ⟨RX6, "leftAtMost", "(II)I"⟩
abbrev cX6_bestToAsk : ByteArray := prog_1_method_91_code
def yX6_bestToAsk : MethodName := ⟨RX6, "bestToAsk", "(I)I"⟩
abbrev cX6_share : ByteArray := prog_1_method_92_code
def yX6_share : MethodName := ⟨RX6, "share", "(IIIZ)I"⟩
abbrev cX6_isRest : ByteArray := prog_1_method_93_code
def yX6_isRest : MethodName := ⟨RX6, "isRest", "(III)Z"⟩
abbrev cX6_chance : ByteArray := prog_1_method_94_code
def yX6_chance : MethodName := ⟨RX6, "chance", "(IIZZ)J"⟩
abbrev cX6_greatestDivisor : ByteArray := prog_1_method_95_code
def yX6_greatestDivisor : MethodName := ⟨RX6, "greatestDivisor", "(JJ)J"⟩
abbrev cX6_keep : ByteArray := prog_1_method_96_code
def yX6_keep : MethodName := ⟨RX6, "keep", "()V"⟩
def RX7 : String := "GargoyleCloseModel"
def TX7 : u_T := fun k => match k with
  | 0 => ("GargoyleCloseModel", "thrown", "I", false)
  | 1 => ("GargoyleCloseModel", "tape", "[I", true)
  | 2 => ("GargoyleCloseModel", "taped", "I", false)
  | 3 => ("GargoyleCloseModel", "size", "I", false)
  | 4 => ("GargoyleCloseModel", "at", "I", false)
  | 5 => ("GargoyleCloseModel", "end", "I", false)
  | 6 => ("GargoyleCloseModel", "token", "I", false)
  | 7 => ("GargoyleCloseModel", "whole", "I", false)
  | 8 => ("GargoyleCloseModel", "nameSize", "I", false)
  | 9 => ("GargoyleCloseModel", "fault", "I", false)
  | 10 => ("GargoyleCloseModel", "place", "I", false)
  | 11 => ("GargoyleCloseModel", "trouble", "I", false)
  | 12 => ("GargoyleCloseModel", "letters", "[I", true)
  | 13 => ("GargoyleCloseModel", "failed", "Z", false)
  | 14 => ("GargoyleCloseModel", "hasClose", "Z", false)
  | 15 => ("GargoyleCloseModel", "\x72", "[I", true)
  | 16 => ("GargoyleCloseModel", "fresh", "[I", true)
  | 17 => ("GargoyleCloseModel", "told", "[I", true)
  | 18 => ("GargoyleCloseModel", "read", "[I", true)
  | 19 => ("GargoyleCloseModel", "st", "[I", true)
  | 20 => ("GargoyleCloseModel", "undone", "[I", true)
  | 21 => ("GargoyleCloseModel", "kept", "[I", true)
  | 22 => ("GargoyleCloseModel", "undos", "I", false)
  | 23 => ("GargoyleCloseModel", "images", "I", false)
  | 24 => ("GargoyleCloseModel", "vexed", "[I", true)
  | 25 => ("GargoyleCloseModel", "trial", "[I", true)
  | 26 => ("GargoyleCloseModel", "goneWall", "I", false)
  | 27 => ("GargoyleCloseModel", "plan", "[I", true)
  | 28 => ("GargoyleCloseModel", "bestPlan", "[I", true)
  | 29 => ("GargoyleCloseModel", "planFalls", "I", false)
  | 30 => ("GargoyleCloseModel", "planLets", "I", false)
  | 31 => ("GargoyleCloseModel", "bestFalls", "I", false)
  | 32 => ("GargoyleCloseModel", "bestLets", "I", false)
  | 33 => ("GargoyleCloseModel", "cost", "[I", true)
  | 34 => ("GargoyleCloseModel", "firstDay", "[I", true)
  | 35 => ("GargoyleCloseModel", "often", "[I", true)
  | 36 => ("GargoyleCloseModel", "setMany", "I", false)
  | 37 => ("GargoyleCloseModel", "someOf", "I", false)
  | 38 => ("GargoyleCloseModel", "allOf", "I", false)
  | 39 => ("GargoyleCloseModel", "firstRest", "I", false)
  | 40 => ("GargoyleCloseModel", "allWeight", "J", false)
  | 41 => ("GargoyleCloseModel", "dropWeight", "J", false)
  | 42 => ("GargoyleCloseModel", "bearSum", "J", false)
  | _ => ("GargoyleCloseModel", "wetFirst", "I", false)
def tyX7 : Nat → FieldType := fun k => match k with
  | 0 => .int
  | 1 => .array .int
  | 2 => .int
  | 3 => .int
  | 4 => .int
  | 5 => .int
  | 6 => .int
  | 7 => .int
  | 8 => .int
  | 9 => .int
  | 10 => .int
  | 11 => .int
  | 12 => .array .int
  | 13 => .boolean
  | 14 => .boolean
  | 15 => .array .int
  | 16 => .array .int
  | 17 => .array .int
  | 18 => .array .int
  | 19 => .array .int
  | 20 => .array .int
  | 21 => .array .int
  | 22 => .int
  | 23 => .int
  | 24 => .array .int
  | 25 => .array .int
  | 26 => .int
  | 27 => .array .int
  | 28 => .array .int
  | 29 => .int
  | 30 => .int
  | 31 => .int
  | 32 => .int
  | 33 => .array .int
  | 34 => .array .int
  | 35 => .array .int
  | 36 => .int
  | 37 => .int
  | 38 => .int
  | 39 => .int
  | 40 => .long
  | 41 => .long
  | 42 => .long
  | _ => .int
abbrev wsX70 : List Cond := u_ws RX7 TX7 44
theorem nmX7 : ∀ a, a < 44 → ∀ b, b < 44 → a ≠ b → (TX7 a).2.1 ≠ (TX7 b).2.1 := by decide +kernel
theorem tyX7_ok : ∀ k, k < 44 → parseFieldDescriptor (TX7 k).2.2.1 = some (tyX7 k) := by decide +kernel
abbrev cX7_init : ByteArray := prog_9_method_1_code
def yX7_init : MethodName := ⟨RX7, "<init>", "()V"⟩
abbrev cX7_thrown : ByteArray := prog_9_method_2_code
def yX7_thrown : MethodName := ⟨RX7, "thrown", "()I"⟩
abbrev cX7_good : ByteArray := prog_9_method_3_code
def yX7_good : MethodName := ⟨RX7, "good", "()V"⟩
abbrev cX7_no : ByteArray := prog_9_method_4_code
def yX7_no : MethodName := ⟨RX7, "no", "(I)I"⟩
abbrev cX7_isNot : ByteArray := prog_9_method_5_code
def yX7_isNot : MethodName := ⟨RX7, "isNot", "(I)Z"⟩
abbrev cX7_in : ByteArray := prog_9_method_6_code
def yX7_in : MethodName := ⟨RX7, "in", "(III)Z"⟩
abbrev cX7_hasBit : ByteArray := prog_9_method_7_code
def yX7_hasBit : MethodName := ⟨RX7, "hasBit", "(II)Z"⟩
abbrev cX7_ones : ByteArray := prog_9_method_8_code
def yX7_ones : MethodName := ⟨RX7, "ones", "(I)I"⟩
abbrev cX7_copy : ByteArray := prog_9_method_9_code
def yX7_copy : MethodName := ⟨RX7, "copy", "([II[III)V"⟩
abbrev cX7_lowest : ByteArray := prog_9_method_10_code
def yX7_lowest : MethodName := ⟨RX7, "lowest", "(JJZ)J"⟩
abbrev cX7_feed : ByteArray := prog_9_method_11_code
def yX7_feed : MethodName := ⟨RX7, "feed", "(IIIII)I"⟩
abbrev cX7_see : ByteArray := prog_9_method_12_code
def yX7_see : MethodName := ⟨RX7, "see", "(I)I"⟩
abbrev cX7_isSmall : ByteArray := prog_9_method_13_code
def yX7_isSmall : MethodName := ⟨RX7, "isSmall", "(I)Z"⟩
abbrev cX7_isDigit : ByteArray := prog_9_method_14_code
def yX7_isDigit : MethodName := ⟨RX7, "isDigit", "(I)Z"⟩
abbrev cX7_next : ByteArray := prog_9_method_15_code
def yX7_next : MethodName := ⟨RX7, "next", "()V"⟩
abbrev cX7_wrong : ByteArray := prog_9_method_16_code
def yX7_wrong : MethodName := ⟨RX7, "wrong", "(II)V"⟩
abbrev cX7_isWord : ByteArray := prog_9_method_17_code
def yX7_isWord : MethodName := ⟨RX7, "isWord", "(Ljava/lang/String;)Z"⟩
abbrev cX7_takesWord : ByteArray := prog_9_method_18_code
def yX7_takesWord : MethodName := ⟨RX7, "takesWord", "(Ljava/lang/String;)Z"⟩
abbrev cX7_must : ByteArray := prog_9_method_19_code
def yX7_must : MethodName := ⟨RX7, "must", "(Ljava/lang/String;)V"⟩
abbrev cX7_mustName : ByteArray := prog_9_method_20_code
def yX7_mustName : MethodName := ⟨RX7, "mustName", "()V"⟩
abbrev cX7_find : ByteArray := prog_9_method_21_code
def yX7_find : MethodName := ⟨RX7, "find", "()I"⟩
abbrev cX7_newName : ByteArray := prog_9_method_22_code
def yX7_newName : MethodName := ⟨RX7, "newName", "(I)V"⟩
abbrev cX7_named : ByteArray := prog_9_method_23_code
def yX7_named : MethodName := ⟨RX7, "named", "(II)I"⟩
abbrev cX7_pass : ByteArray := prog_9_method_24_code
def yX7_pass : MethodName := ⟨RX7, "pass", "()V"⟩
abbrev cX7_numberHere : ByteArray := prog_9_method_25_code
def yX7_numberHere : MethodName := ⟨RX7, "numberHere", "(II)I"⟩
abbrev cX7_number : ByteArray := prog_9_method_26_code
def yX7_number : MethodName := ⟨RX7, "number", "(II)I"⟩
abbrev cX7_after : ByteArray := prog_9_method_27_code
def yX7_after : MethodName := ⟨RX7, "after", "(Ljava/lang/String;II)I"⟩
abbrev cX7_close : ByteArray := prog_9_method_28_code
def yX7_close : MethodName := ⟨RX7, "close", "(I)I"⟩
abbrev cX7_begins : ByteArray := prog_9_method_29_code
def yX7_begins : MethodName := ⟨RX7, "begins", "(Ljava/lang/String;Z)Z"⟩
abbrev cX7_readLine : ByteArray := prog_9_method_30_code
def yX7_readLine : MethodName := ⟨RX7, "readLine", "()V"⟩
abbrev cX7_closeLine : ByteArray := prog_9_method_31_code
def yX7_closeLine : MethodName := ⟨RX7, "closeLine", "()V"⟩
abbrev cX7_cellHere : ByteArray := prog_9_method_32_code
def yX7_cellHere : MethodName := ⟨RX7, "cellHere", "()I"⟩
abbrev cX7_wallLine : ByteArray := prog_9_method_33_code
def yX7_wallLine : MethodName := ⟨RX7, "wallLine", "()V"⟩
abbrev cX7_faceLine : ByteArray := prog_9_method_34_code
def yX7_faceLine : MethodName := ⟨RX7, "faceLine", "()V"⟩
abbrev cX7_canonLine : ByteArray := prog_9_method_35_code
def yX7_canonLine : MethodName := ⟨RX7, "canonLine", "()V"⟩
abbrev cX7_openCell : ByteArray := prog_9_method_36_code
def yX7_openCell : MethodName := ⟨RX7, "openCell", "()I"⟩
abbrev cX7_walkerLine : ByteArray := prog_9_method_37_code
def yX7_walkerLine : MethodName := ⟨RX7, "walkerLine", "()V"⟩
abbrev cX7_unsureLine : ByteArray := prog_9_method_38_code
def yX7_unsureLine : MethodName := ⟨RX7, "unsureLine", "()V"⟩
abbrev cX7_droppedLine : ByteArray := prog_9_method_39_code
def yX7_droppedLine : MethodName := ⟨RX7, "droppedLine", "()V"⟩
abbrev cX7_fault : ByteArray := prog_9_method_40_code
def yX7_fault : MethodName := ⟨RX7, "fault", "()I"⟩
abbrev cX7_where : ByteArray := prog_9_method_41_code
def yX7_where : MethodName := ⟨RX7, "where", "()I"⟩
abbrev cX7_isFace : ByteArray := prog_9_method_42_code
def yX7_isFace : MethodName := ⟨RX7, "isFace", "(I)Z"⟩
abbrev cX7_isCanon : ByteArray := prog_9_method_43_code
def yX7_isCanon : MethodName := ⟨RX7, "isCanon", "(I)Z"⟩
abbrev cX7_cells : ByteArray := prog_9_method_44_code
def yX7_cells : MethodName := ⟨RX7, "cells", "()I"⟩
abbrev cX7_isCell : ByteArray := prog_9_method_45_code
def yX7_isCell : MethodName := ⟨RX7, "isCell", "(I)Z"⟩
abbrev cX7_isWalker : ByteArray := prog_9_method_46_code
def yX7_isWalker : MethodName := ⟨RX7, "isWalker", "(I)Z"⟩
abbrev cX7_why : ByteArray := prog_9_method_47_code
def yX7_why : MethodName := ⟨RX7, "why", "(ZZ)I"⟩
abbrev cX7_vexedBy : ByteArray := prog_9_method_48_code
def yX7_vexedBy : MethodName := ⟨RX7, "vexedBy", "(I)V"⟩
abbrev cX7_letsGo : ByteArray := prog_9_method_49_code
def yX7_letsGo : MethodName := ⟨RX7, "letsGo", "([II)I"⟩
abbrev cX7_dayOn : ByteArray := prog_9_method_50_code
def yX7_dayOn : MethodName := ⟨RX7, "dayOn", "([IZ)V"⟩
abbrev cX7_daysOn : ByteArray := prog_9_method_51_code
def yX7_daysOn : MethodName := ⟨RX7, "daysOn", "(I)V"⟩
abbrev cX7_letsOf : ByteArray := prog_9_method_52_code
def yX7_letsOf : MethodName := ⟨RX7, "letsOf", "([I)I"⟩
abbrev cX7_fallenOn : ByteArray := prog_9_method_53_code
def yX7_fallenOn : MethodName := ⟨RX7, "fallenOn", "([I)I"⟩
abbrev cX7_canonOf : ByteArray := prog_9_method_54_code
def yX7_canonOf : MethodName := ⟨RX7, "canonOf", "(I)I"⟩
abbrev cX7_face : ByteArray := prog_9_method_55_code
def yX7_face : MethodName := ⟨RX7, "face", "(II)I"⟩
abbrev cX7_canon : ByteArray := prog_9_method_56_code
def yX7_canon : MethodName := ⟨RX7, "canon", "(II)I"⟩
abbrev cX7_faceOver : ByteArray := prog_9_method_57_code
def yX7_faceOver : MethodName := ⟨RX7, "faceOver", "(I)I"⟩
abbrev cX7_isWall : ByteArray := prog_9_method_58_code
def yX7_isWall : MethodName := ⟨RX7, "isWall", "(I)Z"⟩
abbrev cX7_stepFrom : ByteArray := prog_9_method_59_code
def yX7_stepFrom : MethodName := ⟨RX7, "stepFrom", "(II)I"⟩
abbrev cX7_beside : ByteArray := prog_9_method_60_code
def yX7_beside : MethodName := ⟨RX7, "beside", "(I)I"⟩
abbrev cX7_cell : ByteArray := prog_9_method_61_code
def yX7_cell : MethodName := ⟨RX7, "cell", "(II)I"⟩
abbrev cX7_burden : ByteArray := prog_9_method_62_code
def yX7_burden : MethodName := ⟨RX7, "burden", "()I"⟩
abbrev cX7_aheadWhy : ByteArray := prog_9_method_63_code
def yX7_aheadWhy : MethodName := ⟨RX7, "aheadWhy", "(ZII)I"⟩
abbrev cX7_bears : ByteArray := prog_9_method_64_code
def yX7_bears : MethodName := ⟨RX7, "bears", "(II)I"⟩
abbrev cX7_holds : ByteArray := prog_9_method_65_code
def yX7_holds : MethodName := ⟨RX7, "holds", "(II)I"⟩
abbrev cX7_drops : ByteArray := prog_9_method_66_code
def yX7_drops : MethodName := ⟨RX7, "drops", "(II)I"⟩
abbrev cX7_dropsIn : ByteArray := prog_9_method_67_code
def yX7_dropsIn : MethodName := ⟨RX7, "dropsIn", "(I)I"⟩
abbrev cX7_fallsIn : ByteArray := prog_9_method_68_code
def yX7_fallsIn : MethodName := ⟨RX7, "fallsIn", "(I)I"⟩
abbrev cX7_wet : ByteArray := prog_9_method_69_code
def yX7_wet : MethodName := ⟨RX7, "wet", "(I)I"⟩
abbrev cX7_wetOften : ByteArray := prog_9_method_70_code
def yX7_wetOften : MethodName := ⟨RX7, "wetOften", "(II)I"⟩
abbrev cX7_wetDays : ByteArray := prog_9_method_71_code
def yX7_wetDays : MethodName := ⟨RX7, "wetDays", "(II)I"⟩
abbrev cX7_wettest : ByteArray := prog_9_method_72_code
def yX7_wettest : MethodName := ⟨RX7, "wettest", "()I"⟩
abbrev cX7_sunny : ByteArray := prog_9_method_73_code
def yX7_sunny : MethodName := ⟨RX7, "sunny", "()I"⟩
abbrev cX7_heaviest : ByteArray := prog_9_method_74_code
def yX7_heaviest : MethodName := ⟨RX7, "heaviest", "()I"⟩
abbrev cX7_fallen : ByteArray := prog_9_method_75_code
def yX7_fallen : MethodName := ⟨RX7, "fallen", "(I)I"⟩
abbrev cX7_planAsNow : ByteArray := prog_9_method_76_code
def yX7_planAsNow : MethodName := ⟨RX7, "planAsNow", "()V"⟩
abbrev cX7_goByPlan : ByteArray := prog_9_method_77_code
def yX7_goByPlan : MethodName := ⟨RX7, "goByPlan", "(I)V"⟩
abbrev cX7_mayHave : ByteArray := prog_9_method_78_code
def yX7_mayHave : MethodName := ⟨RX7, "mayHave", "(II)Z"⟩
abbrev cX7_planWhy : ByteArray := prog_9_method_79_code
def yX7_planWhy : MethodName := ⟨RX7, "planWhy", "(ZI)I"⟩
abbrev cX7_dropsIf : ByteArray := prog_9_method_80_code
def yX7_dropsIf : MethodName := ⟨RX7, "dropsIf", "(III)I"⟩
abbrev cX7_isBest : ByteArray := prog_9_method_81_code
def yX7_isBest : MethodName := ⟨RX7, "isBest", "(I)Z"⟩
abbrev cX7_faceFor : ByteArray := prog_9_method_82_code
def yX7_faceFor : MethodName := ⟨RX7, "faceFor", "(II)I"⟩
abbrev cX7_tryPlans : ByteArray := prog_9_method_83_code
def yX7_tryPlans : MethodName := ⟨RX7, "tryPlans", "(III)V"⟩
abbrev cX7_seekMatch : ByteArray := prog_9_method_84_code
def yX7_seekMatch : MethodName := ⟨RX7, "seekMatch", "(I)V"⟩
abbrev cX7_match : ByteArray := prog_9_method_85_code
def yX7_match : MethodName := ⟨RX7, "match", "(I)I"⟩
abbrev cX7_matchDrops : ByteArray := prog_9_method_86_code
def yX7_matchDrops : MethodName := ⟨RX7, "matchDrops", "(I)I"⟩
abbrev cX7_matchAt : ByteArray := prog_9_method_87_code
def yX7_matchAt : MethodName := ⟨RX7, "matchAt", "(II)I"⟩
abbrev cX7_costOf : ByteArray := prog_9_method_88_code
def yX7_costOf : MethodName := ⟨RX7, "costOf", "(II)I"⟩
abbrev cX7_layCosts : ByteArray := prog_9_method_89_code
def yX7_layCosts : MethodName := ⟨RX7, "layCosts", "(II)V"⟩
abbrev cX7_stepsOf : ByteArray := prog_9_method_90_code
def yX7_stepsOf : MethodName := ⟨RX7, "stepsOf", "(II)I"⟩
abbrev cX7_steps : ByteArray := prog_9_method_91_code
def yX7_steps : MethodName := ⟨RX7, "steps", "(II)I"⟩
abbrev cX7_wayOf : ByteArray := prog_9_method_92_code
def yX7_wayOf : MethodName := ⟨RX7, "wayOf", "(II)I"⟩
abbrev cX7_wets : ByteArray := prog_9_method_93_code
def yX7_wets : MethodName := ⟨RX7, "wets", "(II)I"⟩
abbrev cX7_way : ByteArray := prog_9_method_94_code
def yX7_way : MethodName := ⟨RX7, "way", "(II)I"⟩
abbrev cX7_wayAt : ByteArray := prog_9_method_95_code
def yX7_wayAt : MethodName := ⟨RX7, "wayAt", "(III)I"⟩
abbrev cX7_dryDay : ByteArray := prog_9_method_96_code
def yX7_dryDay : MethodName := ⟨RX7, "dryDay", "(I)I"⟩
abbrev cX7_allSteps : ByteArray := prog_9_method_97_code
def yX7_allSteps : MethodName := ⟨RX7, "allSteps", "()I"⟩
abbrev cX7_gate : ByteArray := prog_9_method_98_code
def yX7_gate : MethodName := ⟨RX7, "gate", "()I"⟩
abbrev cX7_wrongBy : ByteArray := prog_9_method_99_code
def yX7_wrongBy : MethodName := ⟨RX7, "wrongBy", "(I)I"⟩
abbrev cX7_seekSets : ByteArray := prog_9_method_100_code
def yX7_seekSets : MethodName := ⟨RX7, "seekSets", "(I)I"⟩
abbrev cX7_fits : ByteArray := prog_9_method_101_code
def yX7_fits : MethodName := ⟨RX7, "fits", "()I"⟩
abbrev cX7_fitAt : ByteArray := prog_9_method_102_code
def yX7_fitAt : MethodName := ⟨RX7, "fitAt", "(I)I"⟩
abbrev cX7_could : ByteArray := prog_9_method_103_code
def yX7_could : MethodName := ⟨RX7, "could", "()I"⟩
abbrev cX7_surely : ByteArray := prog_9_method_104_code
def yX7_surely : MethodName := ⟨RX7, "surely", "()I"⟩
abbrev cX7_leavesOf : ByteArray := prog_9_method_105_code
def yX7_leavesOf : MethodName := ⟨RX7, "leavesOf", "(I)I"⟩
abbrev cX7_askOf : ByteArray := prog_9_method_106_code
def yX7_askOf : MethodName := ⟨RX7, "askOf", "()I"⟩
abbrev cX7_ask : ByteArray := prog_9_method_107_code
def yX7_ask : MethodName := ⟨RX7, "ask", "()I"⟩
abbrev cX7_askLeaves : ByteArray := prog_9_method_108_code
def yX7_askLeaves : MethodName := ⟨RX7, "askLeaves", "()I"⟩
abbrev cX7_judge : ByteArray := prog_9_method_109_code
def yX7_judge : MethodName := ⟨RX7, "judge", "()I"⟩
abbrev cX7_canonHas : ByteArray := prog_9_method_110_code
def yX7_canonHas : MethodName := ⟨RX7, "canonHas", "(IZZ)I"⟩
abbrev cX7_breadHas : ByteArray := prog_9_method_111_code
def yX7_breadHas : MethodName := ⟨RX7, "breadHas", "(ZZ)I"⟩
abbrev cX7_sulks : ByteArray := prog_9_method_112_code
def yX7_sulks : MethodName := ⟨RX7, "sulks", "(IZZZ)I"⟩
abbrev cX7_seekRests : ByteArray := prog_9_method_113_code
def yX7_seekRests : MethodName := ⟨RX7, "seekRests", "(I)I"⟩
abbrev cX7_rests : ByteArray := prog_9_method_114_code
def yX7_rests : MethodName := ⟨RX7, "rests", "(I)I"⟩
abbrev cX7_rest : ByteArray := prog_9_method_115_code
def yX7_rest : MethodName := ⟨RX7, "rest", "(I)I"⟩
abbrev cX7_tryCalms : ByteArray := prog_9_method_116_code
def yX7_tryCalms : MethodName := ⟨RX7, "tryCalms", "(II)V"⟩
abbrev cX7_odds : ByteArray := prog_9_method_117_code
def yX7_odds : MethodName := ⟨RX7, "odds", "(IIZ)J"⟩
abbrev cX7_mean : ByteArray := prog_9_method_118_code
def yX7_mean : MethodName := ⟨RX7, "mean", "(IIZ)J"⟩
abbrev cX7_drawWhy : ByteArray := prog_9_method_119_code
def yX7_drawWhy : MethodName := ⟨RX7, "drawWhy", "(ZII)I"⟩
abbrev cX7_borne : ByteArray := prog_9_method_120_code
def yX7_borne : MethodName := ⟨RX7, "borne", "(III)I"⟩
abbrev cX7_firstWet : ByteArray := prog_9_method_121_code
def yX7_firstWet : MethodName := ⟨RX7, "firstWet", "(II)I"⟩
abbrev cX7_note : ByteArray := prog_9_method_122_code
def yX7_note : MethodName := ⟨RX7, "note", "()V"⟩
abbrev cX7_day : ByteArray := prog_9_method_123_code
def yX7_day : MethodName := ⟨RX7, "day", "()I"⟩
abbrev cX7_give : ByteArray := prog_9_method_124_code
def yX7_give : MethodName := ⟨RX7, "give", "(II)I"⟩
abbrev cX7_mend : ByteArray := prog_9_method_125_code
def yX7_mend : MethodName := ⟨RX7, "mend", "(I)Z"⟩
abbrev cX7_vex : ByteArray := prog_9_method_126_code
def yX7_vex : MethodName := ⟨RX7, "vex", "(II)I"⟩
abbrev cX7_undo : ByteArray := prog_9_method_127_code
def yX7_undo : MethodName := ⟨RX7, "undo", "()Z"⟩
abbrev cX7_image : ByteArray := prog_9_method_128_code
def yX7_image : MethodName := ⟨RX7, "image", "()I"⟩
abbrev cX7_back : ByteArray := prog_9_method_129_code
def yX7_back : MethodName := ⟨RX7, "back", "(I)Z"⟩
abbrev cX7_led : ByteArray := prog_9_method_130_code
def yX7_led : MethodName := ⟨RX7, "led", "(I)I"⟩
abbrev cX7_size : ByteArray := prog_9_method_131_code
def yX7_size : MethodName := ⟨RX7, "size", "(I)I"⟩
abbrev cX7_trouble : ByteArray := prog_9_method_132_code
def yX7_trouble : MethodName := ⟨RX7, "trouble", "()I"⟩
def RJx145de : String := "java/io/Serializable"
def RJx9f9b0 : String := "java/lang/CharSequence"
def RJxb160c : String := "java/lang/Comparable"
def RJ6 : String := "java/lang/Integer"
abbrev cJ6_bitCount_0f7a4 : ByteArray := prog_14_method_49_code
def yJ6_bitCount_0f7a4 : MethodName := ⟨RJ6, "bitCount", "(I)I"⟩
def RJ9 : String := "java/lang/Math"
abbrev cJ9_max_7cf53 : ByteArray := prog_15_method_65_code
def yJ9_max_7cf53 : MethodName := ⟨RJ9, "max", "(II)I"⟩
abbrev cJ9_max_f86c9 : ByteArray := prog_15_method_66_code
def yJ9_max_f86c9 : MethodName := ⟨RJ9, "max", "(JJ)J"⟩
abbrev cJ9_min_7cf53 : ByteArray := prog_15_method_69_code
def yJ9_min_7cf53 : MethodName := ⟨RJ9, "min", "(II)I"⟩
def RJ0 : String := "java/lang/String"
abbrev cJ0_length_8abf5 : ByteArray := prog_17_method_54_code
def yJ0_length_8abf5 : MethodName := ⟨RJ0, "length", "()I"⟩
abbrev cJ0_charAt_5068e : ByteArray := prog_17_method_56_code
def yJ0_charAt_5068e : MethodName := ⟨RJ0, "charAt", "(I)C"⟩
abbrev cJ0_coder_7d493 : ByteArray := prog_17_method_152_code
def yJ0_coder_7d493 : MethodName := ⟨RJ0, "coder", "()B"⟩
abbrev cJ0_isLatin1_aae02 : ByteArray := prog_17_method_154_code
def yJ0_isLatin1_aae02 : MethodName := ⟨RJ0, "isLatin1", "()Z"⟩
abbrev cJ0_checkIndex_df160 : ByteArray := prog_17_method_155_code
def yJ0_checkIndex_df160 : MethodName := ⟨RJ0, "checkIndex", "(II)V"⟩
def RJ1 : String := "java/lang/StringLatin1"
abbrev cJ1_charAt_3b067 : ByteArray := prog_18_method_2_code
def yJ1_charAt_3b067 : MethodName := ⟨RJ1, "charAt", "([BI)C"⟩
def RJ2 : String := "java/lang/StringUTF16"
abbrev cJ2_getChar_3b067 : ByteArray := prog_19_method_5_code
def yJ2_getChar_3b067 : MethodName := ⟨RJ2, "getChar", "([BI)C"⟩
abbrev cJ2_length_9d52b : ByteArray := prog_19_method_6_code
def yJ2_length_9d52b : MethodName := ⟨RJ2, "length", "([B)I"⟩
abbrev cJ2_charAt_3b067 : ByteArray := prog_19_method_83_code
def yJ2_charAt_3b067 : MethodName := ⟨RJ2, "charAt", "([BI)C"⟩
abbrev cJ2_checkIndex_2214a : ByteArray := prog_19_method_91_code
def yJ2_checkIndex_2214a : MethodName := ⟨RJ2, "checkIndex", "(I[B)V"⟩
def RJ10 : String := "java/lang/System"
def RJxfd54e : String := "java/lang/constant/Constable"
def RJx3cf43 : String := "java/lang/constant/ConstantDesc"
def RJ3 : String := "jdk/internal/util/Preconditions"
abbrev cJ3_checkIndex_8e157 : ByteArray := prog_25_method_11_code
def yJ3_checkIndex_8e157 : MethodName := ⟨RJ3, "checkIndex", "(IILjava/util/function/BiFunction;)I"⟩
def RL : String := "GargoyleCloseLaw"
abbrev cL_led : ByteArray := method_3_code
def yL_led : MethodName := ⟨RL, "led", "(LGargoyleClose;I[J)I"⟩
abbrev cL_law : ByteArray := code
def yL_law : MethodName := ⟨RL, "law", "([I)Z"⟩
abbrev vwCl : List vw_C := [(RX0, TX0, 8), (RX1, TX1, 9), (RX2, TX2, 6), (RX3, TX3, 20), (RX4, TX4, 15), (RX5, TX5, 2), (RX6, TX6, 14), (RX7, TX7, 44)]
end
section
/-- a method: its name, code, locals, answer -/
abbrev Md : Type := MethodName × ByteArray × Nat × Option FieldType
/-- the tables' words that stay -/
def wB : List Cond := lw_tbl.filter goodWord
def wz (q : Md) : List Cond := .code q.1 q.2.1 q.2.2.1 q.2.2.2 :: wB
theorem wB_of {w : Cond} (i : Nat) (h : lw_tbl[i]? = some w) (hg : goodWord w = true) : w ∈ wB := List.mem_filter.mpr ⟨List.mem_of_getElem? h, hg⟩
theorem wz_good {q q' : Md} (h : Cond.code q'.1 q'.2.1 q'.2.2.1 q'.2.2.2 ∈ wB) : GoodIn (wz q) (wz q') := by
  have hb : ∀ w ∈ wB, w ∈ wz q ∧ ((w.onTables && w.keeps) = true ∨ ∃ ty, w = .arrayClass ty) := fun w hw => ⟨List.mem_cons_of_mem _ hw, good_of_word (List.mem_filter.mp hw).2⟩
  intro w hw
  rcases List.mem_cons.mp hw with e | hw
  · rw [e]; exact hb _ h
  · exact hb w hw
/-- what a callee's words say -/
def cW (q' : Md) (n : Nat) : Prop := Cond.code q'.1 q'.2.1 q'.2.2.1 q'.2.2.2 ∈ wB ∧ Cond.initialized q'.1.cls ∈ wB ∧ (q'.1.cls ≠ "java/lang/invoke/MethodHandle" ∧ q'.1.cls ≠ "java/lang/invoke/VarHandle" ∧ (parseMethodDescriptor q'.1.desc).map (fun d => d.parameters.length) = some n) ∧ q'.2.2.1 ≤ 45
def cV (q' : Md) (n : Nat) : Prop := cW q' n ∧ Cond.instanceMethod q'.1 ∈ wB ∧ Cond.selects q'.1.cls q'.1 q'.1 ∈ wB
def cT (q' : Md) (n : Nat) : Prop := cW q' n ∧ Cond.static q'.1 ∈ wB
def uX0_init : Md := (yX0_init, cX0_init, 1, none)
def uX0_start : Md := (yX0_start, cX0_start, 5, none)
def uX0_pass : Md := (yX0_pass, cX0_pass, 3, (some .boolean))
def uX0_passAll : Md := (yX0_passAll, cX0_passAll, 3, none)
def uX0_firstDrop : Md := (yX0_firstDrop, cX0_firstDrop, 3, (some .int))
def uX1_init : Md := (yX1_init, cX1_init, 1, none)
def uX1_clear : Md := (yX1_clear, cX1_clear, 3, none)
def uX1_addFace : Md := (yX1_addFace, cX1_addFace, 3, none)
def uX1_setCost : Md := (yX1_setCost, cX1_setCost, 4, none)
def uX1_solve : Md := (yX1_solve, cX1_solve, 1, none)
def uX1_place : Md := (yX1_place, cX1_place, 5, none)
def uX2_init : Md := (yX2_init, cX2_init, 1, none)
def uX2_begin : Md := (yX2_begin, cX2_begin, 3, none)
def uX2_copy : Md := (yX2_copy, cX2_copy, 2, none)
def uX2_hasFallen : Md := (yX2_hasFallen, cX2_hasFallen, 2, (some .boolean))
def uX3_init : Md := (yX3_init, cX3_init, 1, none)
def uX3_clear : Md := (yX3_clear, cX3_clear, 2, none)
def uX3_cells : Md := (yX3_cells, cX3_cells, 1, (some .int))
def uX3_isWall : Md := (yX3_isWall, cX3_isWall, 2, (some .boolean))
def uX3_wallCount : Md := (yX3_wallCount, cX3_wallCount, 1, (some .int))
def uX3_open : Md := (yX3_open, cX3_open, 1, (some .int))
def uX3_faceOver : Md := (yX3_faceOver, cX3_faceOver, 3, (some .int))
def uX3_toldCanonOf : Md := (yX3_toldCanonOf, cX3_toldCanonOf, 3, (some .int))
def uX3_unsureOf : Md := (yX3_unsureOf, cX3_unsureOf, 3, (some .int))
def uX3_vexedBy : Md := (yX3_vexedBy, cX3_vexedBy, 4, (some .int))
def uX3_droppedCount : Md := (yX3_droppedCount, cX3_droppedCount, 3, (some .int))
def uX4_init : Md := (yX4_init, cX4_init, 1, none)
def uX4_tape : Md := (yX4_tape, cX4_tape, 3, none)
def uX4_reads : Md := (yX4_reads, cX4_reads, 4, (some .boolean))
def uX4_fails : Md := (yX4_fails, cX4_fails, 2, (some .boolean))
def uX4_take : Md := (yX4_take, cX4_take, 1, none)
def uX4_takeWord : Md := (yX4_takeWord, cX4_takeWord, 1, none)
def uX4_takeWhole : Md := (yX4_takeWhole, cX4_takeWhole, 1, none)
def uX4_isWord : Md := (yX4_isWord, cX4_isWord, 3, (some .boolean))
def uX4_beginsLine : Md := (yX4_beginsLine, cX4_beginsLine, 1, (some .boolean))
def uX4_readsLine : Md := (yX4_readsLine, cX4_readsLine, 1, (some .boolean))
def uX4_readsClose : Md := (yX4_readsClose, cX4_readsClose, 3, (some .boolean))
def uX4_readsWall : Md := (yX4_readsWall, cX4_readsWall, 1, (some .boolean))
def uX4_readsFace : Md := (yX4_readsFace, cX4_readsFace, 3, (some .boolean))
def uX4_kindHere : Md := (yX4_kindHere, cX4_kindHere, 1, (some .int))
def uX4_readsCanon : Md := (yX4_readsCanon, cX4_readsCanon, 3, (some .boolean))
def uX4_readsWalker : Md := (yX4_readsWalker, cX4_readsWalker, 2, (some .boolean))
def uX4_readsUnsure : Md := (yX4_readsUnsure, cX4_readsUnsure, 3, (some .boolean))
def uX4_readsDropped : Md := (yX4_readsDropped, cX4_readsDropped, 2, (some .boolean))
def uX4_labelled : Md := (yX4_labelled, cX4_labelled, 4, (some .boolean))
def uX4_bounded : Md := (yX4_bounded, cX4_bounded, 3, (some .boolean))
def uX4_tells : Md := (yX4_tells, cX4_tells, 3, (some .boolean))
def uX4_named : Md := (yX4_named, cX4_named, 3, (some .int))
def uX4_nameAt : Md := (yX4_nameAt, cX4_nameAt, 2, (some .int))
def uX5_init : Md := (yX5_init, cX5_init, 1, none)
def uX5_beside : Md := (yX5_beside, cX5_beside, 5, (some .int))
def uX5_fewest : Md := (yX5_fewest, cX5_fewest, 9, (some .int))
def uX5_measure : Md := (yX5_measure, cX5_measure, 8, none)
def uX5_stepAt : Md := (yX5_stepAt, cX5_stepAt, 7, (some .int))
def uX5_firstStep : Md := (yX5_firstStep, cX5_firstStep, 5, (some .int))
def uX5_leastOnward : Md := (yX5_leastOnward, cX5_leastOnward, 6, (some .int))
def uX5_weight : Md := (yX5_weight, cX5_weight, 2, (some .int))
def uX5_next : Md := (yX5_next, cX5_next, 9, (some .int))
def uX6_init : Md := (yX6_init, cX6_init, 2, none)
def uX6_feed : Md := (yX6_feed, cX6_feed, 6, (some .int))
def uX6_close : Md := (yX6_close, cX6_close, 3, (some .int))
def uX6_fault : Md := (yX6_fault, cX6_fault, 1, (some .int))
def uX6_where : Md := (yX6_where, cX6_where, 1, (some .int))
def uX6_face : Md := (yX6_face, cX6_face, 3, (some .int))
def uX6_canon : Md := (yX6_canon, cX6_canon, 3, (some .int))
def uX6_cell : Md := (yX6_cell, cX6_cell, 3, (some .int))
def uX6_burden : Md := (yX6_burden, cX6_burden, 3, (some .int))
def uX6_bears : Md := (yX6_bears, cX6_bears, 3, (some .int))
def uX6_holds : Md := (yX6_holds, cX6_holds, 3, (some .int))
def uX6_drops : Md := (yX6_drops, cX6_drops, 3, (some .int))
def uX6_dropsIn : Md := (yX6_dropsIn, cX6_dropsIn, 2, (some .int))
def uX6_fallsIn : Md := (yX6_fallsIn, cX6_fallsIn, 3, (some .int))
def uX6_wet : Md := (yX6_wet, cX6_wet, 2, (some .int))
def uX6_wetDays : Md := (yX6_wetDays, cX6_wetDays, 3, (some .int))
def uX6_wettest : Md := (yX6_wettest, cX6_wettest, 5, (some .int))
def uX6_sunny : Md := (yX6_sunny, cX6_sunny, 2, (some .int))
def uX6_heaviest : Md := (yX6_heaviest, cX6_heaviest, 4, (some .int))
def uX6_fallen : Md := (yX6_fallen, cX6_fallen, 4, (some .int))
def uX6_dropsIf : Md := (yX6_dropsIf, cX6_dropsIf, 4, (some .int))
def uX6_faceFor : Md := (yX6_faceFor, cX6_faceFor, 7, (some .int))
def uX6_match : Md := (yX6_match, cX6_match, 2, (some .int))
def uX6_matchDrops : Md := (yX6_matchDrops, cX6_matchDrops, 2, (some .int))
def uX6_matchAt : Md := (yX6_matchAt, cX6_matchAt, 3, (some .int))
def uX6_steps : Md := (yX6_steps, cX6_steps, 3, (some .int))
def uX6_wets : Md := (yX6_wets, cX6_wets, 4, (some .int))
def uX6_way : Md := (yX6_way, cX6_way, 4, (some .int))
def uX6_wayAt : Md := (yX6_wayAt, cX6_wayAt, 5, (some .int))
def uX6_dryDay : Md := (yX6_dryDay, cX6_dryDay, 4, (some .int))
def uX6_gate : Md := (yX6_gate, cX6_gate, 5, (some .int))
def uX6_fits : Md := (yX6_fits, cX6_fits, 1, (some .int))
def uX6_fitAt : Md := (yX6_fitAt, cX6_fitAt, 5, (some .int))
def uX6_could : Md := (yX6_could, cX6_could, 4, (some .int))
def uX6_surely : Md := (yX6_surely, cX6_surely, 5, (some .int))
def uX6_ask : Md := (yX6_ask, cX6_ask, 1, (some .int))
def uX6_askLeaves : Md := (yX6_askLeaves, cX6_askLeaves, 3, (some .int))
def uX6_judge : Md := (yX6_judge, cX6_judge, 2, (some .int))
def uX6_sulks : Md := (yX6_sulks, cX6_sulks, 5, (some .int))
def uX6_rests : Md := (yX6_rests, cX6_rests, 4, (some .int))
def uX6_rest : Md := (yX6_rest, cX6_rest, 3, (some .int))
def uX6_odds : Md := (yX6_odds, cX6_odds, 4, (some .long))
def uX6_mean : Md := (yX6_mean, cX6_mean, 4, (some .long))
def uX6_borne : Md := (yX6_borne, cX6_borne, 6, (some .int))
def uX6_firstWet : Md := (yX6_firstWet, cX6_firstWet, 6, (some .int))
def uX6_day : Md := (yX6_day, cX6_day, 3, (some .int))
def uX6_give : Md := (yX6_give, cX6_give, 4, (some .int))
def uX6_mend : Md := (yX6_mend, cX6_mend, 3, (some .boolean))
def uX6_vex : Md := (yX6_vex, cX6_vex, 3, (some .int))
def uX6_undo : Md := (yX6_undo, cX6_undo, 1, (some .boolean))
def uX6_image : Md := (yX6_image, cX6_image, 1, (some .int))
def uX6_back : Md := (yX6_back, cX6_back, 2, (some .boolean))
def uX6_led : Md := (yX6_led, cX6_led, 4, (some .int))
def uX6_size : Md := (yX6_size, cX6_size, 2, (some .int))
def uX6_trouble : Md := (yX6_trouble, cX6_trouble, 1, (some .int))
def uX6_answer : Md := (yX6_answer, cX6_answer, 2, (some .int))
def uX6_refuse : Md := (yX6_refuse, cX6_refuse, 2, (some .int))
def uX6_within : Md := (yX6_within, cX6_within, 3, (some .boolean))
def uX6_hasClose : Md := (yX6_hasClose, cX6_hasClose, 1, (some .boolean))
def uX6_isFace : Md := (yX6_isFace, cX6_isFace, 2, (some .boolean))
def uX6_isCanon : Md := (yX6_isCanon, cX6_isCanon, 2, (some .boolean))
def uX6_isCell : Md := (yX6_isCell, cX6_isCell, 2, (some .boolean))
def uX6_isWalker : Md := (yX6_isWalker, cX6_isWalker, 2, (some .boolean))
def uX6_isSeed : Md := (yX6_isSeed, cX6_isSeed, 1, (some .boolean))
def uX6_canonOf : Md := (yX6_canonOf, cX6_canonOf, 3, (some .int))
def uX6_canFollow : Md := (yX6_canFollow, cX6_canFollow, 3, (some .boolean))
def uX6_canLookAhead : Md := (yX6_canLookAhead, cX6_canLookAhead, 4, (some .boolean))
def uX6_canWalk : Md := (yX6_canWalk, cX6_canWalk, 3, (some .boolean))
def uX6_canGame : Md := (yX6_canGame, cX6_canGame, 2, (some .boolean))
def uX6_canChance : Md := (yX6_canChance, cX6_canChance, 3, (some .boolean))
def uX6_numberFits : Md := (yX6_numberFits, cX6_numberFits, 4, (some .boolean))
def uX6_startNow : Md := (yX6_startNow, cX6_startNow, 3, none)
def uX6_follow : Md := (yX6_follow, cX6_follow, 3, none)
def uX6_foretellWet : Md := (yX6_foretellWet, cX6_foretellWet, 4, none)
def uX6_wetDaysOf : Md := (yX6_wetDaysOf, cX6_wetDaysOf, 4, (some .int))
def uX6_firstDropBySeed : Md := (yX6_firstDropBySeed, cX6_firstDropBySeed, 6, (some .int))
def uX6_draw : Md := (yX6_draw, cX6_draw, 1, (some .int))
def uX6_isCalm : Md := (yX6_isCalm, cX6_isCalm, 2, (some .boolean))
def uX6_couldHave : Md := (yX6_couldHave, cX6_couldHave, 4, (some .boolean))
def uX6_costOf : Md := (yX6_costOf, cX6_costOf, 4, (some .int))
def uX6_costIf : Md := (yX6_costIf, cX6_costIf, 7, (some .int))
def uX6_tooFewFaces : Md := (yX6_tooFewFaces, cX6_tooFewFaces, 3, (some .boolean))
def uX6_makeMatch : Md := (yX6_makeMatch, cX6_makeMatch, 4, none)
def uX6_wayCost : Md := (yX6_wayCost, cX6_wayCost, 3, (some .int))
def uX6_stepsTogether : Md := (yX6_stepsTogether, cX6_stepsTogether, 5, (some .int))
def uX6_fittingSets : Md := (yX6_fittingSets, cX6_fittingSets, 3, (some .int))
def uX6_setFits : Md := (yX6_setFits, cX6_setFits, 3, (some .boolean))
def uX6_dropFits : Md := (yX6_dropFits, cX6_dropFits, 4, (some .boolean))
def uX6_setsWith : Md := (yX6_setsWith, cX6_setsWith, 4, (some .int))
def uX6_leftAtMost : Md := (yX6_leftAtMost, cX6_leftAtMost, 3, (some .int))
def uX6_bestToAsk : Md := (yX6_bestToAsk, cX6_bestToAsk, 6, (some .int))
def uX6_share : Md := (yX6_share, cX6_share, 4, (some .int))
def uX6_isRest : Md := (yX6_isRest, cX6_isRest, 3, (some .boolean))
def uX6_chance : Md := (yX6_chance, cX6_chance, 18, (some .long))
def uX6_greatestDivisor : Md := (yX6_greatestDivisor, cX6_greatestDivisor, 11, (some .long))
def uX6_keep : Md := (yX6_keep, cX6_keep, 1, none)
def uX7_init : Md := (yX7_init, cX7_init, 1, none)
def uX7_thrown : Md := (yX7_thrown, cX7_thrown, 1, (some .int))
def uX7_good : Md := (yX7_good, cX7_good, 1, none)
def uX7_no : Md := (yX7_no, cX7_no, 2, (some .int))
def uX7_isNot : Md := (yX7_isNot, cX7_isNot, 2, (some .boolean))
def uX7_in : Md := (yX7_in, cX7_in, 3, (some .boolean))
def uX7_hasBit : Md := (yX7_hasBit, cX7_hasBit, 2, (some .boolean))
def uX7_ones : Md := (yX7_ones, cX7_ones, 3, (some .int))
def uX7_copy : Md := (yX7_copy, cX7_copy, 6, none)
def uX7_lowest : Md := (yX7_lowest, cX7_lowest, 11, (some .long))
def uX7_feed : Md := (yX7_feed, cX7_feed, 8, (some .int))
def uX7_see : Md := (yX7_see, cX7_see, 2, (some .int))
def uX7_isSmall : Md := (yX7_isSmall, cX7_isSmall, 1, (some .boolean))
def uX7_isDigit : Md := (yX7_isDigit, cX7_isDigit, 1, (some .boolean))
def uX7_next : Md := (yX7_next, cX7_next, 4, none)
def uX7_wrong : Md := (yX7_wrong, cX7_wrong, 3, none)
def uX7_isWord : Md := (yX7_isWord, cX7_isWord, 4, (some .boolean))
def uX7_takesWord : Md := (yX7_takesWord, cX7_takesWord, 2, (some .boolean))
def uX7_must : Md := (yX7_must, cX7_must, 2, none)
def uX7_mustName : Md := (yX7_mustName, cX7_mustName, 1, none)
def uX7_find : Md := (yX7_find, cX7_find, 4, (some .int))
def uX7_newName : Md := (yX7_newName, cX7_newName, 3, none)
def uX7_named : Md := (yX7_named, cX7_named, 4, (some .int))
def uX7_pass : Md := (yX7_pass, cX7_pass, 1, none)
def uX7_numberHere : Md := (yX7_numberHere, cX7_numberHere, 3, (some .int))
def uX7_number : Md := (yX7_number, cX7_number, 4, (some .int))
def uX7_after : Md := (yX7_after, cX7_after, 4, (some .int))
def uX7_close : Md := (yX7_close, cX7_close, 3, (some .int))
def uX7_begins : Md := (yX7_begins, cX7_begins, 3, (some .boolean))
def uX7_readLine : Md := (yX7_readLine, cX7_readLine, 1, none)
def uX7_closeLine : Md := (yX7_closeLine, cX7_closeLine, 1, none)
def uX7_cellHere : Md := (yX7_cellHere, cX7_cellHere, 1, (some .int))
def uX7_wallLine : Md := (yX7_wallLine, cX7_wallLine, 2, none)
def uX7_faceLine : Md := (yX7_faceLine, cX7_faceLine, 7, none)
def uX7_canonLine : Md := (yX7_canonLine, cX7_canonLine, 5, none)
def uX7_openCell : Md := (yX7_openCell, cX7_openCell, 2, (some .int))
def uX7_walkerLine : Md := (yX7_walkerLine, cX7_walkerLine, 4, none)
def uX7_unsureLine : Md := (yX7_unsureLine, cX7_unsureLine, 4, none)
def uX7_droppedLine : Md := (yX7_droppedLine, cX7_droppedLine, 3, none)
def uX7_fault : Md := (yX7_fault, cX7_fault, 1, (some .int))
def uX7_where : Md := (yX7_where, cX7_where, 1, (some .int))
def uX7_isFace : Md := (yX7_isFace, cX7_isFace, 2, (some .boolean))
def uX7_isCanon : Md := (yX7_isCanon, cX7_isCanon, 2, (some .boolean))
def uX7_cells : Md := (yX7_cells, cX7_cells, 1, (some .int))
def uX7_isCell : Md := (yX7_isCell, cX7_isCell, 2, (some .boolean))
def uX7_isWalker : Md := (yX7_isWalker, cX7_isWalker, 2, (some .boolean))
def uX7_why : Md := (yX7_why, cX7_why, 3, (some .int))
def uX7_vexedBy : Md := (yX7_vexedBy, cX7_vexedBy, 3, none)
def uX7_letsGo : Md := (yX7_letsGo, cX7_letsGo, 6, (some .int))
def uX7_dayOn : Md := (yX7_dayOn, cX7_dayOn, 5, none)
def uX7_daysOn : Md := (yX7_daysOn, cX7_daysOn, 3, none)
def uX7_letsOf : Md := (yX7_letsOf, cX7_letsOf, 4, (some .int))
def uX7_fallenOn : Md := (yX7_fallenOn, cX7_fallenOn, 4, (some .int))
def uX7_canonOf : Md := (yX7_canonOf, cX7_canonOf, 3, (some .int))
def uX7_face : Md := (yX7_face, cX7_face, 3, (some .int))
def uX7_canon : Md := (yX7_canon, cX7_canon, 3, (some .int))
def uX7_faceOver : Md := (yX7_faceOver, cX7_faceOver, 3, (some .int))
def uX7_isWall : Md := (yX7_isWall, cX7_isWall, 2, (some .boolean))
def uX7_stepFrom : Md := (yX7_stepFrom, cX7_stepFrom, 5, (some .int))
def uX7_beside : Md := (yX7_beside, cX7_beside, 4, (some .int))
def uX7_cell : Md := (yX7_cell, cX7_cell, 3, (some .int))
def uX7_burden : Md := (yX7_burden, cX7_burden, 3, (some .int))
def uX7_aheadWhy : Md := (yX7_aheadWhy, cX7_aheadWhy, 4, (some .int))
def uX7_bears : Md := (yX7_bears, cX7_bears, 4, (some .int))
def uX7_holds : Md := (yX7_holds, cX7_holds, 4, (some .int))
def uX7_drops : Md := (yX7_drops, cX7_drops, 4, (some .int))
def uX7_dropsIn : Md := (yX7_dropsIn, cX7_dropsIn, 3, (some .int))
def uX7_fallsIn : Md := (yX7_fallsIn, cX7_fallsIn, 3, (some .int))
def uX7_wet : Md := (yX7_wet, cX7_wet, 3, (some .int))
def uX7_wetOften : Md := (yX7_wetOften, cX7_wetOften, 5, (some .int))
def uX7_wetDays : Md := (yX7_wetDays, cX7_wetDays, 4, (some .int))
def uX7_wettest : Md := (yX7_wettest, cX7_wettest, 5, (some .int))
def uX7_sunny : Md := (yX7_sunny, cX7_sunny, 2, (some .int))
def uX7_heaviest : Md := (yX7_heaviest, cX7_heaviest, 4, (some .int))
def uX7_fallen : Md := (yX7_fallen, cX7_fallen, 3, (some .int))
def uX7_planAsNow : Md := (yX7_planAsNow, cX7_planAsNow, 2, none)
def uX7_goByPlan : Md := (yX7_goByPlan, cX7_goByPlan, 3, none)
def uX7_mayHave : Md := (yX7_mayHave, cX7_mayHave, 3, (some .boolean))
def uX7_planWhy : Md := (yX7_planWhy, cX7_planWhy, 3, (some .int))
def uX7_dropsIf : Md := (yX7_dropsIf, cX7_dropsIf, 5, (some .int))
def uX7_isBest : Md := (yX7_isBest, cX7_isBest, 2, (some .boolean))
def uX7_faceFor : Md := (yX7_faceFor, cX7_faceFor, 6, (some .int))
def uX7_tryPlans : Md := (yX7_tryPlans, cX7_tryPlans, 5, none)
def uX7_seekMatch : Md := (yX7_seekMatch, cX7_seekMatch, 2, none)
def uX7_match : Md := (yX7_match, cX7_match, 3, (some .int))
def uX7_matchDrops : Md := (yX7_matchDrops, cX7_matchDrops, 3, (some .int))
def uX7_matchAt : Md := (yX7_matchAt, cX7_matchAt, 4, (some .int))
def uX7_costOf : Md := (yX7_costOf, cX7_costOf, 3, (some .int))
def uX7_layCosts : Md := (yX7_layCosts, cX7_layCosts, 7, none)
def uX7_stepsOf : Md := (yX7_stepsOf, cX7_stepsOf, 3, (some .int))
def uX7_steps : Md := (yX7_steps, cX7_steps, 3, (some .int))
def uX7_wayOf : Md := (yX7_wayOf, cX7_wayOf, 4, (some .int))
def uX7_wets : Md := (yX7_wets, cX7_wets, 5, (some .int))
def uX7_way : Md := (yX7_way, cX7_way, 5, (some .int))
def uX7_wayAt : Md := (yX7_wayAt, cX7_wayAt, 8, (some .int))
def uX7_dryDay : Md := (yX7_dryDay, cX7_dryDay, 4, (some .int))
def uX7_allSteps : Md := (yX7_allSteps, cX7_allSteps, 4, (some .int))
def uX7_gate : Md := (yX7_gate, cX7_gate, 5, (some .int))
def uX7_wrongBy : Md := (yX7_wrongBy, cX7_wrongBy, 4, (some .int))
def uX7_seekSets : Md := (yX7_seekSets, cX7_seekSets, 5, (some .int))
def uX7_fits : Md := (yX7_fits, cX7_fits, 1, (some .int))
def uX7_fitAt : Md := (yX7_fitAt, cX7_fitAt, 3, (some .int))
def uX7_could : Md := (yX7_could, cX7_could, 1, (some .int))
def uX7_surely : Md := (yX7_surely, cX7_surely, 1, (some .int))
def uX7_leavesOf : Md := (yX7_leavesOf, cX7_leavesOf, 2, (some .int))
def uX7_askOf : Md := (yX7_askOf, cX7_askOf, 3, (some .int))
def uX7_ask : Md := (yX7_ask, cX7_ask, 1, (some .int))
def uX7_askLeaves : Md := (yX7_askLeaves, cX7_askLeaves, 2, (some .int))
def uX7_judge : Md := (yX7_judge, cX7_judge, 1, (some .int))
def uX7_canonHas : Md := (yX7_canonHas, cX7_canonHas, 3, (some .int))
def uX7_breadHas : Md := (yX7_breadHas, cX7_breadHas, 2, (some .int))
def uX7_sulks : Md := (yX7_sulks, cX7_sulks, 6, (some .int))
def uX7_seekRests : Md := (yX7_seekRests, cX7_seekRests, 6, (some .int))
def uX7_rests : Md := (yX7_rests, cX7_rests, 3, (some .int))
def uX7_rest : Md := (yX7_rest, cX7_rest, 3, (some .int))
def uX7_tryCalms : Md := (yX7_tryCalms, cX7_tryCalms, 7, none)
def uX7_odds : Md := (yX7_odds, cX7_odds, 5, (some .long))
def uX7_mean : Md := (yX7_mean, cX7_mean, 5, (some .long))
def uX7_drawWhy : Md := (yX7_drawWhy, cX7_drawWhy, 7, (some .int))
def uX7_borne : Md := (yX7_borne, cX7_borne, 5, (some .int))
def uX7_firstWet : Md := (yX7_firstWet, cX7_firstWet, 4, (some .int))
def uX7_note : Md := (yX7_note, cX7_note, 2, none)
def uX7_day : Md := (yX7_day, cX7_day, 1, (some .int))
def uX7_give : Md := (yX7_give, cX7_give, 4, (some .int))
def uX7_mend : Md := (yX7_mend, cX7_mend, 3, (some .boolean))
def uX7_vex : Md := (yX7_vex, cX7_vex, 4, (some .int))
def uX7_undo : Md := (yX7_undo, cX7_undo, 1, (some .boolean))
def uX7_image : Md := (yX7_image, cX7_image, 1, (some .int))
def uX7_back : Md := (yX7_back, cX7_back, 2, (some .boolean))
def uX7_led : Md := (yX7_led, cX7_led, 4, (some .int))
def uX7_size : Md := (yX7_size, cX7_size, 2, (some .int))
def uX7_trouble : Md := (yX7_trouble, cX7_trouble, 1, (some .int))
def uJ6_bitCount_0f7a4 : Md := (yJ6_bitCount_0f7a4, cJ6_bitCount_0f7a4, 1, (some .int))
def uJ9_max_7cf53 : Md := (yJ9_max_7cf53, cJ9_max_7cf53, 2, (some .int))
def uJ9_max_f86c9 : Md := (yJ9_max_f86c9, cJ9_max_f86c9, 4, (some .long))
def uJ9_min_7cf53 : Md := (yJ9_min_7cf53, cJ9_min_7cf53, 2, (some .int))
def uJ0_length_8abf5 : Md := (yJ0_length_8abf5, cJ0_length_8abf5, 1, (some .int))
def uJ0_charAt_5068e : Md := (yJ0_charAt_5068e, cJ0_charAt_5068e, 2, (some .char))
def uJ0_coder_7d493 : Md := (yJ0_coder_7d493, cJ0_coder_7d493, 1, (some .byte))
def uJ0_isLatin1_aae02 : Md := (yJ0_isLatin1_aae02, cJ0_isLatin1_aae02, 1, (some .boolean))
def uJ0_checkIndex_df160 : Md := (yJ0_checkIndex_df160, cJ0_checkIndex_df160, 2, none)
def uJ1_charAt_3b067 : Md := (yJ1_charAt_3b067, cJ1_charAt_3b067, 2, (some .char))
def uJ3_checkIndex_8e157 : Md := (yJ3_checkIndex_8e157, cJ3_checkIndex_8e157, 3, (some .int))
theorem wB_all {ws : List Cond} (ps : List Nat) (hp : ws = ps.filterMap (fun i => lw_tbl[i]?)) (h : ws.all goodWord = true) : ∀ w ∈ ws, w ∈ wB := by
  intro w hw
  refine List.mem_filter.mpr ⟨?_, List.all_eq_true.mp h w hw⟩
  rw [hp] at hw
  obtain ⟨i, -, hi⟩ := List.mem_filterMap.mp hw
  exact List.mem_of_getElem? hi
theorem inB0 : ∀ w ∈ u_ws RX0 TX0 8, w ∈ wB := wB_all [372, 374, 376, 378, 380, 382, 384, 386] (by decide +kernel) (by decide +kernel)
theorem inB1 : ∀ w ∈ u_ws RX1 TX1 9, w ∈ wB := wB_all [422, 424, 426, 428, 430, 432, 434, 436, 438] (by decide +kernel) (by decide +kernel)
theorem inB2 : ∀ w ∈ u_ws RX2 TX2 6, w ∈ wB := wB_all [340, 342, 344, 346, 348, 350] (by decide +kernel) (by decide +kernel)
theorem inB3 : ∀ w ∈ u_ws RX3 TX3 20, w ∈ wB := wB_all [281, 283, 285, 287, 289, 291, 293, 295, 297, 299, 301, 303, 305, 307, 309, 311, 313, 315, 317, 319] (by decide +kernel) (by decide +kernel)
theorem inB4 : ∀ w ∈ u_ws RX4 TX4 15, w ∈ wB := wB_all [178, 180, 182, 184, 186, 188, 190, 192, 194, 196, 198, 200, 202, 204, 206] (by decide +kernel) (by decide +kernel)
theorem inB5 : ∀ w ∈ u_ws RX5 TX5 2, w ∈ wB := wB_all [398, 400] (by decide +kernel) (by decide +kernel)
theorem inB6 : ∀ w ∈ u_ws RX6 TX6 14, w ∈ wB := wB_all [455, 457, 459, 461, 463, 465, 467, 469, 471, 473, 475, 477, 479, 481] (by decide +kernel) (by decide +kernel)
theorem inB7 : ∀ w ∈ u_ws RX7 TX7 44, w ∈ wB := wB_all [1290, 1292, 1294, 1296, 1298, 1300, 1302, 1304, 1306, 1308, 1310, 1312, 1314, 1316, 1318, 1320, 1322, 1324, 1326, 1328, 1330, 1332, 1334, 1336, 1338, 1340, 1342, 1344, 1346, 1348, 1350, 1352, 1354, 1356, 1358, 1360, 1362, 1364, 1366, 1368, 1370, 1372, 1374, 1376] (by decide +kernel) (by decide +kernel)
theorem flX6_10 : Cond.fieldLink RX6 10 (TX6 0).1 (TX6 0).2.1 (TX6 0).2.2.1 ∈ wB := wB_of 441 (by decide +kernel) (by decide +kernel)
theorem flX6_19 : Cond.fieldLink RX6 19 (TX6 1).1 (TX6 1).2.1 (TX6 1).2.2.1 ∈ wB := wB_of 442 (by decide +kernel) (by decide +kernel)
theorem flX6_23 : Cond.fieldLink RX6 23 (TX6 2).1 (TX6 2).2.1 (TX6 2).2.2.1 ∈ wB := wB_of 443 (by decide +kernel) (by decide +kernel)
theorem flX6_29 : Cond.fieldLink RX6 29 (TX6 3).1 (TX6 3).2.1 (TX6 3).2.2.1 ∈ wB := wB_of 444 (by decide +kernel) (by decide +kernel)
theorem flX6_33 : Cond.fieldLink RX6 33 (TX6 4).1 (TX6 4).2.1 (TX6 4).2.2.1 ∈ wB := wB_of 445 (by decide +kernel) (by decide +kernel)
theorem flX6_37 : Cond.fieldLink RX6 37 (TX6 5).1 (TX6 5).2.1 (TX6 5).2.2.1 ∈ wB := wB_of 446 (by decide +kernel) (by decide +kernel)
theorem flX6_41 : Cond.fieldLink RX6 41 (TX6 6).1 (TX6 6).2.1 (TX6 6).2.2.1 ∈ wB := wB_of 447 (by decide +kernel) (by decide +kernel)
theorem flX6_44 : Cond.fieldLink RX6 44 (TX6 7).1 (TX6 7).2.1 (TX6 7).2.2.1 ∈ wB := wB_of 448 (by decide +kernel) (by decide +kernel)
theorem flX6_47 : Cond.fieldLink RX6 47 (TX6 8).1 (TX6 8).2.1 (TX6 8).2.2.1 ∈ wB := wB_of 449 (by decide +kernel) (by decide +kernel)
theorem flX6_53 : Cond.fieldLink RX6 53 (TX6 9).1 (TX6 9).2.1 (TX6 9).2.2.1 ∈ wB := wB_of 450 (by decide +kernel) (by decide +kernel)
theorem flX6_60 : Cond.fieldLink RX6 60 (TX6 10).1 (TX6 10).2.1 (TX6 10).2.2.1 ∈ wB := wB_of 451 (by decide +kernel) (by decide +kernel)
theorem flX6_67 : Cond.fieldLink RX6 67 (TX6 11).1 (TX6 11).2.1 (TX6 11).2.2.1 ∈ wB := wB_of 452 (by decide +kernel) (by decide +kernel)
theorem flX6_71 : Cond.fieldLink RX6 71 (TX6 12).1 (TX6 12).2.1 (TX6 12).2.2.1 ∈ wB := wB_of 453 (by decide +kernel) (by decide +kernel)
theorem flX6_75 : Cond.fieldLink RX6 75 (TX6 13).1 (TX6 13).2.1 (TX6 13).2.2.1 ∈ wB := wB_of 454 (by decide +kernel) (by decide +kernel)
theorem flX6_78 : Cond.fieldLink RX6 78 (TX4 1).1 (TX4 1).2.1 (TX4 1).2.2.1 ∈ wB := wB_of 161 (by decide +kernel) (by decide +kernel)
theorem flX6_97 : Cond.fieldLink RX6 97 (TX3 4).1 (TX3 4).2.1 (TX3 4).2.2.1 ∈ wB := wB_of 233 (by decide +kernel) (by decide +kernel)
theorem flX6_103 : Cond.fieldLink RX6 103 (TX4 13).1 (TX4 13).2.1 (TX4 13).2.2.1 ∈ wB := wB_of 175 (by decide +kernel) (by decide +kernel)
theorem flX6_106 : Cond.fieldLink RX6 106 (TX4 14).1 (TX4 14).2.1 (TX4 14).2.2.1 ∈ wB := wB_of 177 (by decide +kernel) (by decide +kernel)
theorem flX6_113 : Cond.fieldLink RX6 113 (TX3 5).1 (TX3 5).2.1 (TX3 5).2.2.1 ∈ wB := wB_of 236 (by decide +kernel) (by decide +kernel)
theorem flX6_116 : Cond.fieldLink RX6 116 (TX2 0).1 (TX2 0).2.1 (TX2 0).2.2.1 ∈ wB := wB_of 329 (by decide +kernel) (by decide +kernel)
theorem flX6_119 : Cond.fieldLink RX6 119 (TX2 1).1 (TX2 1).2.1 (TX2 1).2.2.1 ∈ wB := wB_of 331 (by decide +kernel) (by decide +kernel)
theorem flX6_125 : Cond.fieldLink RX6 125 (TX2 2).1 (TX2 2).2.1 (TX2 2).2.2.1 ∈ wB := wB_of 333 (by decide +kernel) (by decide +kernel)
theorem flX6_131 : Cond.fieldLink RX6 131 (TX3 8).1 (TX3 8).2.1 (TX3 8).2.2.1 ∈ wB := wB_of 247 (by decide +kernel) (by decide +kernel)
theorem flX6_137 : Cond.fieldLink RX6 137 (TX2 3).1 (TX2 3).2.1 (TX2 3).2.2.1 ∈ wB := wB_of 335 (by decide +kernel) (by decide +kernel)
theorem flX6_140 : Cond.fieldLink RX6 140 (TX3 12).1 (TX3 12).2.1 (TX3 12).2.2.1 ∈ wB := wB_of 259 (by decide +kernel) (by decide +kernel)
theorem flX6_143 : Cond.fieldLink RX6 143 (TX3 13).1 (TX3 13).2.1 (TX3 13).2.2.1 ∈ wB := wB_of 263 (by decide +kernel) (by decide +kernel)
theorem flX6_155 : Cond.fieldLink RX6 155 (TX2 5).1 (TX2 5).2.1 (TX2 5).2.2.1 ∈ wB := wB_of 339 (by decide +kernel) (by decide +kernel)
theorem flX6_178 : Cond.fieldLink RX6 178 (TX0 6).1 (TX0 6).2.1 (TX0 6).2.2.1 ∈ wB := wB_of 369 (by decide +kernel) (by decide +kernel)
theorem flX6_180 : Cond.fieldLink RX6 180 (TX0 5).1 (TX0 5).2.1 (TX0 5).2.2.1 ∈ wB := wB_of 367 (by decide +kernel) (by decide +kernel)
theorem flX6_182 : Cond.fieldLink RX6 182 (TX0 7).1 (TX0 7).2.1 (TX0 7).2.2.1 ∈ wB := wB_of 371 (by decide +kernel) (by decide +kernel)
theorem flX6_229 : Cond.fieldLink RX6 229 (TX1 8).1 (TX1 8).2.1 (TX1 8).2.2.1 ∈ wB := wB_of 421 (by decide +kernel) (by decide +kernel)
theorem flX6_232 : Cond.fieldLink RX6 232 (TX1 3).1 (TX1 3).2.1 (TX1 3).2.2.1 ∈ wB := wB_of 415 (by decide +kernel) (by decide +kernel)
theorem flX6_246 : Cond.fieldLink RX6 246 (TX3 15).1 (TX3 15).2.1 (TX3 15).2.2.1 ∈ wB := wB_of 270 (by decide +kernel) (by decide +kernel)
theorem flX6_256 : Cond.fieldLink RX6 256 (TX3 16).1 (TX3 16).2.1 (TX3 16).2.2.1 ∈ wB := wB_of 273 (by decide +kernel) (by decide +kernel)
theorem flX6_270 : Cond.fieldLink RX6 270 (TX3 17).1 (TX3 17).2.1 (TX3 17).2.2.1 ∈ wB := wB_of 276 (by decide +kernel) (by decide +kernel)
theorem flX6_316 : Cond.fieldLink RX6 316 (TX2 4).1 (TX2 4).2.1 (TX2 4).2.2.1 ∈ wB := wB_of 337 (by decide +kernel) (by decide +kernel)
theorem flX6_322 : Cond.fieldLink RX6 322 (TX3 6).1 (TX3 6).2.1 (TX3 6).2.2.1 ∈ wB := wB_of 242 (by decide +kernel) (by decide +kernel)
theorem flX6_330 : Cond.fieldLink RX6 330 (TX3 0).1 (TX3 0).2.1 (TX3 0).2.2.1 ∈ wB := wB_of 221 (by decide +kernel) (by decide +kernel)
theorem flX6_333 : Cond.fieldLink RX6 333 (TX3 1).1 (TX3 1).2.1 (TX3 1).2.2.1 ∈ wB := wB_of 225 (by decide +kernel) (by decide +kernel)
theorem flX6_336 : Cond.fieldLink RX6 336 (TX3 2).1 (TX3 2).2.1 (TX3 2).2.2.1 ∈ wB := wB_of 228 (by decide +kernel) (by decide +kernel)
theorem flX6_342 : Cond.fieldLink RX6 342 (TX3 10).1 (TX3 10).2.1 (TX3 10).2.2.1 ∈ wB := wB_of 254 (by decide +kernel) (by decide +kernel)
theorem flX6_345 : Cond.fieldLink RX6 345 (TX3 14).1 (TX3 14).2.1 (TX3 14).2.2.1 ∈ wB := wB_of 267 (by decide +kernel) (by decide +kernel)
theorem flX6_359 : Cond.fieldLink RX6 359 (TX0 4).1 (TX0 4).2.1 (TX0 4).2.2.1 ∈ wB := wB_of 365 (by decide +kernel) (by decide +kernel)
theorem flX6_385 : Cond.fieldLink RX6 385 (TX5 0).1 (TX5 0).2.1 (TX5 0).2.2.1 ∈ wB := wB_of 396 (by decide +kernel) (by decide +kernel)
theorem flX6_391 : Cond.fieldLink RX6 391 (TX3 9).1 (TX3 9).2.1 (TX3 9).2.2.1 ∈ wB := wB_of 251 (by decide +kernel) (by decide +kernel)
theorem flX0_9 : Cond.fieldLink RX0 9 (TX3 5).1 (TX3 5).2.1 (TX3 5).2.2.1 ∈ wB := wB_of 235 (by decide +kernel) (by decide +kernel)
theorem flX0_15 : Cond.fieldLink RX0 15 (TX0 0).1 (TX0 0).2.1 (TX0 0).2.2.1 ∈ wB := wB_of 360 (by decide +kernel) (by decide +kernel)
theorem flX0_20 : Cond.fieldLink RX0 20 (TX3 7).1 (TX3 7).2.1 (TX3 7).2.2.1 ∈ wB := wB_of 244 (by decide +kernel) (by decide +kernel)
theorem flX0_23 : Cond.fieldLink RX0 23 (TX0 1).1 (TX0 1).2.1 (TX0 1).2.2.1 ∈ wB := wB_of 361 (by decide +kernel) (by decide +kernel)
theorem flX0_25 : Cond.fieldLink RX0 25 (TX0 2).1 (TX0 2).2.1 (TX0 2).2.2.1 ∈ wB := wB_of 362 (by decide +kernel) (by decide +kernel)
theorem flX0_28 : Cond.fieldLink RX0 28 (TX3 13).1 (TX3 13).2.1 (TX3 13).2.2.1 ∈ wB := wB_of 262 (by decide +kernel) (by decide +kernel)
theorem flX0_31 : Cond.fieldLink RX0 31 (TX0 3).1 (TX0 3).2.1 (TX0 3).2.2.1 ∈ wB := wB_of 363 (by decide +kernel) (by decide +kernel)
theorem flX0_33 : Cond.fieldLink RX0 33 (TX0 4).1 (TX0 4).2.1 (TX0 4).2.2.1 ∈ wB := wB_of 364 (by decide +kernel) (by decide +kernel)
theorem flX0_36 : Cond.fieldLink RX0 36 (TX3 6).1 (TX3 6).2.1 (TX3 6).2.2.1 ∈ wB := wB_of 240 (by decide +kernel) (by decide +kernel)
theorem flX0_39 : Cond.fieldLink RX0 39 (TX0 5).1 (TX0 5).2.1 (TX0 5).2.2.1 ∈ wB := wB_of 366 (by decide +kernel) (by decide +kernel)
theorem flX0_41 : Cond.fieldLink RX0 41 (TX0 6).1 (TX0 6).2.1 (TX0 6).2.2.1 ∈ wB := wB_of 368 (by decide +kernel) (by decide +kernel)
theorem flX0_44 : Cond.fieldLink RX0 44 (TX0 7).1 (TX0 7).2.1 (TX0 7).2.2.1 ∈ wB := wB_of 370 (by decide +kernel) (by decide +kernel)
theorem flX1_11 : Cond.fieldLink RX1 11 (TX1 0).1 (TX1 0).2.1 (TX1 0).2.2.1 ∈ wB := wB_of 411 (by decide +kernel) (by decide +kernel)
theorem flX1_16 : Cond.fieldLink RX1 16 (TX1 1).1 (TX1 1).2.1 (TX1 1).2.2.1 ∈ wB := wB_of 412 (by decide +kernel) (by decide +kernel)
theorem flX1_20 : Cond.fieldLink RX1 20 (TX1 2).1 (TX1 2).2.1 (TX1 2).2.2.1 ∈ wB := wB_of 413 (by decide +kernel) (by decide +kernel)
theorem flX1_23 : Cond.fieldLink RX1 23 (TX1 3).1 (TX1 3).2.1 (TX1 3).2.2.1 ∈ wB := wB_of 414 (by decide +kernel) (by decide +kernel)
theorem flX1_26 : Cond.fieldLink RX1 26 (TX1 4).1 (TX1 4).2.1 (TX1 4).2.2.1 ∈ wB := wB_of 416 (by decide +kernel) (by decide +kernel)
theorem flX1_30 : Cond.fieldLink RX1 30 (TX1 5).1 (TX1 5).2.1 (TX1 5).2.2.1 ∈ wB := wB_of 417 (by decide +kernel) (by decide +kernel)
theorem flX1_33 : Cond.fieldLink RX1 33 (TX1 6).1 (TX1 6).2.1 (TX1 6).2.2.1 ∈ wB := wB_of 418 (by decide +kernel) (by decide +kernel)
theorem flX1_36 : Cond.fieldLink RX1 36 (TX1 7).1 (TX1 7).2.1 (TX1 7).2.2.1 ∈ wB := wB_of 419 (by decide +kernel) (by decide +kernel)
theorem flX1_42 : Cond.fieldLink RX1 42 (TX1 8).1 (TX1 8).2.1 (TX1 8).2.2.1 ∈ wB := wB_of 420 (by decide +kernel) (by decide +kernel)
theorem flX2_9 : Cond.fieldLink RX2 9 (TX2 0).1 (TX2 0).2.1 (TX2 0).2.2.1 ∈ wB := wB_of 328 (by decide +kernel) (by decide +kernel)
theorem flX2_15 : Cond.fieldLink RX2 15 (TX2 1).1 (TX2 1).2.1 (TX2 1).2.2.1 ∈ wB := wB_of 330 (by decide +kernel) (by decide +kernel)
theorem flX2_18 : Cond.fieldLink RX2 18 (TX2 2).1 (TX2 2).2.1 (TX2 2).2.2.1 ∈ wB := wB_of 332 (by decide +kernel) (by decide +kernel)
theorem flX2_21 : Cond.fieldLink RX2 21 (TX2 3).1 (TX2 3).2.1 (TX2 3).2.2.1 ∈ wB := wB_of 334 (by decide +kernel) (by decide +kernel)
theorem flX2_24 : Cond.fieldLink RX2 24 (TX3 6).1 (TX3 6).2.1 (TX3 6).2.2.1 ∈ wB := wB_of 239 (by decide +kernel) (by decide +kernel)
theorem flX2_33 : Cond.fieldLink RX2 33 (TX3 11).1 (TX3 11).2.1 (TX3 11).2.2.1 ∈ wB := wB_of 256 (by decide +kernel) (by decide +kernel)
theorem flX2_34 : Cond.fieldLink RX2 34 (TX2 4).1 (TX2 4).2.1 (TX2 4).2.2.1 ∈ wB := wB_of 336 (by decide +kernel) (by decide +kernel)
theorem flX2_38 : Cond.fieldLink RX2 38 (TX2 5).1 (TX2 5).2.1 (TX2 5).2.2.1 ∈ wB := wB_of 338 (by decide +kernel) (by decide +kernel)
theorem flX3_9 : Cond.fieldLink RX3 9 (TX3 5).1 (TX3 5).2.1 (TX3 5).2.2.1 ∈ wB := wB_of 234 (by decide +kernel) (by decide +kernel)
theorem flX3_15 : Cond.fieldLink RX3 15 (TX3 6).1 (TX3 6).2.1 (TX3 6).2.2.1 ∈ wB := wB_of 238 (by decide +kernel) (by decide +kernel)
theorem flX3_18 : Cond.fieldLink RX3 18 (TX3 7).1 (TX3 7).2.1 (TX3 7).2.2.1 ∈ wB := wB_of 243 (by decide +kernel) (by decide +kernel)
theorem flX3_21 : Cond.fieldLink RX3 21 (TX3 8).1 (TX3 8).2.1 (TX3 8).2.2.1 ∈ wB := wB_of 246 (by decide +kernel) (by decide +kernel)
theorem flX3_24 : Cond.fieldLink RX3 24 (TX3 9).1 (TX3 9).2.1 (TX3 9).2.2.1 ∈ wB := wB_of 249 (by decide +kernel) (by decide +kernel)
theorem flX3_27 : Cond.fieldLink RX3 27 (TX3 11).1 (TX3 11).2.1 (TX3 11).2.2.1 ∈ wB := wB_of 255 (by decide +kernel) (by decide +kernel)
theorem flX3_30 : Cond.fieldLink RX3 30 (TX3 12).1 (TX3 12).2.1 (TX3 12).2.2.1 ∈ wB := wB_of 258 (by decide +kernel) (by decide +kernel)
theorem flX3_33 : Cond.fieldLink RX3 33 (TX3 13).1 (TX3 13).2.1 (TX3 13).2.2.1 ∈ wB := wB_of 261 (by decide +kernel) (by decide +kernel)
theorem flX3_36 : Cond.fieldLink RX3 36 (TX3 15).1 (TX3 15).2.1 (TX3 15).2.2.1 ∈ wB := wB_of 268 (by decide +kernel) (by decide +kernel)
theorem flX3_39 : Cond.fieldLink RX3 39 (TX3 16).1 (TX3 16).2.1 (TX3 16).2.2.1 ∈ wB := wB_of 271 (by decide +kernel) (by decide +kernel)
theorem flX3_42 : Cond.fieldLink RX3 42 (TX3 18).1 (TX3 18).2.1 (TX3 18).2.2.1 ∈ wB := wB_of 277 (by decide +kernel) (by decide +kernel)
theorem flX3_45 : Cond.fieldLink RX3 45 (TX3 19).1 (TX3 19).2.1 (TX3 19).2.2.1 ∈ wB := wB_of 279 (by decide +kernel) (by decide +kernel)
theorem flX3_48 : Cond.fieldLink RX3 48 (TX3 0).1 (TX3 0).2.1 (TX3 0).2.2.1 ∈ wB := wB_of 218 (by decide +kernel) (by decide +kernel)
theorem flX3_52 : Cond.fieldLink RX3 52 (TX3 1).1 (TX3 1).2.1 (TX3 1).2.2.1 ∈ wB := wB_of 222 (by decide +kernel) (by decide +kernel)
theorem flX3_55 : Cond.fieldLink RX3 55 (TX3 2).1 (TX3 2).2.1 (TX3 2).2.2.1 ∈ wB := wB_of 226 (by decide +kernel) (by decide +kernel)
theorem flX3_58 : Cond.fieldLink RX3 58 (TX3 3).1 (TX3 3).2.1 (TX3 3).2.2.1 ∈ wB := wB_of 229 (by decide +kernel) (by decide +kernel)
theorem flX3_61 : Cond.fieldLink RX3 61 (TX3 4).1 (TX3 4).2.1 (TX3 4).2.2.1 ∈ wB := wB_of 231 (by decide +kernel) (by decide +kernel)
theorem flX3_64 : Cond.fieldLink RX3 64 (TX3 10).1 (TX3 10).2.1 (TX3 10).2.2.1 ∈ wB := wB_of 252 (by decide +kernel) (by decide +kernel)
theorem flX3_67 : Cond.fieldLink RX3 67 (TX3 14).1 (TX3 14).2.1 (TX3 14).2.2.1 ∈ wB := wB_of 265 (by decide +kernel) (by decide +kernel)
theorem flX3_70 : Cond.fieldLink RX3 70 (TX3 17).1 (TX3 17).2.1 (TX3 17).2.2.1 ∈ wB := wB_of 274 (by decide +kernel) (by decide +kernel)
theorem flX4_9 : Cond.fieldLink RX4 9 (TX4 0).1 (TX4 0).2.1 (TX4 0).2.2.1 ∈ wB := wB_of 160 (by decide +kernel) (by decide +kernel)
theorem flX4_15 : Cond.fieldLink RX4 15 (TX4 9).1 (TX4 9).2.1 (TX4 9).2.2.1 ∈ wB := wB_of 170 (by decide +kernel) (by decide +kernel)
theorem flX4_19 : Cond.fieldLink RX4 19 (TX4 10).1 (TX4 10).2.1 (TX4 10).2.2.1 ∈ wB := wB_of 171 (by decide +kernel) (by decide +kernel)
theorem flX4_23 : Cond.fieldLink RX4 23 (TX4 11).1 (TX4 11).2.1 (TX4 11).2.2.1 ∈ wB := wB_of 172 (by decide +kernel) (by decide +kernel)
theorem flX4_26 : Cond.fieldLink RX4 26 (TX4 1).1 (TX4 1).2.1 (TX4 1).2.2.1 ∈ wB := wB_of 162 (by decide +kernel) (by decide +kernel)
theorem flX4_36 : Cond.fieldLink RX4 36 (TX4 2).1 (TX4 2).2.1 (TX4 2).2.2.1 ∈ wB := wB_of 163 (by decide +kernel) (by decide +kernel)
theorem flX4_39 : Cond.fieldLink RX4 39 (TX4 3).1 (TX4 3).2.1 (TX4 3).2.2.1 ∈ wB := wB_of 164 (by decide +kernel) (by decide +kernel)
theorem flX4_48 : Cond.fieldLink RX4 48 (TX4 12).1 (TX4 12).2.1 (TX4 12).2.2.1 ∈ wB := wB_of 173 (by decide +kernel) (by decide +kernel)
theorem flX4_51 : Cond.fieldLink RX4 51 (TX4 13).1 (TX4 13).2.1 (TX4 13).2.2.1 ∈ wB := wB_of 174 (by decide +kernel) (by decide +kernel)
theorem flX4_54 : Cond.fieldLink RX4 54 (TX4 14).1 (TX4 14).2.1 (TX4 14).2.2.1 ∈ wB := wB_of 176 (by decide +kernel) (by decide +kernel)
theorem flX4_57 : Cond.fieldLink RX4 57 (TX4 6).1 (TX4 6).2.1 (TX4 6).2.2.1 ∈ wB := wB_of 167 (by decide +kernel) (by decide +kernel)
theorem flX4_67 : Cond.fieldLink RX4 67 (TX4 4).1 (TX4 4).2.1 (TX4 4).2.2.1 ∈ wB := wB_of 165 (by decide +kernel) (by decide +kernel)
theorem flX4_70 : Cond.fieldLink RX4 70 (TX3 4).1 (TX3 4).2.1 (TX3 4).2.2.1 ∈ wB := wB_of 232 (by decide +kernel) (by decide +kernel)
theorem flX4_77 : Cond.fieldLink RX4 77 (TX4 5).1 (TX4 5).2.1 (TX4 5).2.2.1 ∈ wB := wB_of 166 (by decide +kernel) (by decide +kernel)
theorem flX4_86 : Cond.fieldLink RX4 86 (TX4 8).1 (TX4 8).2.1 (TX4 8).2.2.1 ∈ wB := wB_of 169 (by decide +kernel) (by decide +kernel)
theorem flX4_92 : Cond.fieldLink RX4 92 (TX4 7).1 (TX4 7).2.1 (TX4 7).2.2.1 ∈ wB := wB_of 168 (by decide +kernel) (by decide +kernel)
theorem flX4_125 : Cond.fieldLink RX4 125 (TX3 0).1 (TX3 0).2.1 (TX3 0).2.2.1 ∈ wB := wB_of 220 (by decide +kernel) (by decide +kernel)
theorem flX4_158 : Cond.fieldLink RX4 158 (TX3 1).1 (TX3 1).2.1 (TX3 1).2.2.1 ∈ wB := wB_of 224 (by decide +kernel) (by decide +kernel)
theorem flX4_160 : Cond.fieldLink RX4 160 (TX3 2).1 (TX3 2).2.1 (TX3 2).2.2.1 ∈ wB := wB_of 227 (by decide +kernel) (by decide +kernel)
theorem flX4_165 : Cond.fieldLink RX4 165 (TX3 14).1 (TX3 14).2.1 (TX3 14).2.2.1 ∈ wB := wB_of 266 (by decide +kernel) (by decide +kernel)
theorem flX4_178 : Cond.fieldLink RX4 178 (TX3 3).1 (TX3 3).2.1 (TX3 3).2.2.1 ∈ wB := wB_of 230 (by decide +kernel) (by decide +kernel)
theorem flX4_187 : Cond.fieldLink RX4 187 (TX3 5).1 (TX3 5).2.1 (TX3 5).2.2.1 ∈ wB := wB_of 237 (by decide +kernel) (by decide +kernel)
theorem flX4_192 : Cond.fieldLink RX4 192 (TX3 6).1 (TX3 6).2.1 (TX3 6).2.2.1 ∈ wB := wB_of 241 (by decide +kernel) (by decide +kernel)
theorem flX4_196 : Cond.fieldLink RX4 196 (TX3 7).1 (TX3 7).2.1 (TX3 7).2.2.1 ∈ wB := wB_of 245 (by decide +kernel) (by decide +kernel)
theorem flX4_204 : Cond.fieldLink RX4 204 (TX3 8).1 (TX3 8).2.1 (TX3 8).2.2.1 ∈ wB := wB_of 248 (by decide +kernel) (by decide +kernel)
theorem flX4_212 : Cond.fieldLink RX4 212 (TX3 10).1 (TX3 10).2.1 (TX3 10).2.2.1 ∈ wB := wB_of 253 (by decide +kernel) (by decide +kernel)
theorem flX4_221 : Cond.fieldLink RX4 221 (TX3 11).1 (TX3 11).2.1 (TX3 11).2.2.1 ∈ wB := wB_of 257 (by decide +kernel) (by decide +kernel)
theorem flX4_226 : Cond.fieldLink RX4 226 (TX3 12).1 (TX3 12).2.1 (TX3 12).2.2.1 ∈ wB := wB_of 260 (by decide +kernel) (by decide +kernel)
theorem flX4_230 : Cond.fieldLink RX4 230 (TX3 13).1 (TX3 13).2.1 (TX3 13).2.2.1 ∈ wB := wB_of 264 (by decide +kernel) (by decide +kernel)
theorem flX4_234 : Cond.fieldLink RX4 234 (TX3 15).1 (TX3 15).2.1 (TX3 15).2.2.1 ∈ wB := wB_of 269 (by decide +kernel) (by decide +kernel)
theorem flX4_238 : Cond.fieldLink RX4 238 (TX3 16).1 (TX3 16).2.1 (TX3 16).2.2.1 ∈ wB := wB_of 272 (by decide +kernel) (by decide +kernel)
theorem flX4_240 : Cond.fieldLink RX4 240 (TX3 17).1 (TX3 17).2.1 (TX3 17).2.2.1 ∈ wB := wB_of 275 (by decide +kernel) (by decide +kernel)
theorem flX4_246 : Cond.fieldLink RX4 246 (TX3 18).1 (TX3 18).2.1 (TX3 18).2.2.1 ∈ wB := wB_of 278 (by decide +kernel) (by decide +kernel)
theorem flX4_248 : Cond.fieldLink RX4 248 (TX3 19).1 (TX3 19).2.1 (TX3 19).2.2.1 ∈ wB := wB_of 280 (by decide +kernel) (by decide +kernel)
theorem flX4_251 : Cond.fieldLink RX4 251 (TX3 9).1 (TX3 9).2.1 (TX3 9).2.2.1 ∈ wB := wB_of 250 (by decide +kernel) (by decide +kernel)
theorem flX5_9 : Cond.fieldLink RX5 9 (TX5 0).1 (TX5 0).2.1 (TX5 0).2.2.1 ∈ wB := wB_of 395 (by decide +kernel) (by decide +kernel)
theorem flX5_15 : Cond.fieldLink RX5 15 (TX3 1).1 (TX3 1).2.1 (TX3 1).2.2.1 ∈ wB := wB_of 223 (by decide +kernel) (by decide +kernel)
theorem flX5_21 : Cond.fieldLink RX5 21 (TX3 0).1 (TX3 0).2.1 (TX3 0).2.2.1 ∈ wB := wB_of 219 (by decide +kernel) (by decide +kernel)
theorem flX5_28 : Cond.fieldLink RX5 28 (TX5 1).1 (TX5 1).2.1 (TX5 1).2.2.1 ∈ wB := wB_of 397 (by decide +kernel) (by decide +kernel)
theorem flX7_7 : Cond.fieldLink RX7 7 (TX7 1).1 (TX7 1).2.1 (TX7 1).2.2.1 ∈ wB := wB_of 1247 (by decide +kernel) (by decide +kernel)
theorem flX7_13 : Cond.fieldLink RX7 13 (TX7 10).1 (TX7 10).2.1 (TX7 10).2.2.1 ∈ wB := wB_of 1256 (by decide +kernel) (by decide +kernel)
theorem flX7_17 : Cond.fieldLink RX7 17 (TX7 12).1 (TX7 12).2.1 (TX7 12).2.2.1 ∈ wB := wB_of 1258 (by decide +kernel) (by decide +kernel)
theorem flX7_20 : Cond.fieldLink RX7 20 (TX7 15).1 (TX7 15).2.1 (TX7 15).2.2.1 ∈ wB := wB_of 1261 (by decide +kernel) (by decide +kernel)
theorem flX7_23 : Cond.fieldLink RX7 23 (TX7 16).1 (TX7 16).2.1 (TX7 16).2.2.1 ∈ wB := wB_of 1262 (by decide +kernel) (by decide +kernel)
theorem flX7_26 : Cond.fieldLink RX7 26 (TX7 17).1 (TX7 17).2.1 (TX7 17).2.2.1 ∈ wB := wB_of 1263 (by decide +kernel) (by decide +kernel)
theorem flX7_29 : Cond.fieldLink RX7 29 (TX7 18).1 (TX7 18).2.1 (TX7 18).2.2.1 ∈ wB := wB_of 1264 (by decide +kernel) (by decide +kernel)
theorem flX7_32 : Cond.fieldLink RX7 32 (TX7 19).1 (TX7 19).2.1 (TX7 19).2.2.1 ∈ wB := wB_of 1265 (by decide +kernel) (by decide +kernel)
theorem flX7_35 : Cond.fieldLink RX7 35 (TX7 20).1 (TX7 20).2.1 (TX7 20).2.2.1 ∈ wB := wB_of 1266 (by decide +kernel) (by decide +kernel)
theorem flX7_38 : Cond.fieldLink RX7 38 (TX7 21).1 (TX7 21).2.1 (TX7 21).2.2.1 ∈ wB := wB_of 1267 (by decide +kernel) (by decide +kernel)
theorem flX7_41 : Cond.fieldLink RX7 41 (TX7 24).1 (TX7 24).2.1 (TX7 24).2.2.1 ∈ wB := wB_of 1270 (by decide +kernel) (by decide +kernel)
theorem flX7_44 : Cond.fieldLink RX7 44 (TX7 25).1 (TX7 25).2.1 (TX7 25).2.2.1 ∈ wB := wB_of 1271 (by decide +kernel) (by decide +kernel)
theorem flX7_47 : Cond.fieldLink RX7 47 (TX7 27).1 (TX7 27).2.1 (TX7 27).2.2.1 ∈ wB := wB_of 1273 (by decide +kernel) (by decide +kernel)
theorem flX7_50 : Cond.fieldLink RX7 50 (TX7 28).1 (TX7 28).2.1 (TX7 28).2.2.1 ∈ wB := wB_of 1274 (by decide +kernel) (by decide +kernel)
theorem flX7_53 : Cond.fieldLink RX7 53 (TX7 33).1 (TX7 33).2.1 (TX7 33).2.2.1 ∈ wB := wB_of 1279 (by decide +kernel) (by decide +kernel)
theorem flX7_56 : Cond.fieldLink RX7 56 (TX7 34).1 (TX7 34).2.1 (TX7 34).2.2.1 ∈ wB := wB_of 1280 (by decide +kernel) (by decide +kernel)
theorem flX7_59 : Cond.fieldLink RX7 59 (TX7 35).1 (TX7 35).2.1 (TX7 35).2.2.1 ∈ wB := wB_of 1281 (by decide +kernel) (by decide +kernel)
theorem flX7_62 : Cond.fieldLink RX7 62 (TX7 0).1 (TX7 0).2.1 (TX7 0).2.2.1 ∈ wB := wB_of 1246 (by decide +kernel) (by decide +kernel)
theorem flX7_65 : Cond.fieldLink RX7 65 (TX7 11).1 (TX7 11).2.1 (TX7 11).2.2.1 ∈ wB := wB_of 1257 (by decide +kernel) (by decide +kernel)
theorem flX7_68 : Cond.fieldLink RX7 68 (TX7 2).1 (TX7 2).2.1 (TX7 2).2.2.1 ∈ wB := wB_of 1248 (by decide +kernel) (by decide +kernel)
theorem flX7_71 : Cond.fieldLink RX7 71 (TX7 3).1 (TX7 3).2.1 (TX7 3).2.2.1 ∈ wB := wB_of 1249 (by decide +kernel) (by decide +kernel)
theorem flX7_74 : Cond.fieldLink RX7 74 (TX7 5).1 (TX7 5).2.1 (TX7 5).2.2.1 ∈ wB := wB_of 1251 (by decide +kernel) (by decide +kernel)
theorem flX7_81 : Cond.fieldLink RX7 81 (TX7 4).1 (TX7 4).2.1 (TX7 4).2.2.1 ∈ wB := wB_of 1250 (by decide +kernel) (by decide +kernel)
theorem flX7_84 : Cond.fieldLink RX7 84 (TX7 8).1 (TX7 8).2.1 (TX7 8).2.2.1 ∈ wB := wB_of 1254 (by decide +kernel) (by decide +kernel)
theorem flX7_87 : Cond.fieldLink RX7 87 (TX7 7).1 (TX7 7).2.1 (TX7 7).2.2.1 ∈ wB := wB_of 1253 (by decide +kernel) (by decide +kernel)
theorem flX7_90 : Cond.fieldLink RX7 90 (TX7 6).1 (TX7 6).2.1 (TX7 6).2.2.1 ∈ wB := wB_of 1252 (by decide +kernel) (by decide +kernel)
theorem flX7_100 : Cond.fieldLink RX7 100 (TX7 13).1 (TX7 13).2.1 (TX7 13).2.2.1 ∈ wB := wB_of 1259 (by decide +kernel) (by decide +kernel)
theorem flX7_104 : Cond.fieldLink RX7 104 (TX7 9).1 (TX7 9).2.1 (TX7 9).2.2.1 ∈ wB := wB_of 1255 (by decide +kernel) (by decide +kernel)
theorem flX7_182 : Cond.fieldLink RX7 182 (TX7 14).1 (TX7 14).2.1 (TX7 14).2.2.1 ∈ wB := wB_of 1260 (by decide +kernel) (by decide +kernel)
theorem flX7_185 : Cond.fieldLink RX7 185 (TX7 22).1 (TX7 22).2.1 (TX7 22).2.2.1 ∈ wB := wB_of 1268 (by decide +kernel) (by decide +kernel)
theorem flX7_188 : Cond.fieldLink RX7 188 (TX7 23).1 (TX7 23).2.1 (TX7 23).2.2.1 ∈ wB := wB_of 1269 (by decide +kernel) (by decide +kernel)
theorem flX7_286 : Cond.fieldLink RX7 286 (TX7 26).1 (TX7 26).2.1 (TX7 26).2.2.1 ∈ wB := wB_of 1272 (by decide +kernel) (by decide +kernel)
theorem flX7_325 : Cond.fieldLink RX7 325 (TX7 29).1 (TX7 29).2.1 (TX7 29).2.2.1 ∈ wB := wB_of 1275 (by decide +kernel) (by decide +kernel)
theorem flX7_331 : Cond.fieldLink RX7 331 (TX7 30).1 (TX7 30).2.1 (TX7 30).2.2.1 ∈ wB := wB_of 1276 (by decide +kernel) (by decide +kernel)
theorem flX7_347 : Cond.fieldLink RX7 347 (TX7 31).1 (TX7 31).2.1 (TX7 31).2.2.1 ∈ wB := wB_of 1277 (by decide +kernel) (by decide +kernel)
theorem flX7_350 : Cond.fieldLink RX7 350 (TX7 32).1 (TX7 32).2.1 (TX7 32).2.2.1 ∈ wB := wB_of 1278 (by decide +kernel) (by decide +kernel)
theorem flX7_382 : Cond.fieldLink RX7 382 (TX7 36).1 (TX7 36).2.1 (TX7 36).2.2.1 ∈ wB := wB_of 1282 (by decide +kernel) (by decide +kernel)
theorem flX7_385 : Cond.fieldLink RX7 385 (TX7 37).1 (TX7 37).2.1 (TX7 37).2.2.1 ∈ wB := wB_of 1283 (by decide +kernel) (by decide +kernel)
theorem flX7_388 : Cond.fieldLink RX7 388 (TX7 38).1 (TX7 38).2.1 (TX7 38).2.2.1 ∈ wB := wB_of 1284 (by decide +kernel) (by decide +kernel)
theorem flX7_410 : Cond.fieldLink RX7 410 (TX7 39).1 (TX7 39).2.1 (TX7 39).2.2.1 ∈ wB := wB_of 1285 (by decide +kernel) (by decide +kernel)
theorem flX7_416 : Cond.fieldLink RX7 416 (TX7 40).1 (TX7 40).2.1 (TX7 40).2.2.1 ∈ wB := wB_of 1286 (by decide +kernel) (by decide +kernel)
theorem flX7_420 : Cond.fieldLink RX7 420 (TX7 41).1 (TX7 41).2.1 (TX7 41).2.2.1 ∈ wB := wB_of 1287 (by decide +kernel) (by decide +kernel)
theorem flX7_423 : Cond.fieldLink RX7 423 (TX7 42).1 (TX7 42).2.1 (TX7 42).2.2.1 ∈ wB := wB_of 1288 (by decide +kernel) (by decide +kernel)
theorem flX7_434 : Cond.fieldLink RX7 434 (TX7 43).1 (TX7 43).2.1 (TX7 43).2.2.1 ∈ wB := wB_of 1289 (by decide +kernel) (by decide +kernel)
theorem mlX6_81 : Cond.methodLink RX6 81 yX4_tape ∈ wB := wB_of 488 (by decide +kernel) (by decide +kernel)
theorem mlX6_85 : Cond.methodLink RX6 85 yX6_refuse ∈ wB := wB_of 496 (by decide +kernel) (by decide +kernel)
theorem mlX6_89 : Cond.methodLink RX6 89 yX4_reads ∈ wB := wB_of 500 (by decide +kernel) (by decide +kernel)
theorem mlX6_93 : Cond.methodLink RX6 93 yX2_begin ∈ wB := wB_of 694 (by decide +kernel) (by decide +kernel)
theorem mlX6_100 : Cond.methodLink RX6 100 yX6_answer ∈ wB := wB_of 701 (by decide +kernel) (by decide +kernel)
theorem mlX6_109 : Cond.methodLink RX6 109 yX6_isFace ∈ wB := wB_of 717 (by decide +kernel) (by decide +kernel)
theorem mlX6_122 : Cond.methodLink RX6 122 yX2_hasFallen ∈ wB := wB_of 721 (by decide +kernel) (by decide +kernel)
theorem mlX6_128 : Cond.methodLink RX6 128 yX6_canonOf ∈ wB := wB_of 725 (by decide +kernel) (by decide +kernel)
theorem mlX6_134 : Cond.methodLink RX6 134 yX6_isCanon ∈ wB := wB_of 733 (by decide +kernel) (by decide +kernel)
theorem mlX6_146 : Cond.methodLink RX6 146 yX6_isCell ∈ wB := wB_of 741 (by decide +kernel) (by decide +kernel)
theorem mlX6_149 : Cond.methodLink RX6 149 yX3_isWall ∈ wB := wB_of 746 (by decide +kernel) (by decide +kernel)
theorem mlX6_152 : Cond.methodLink RX6 152 yX3_faceOver ∈ wB := wB_of 747 (by decide +kernel) (by decide +kernel)
theorem mlX6_158 : Cond.methodLink RX6 158 yX5_beside ∈ wB := wB_of 748 (by decide +kernel) (by decide +kernel)
theorem mlX6_162 : Cond.methodLink RX6 162 yX3_open ∈ wB := wB_of 752 (by decide +kernel) (by decide +kernel)
theorem mlX6_166 : Cond.methodLink RX6 166 yX6_hasClose ∈ wB := wB_of 761 (by decide +kernel) (by decide +kernel)
theorem mlX6_170 : Cond.methodLink RX6 170 yX6_canFollow ∈ wB := wB_of 769 (by decide +kernel) (by decide +kernel)
theorem mlX6_174 : Cond.methodLink RX6 174 yX6_follow ∈ wB := wB_of 778 (by decide +kernel) (by decide +kernel)
theorem mlX6_184 : Cond.methodLink RX6 184 yX6_startNow ∈ wB := wB_of 782 (by decide +kernel) (by decide +kernel)
theorem mlX6_187 : Cond.methodLink RX6 187 yX0_firstDrop ∈ wB := wB_of 810 (by decide +kernel) (by decide +kernel)
theorem mlX6_190 : Cond.methodLink RX6 190 yX0_pass ∈ wB := wB_of 818 (by decide +kernel) (by decide +kernel)
theorem mlX6_194 : Cond.methodLink RX6 194 yX6_canLookAhead ∈ wB := wB_of 823 (by decide +kernel) (by decide +kernel)
theorem mlX6_198 : Cond.methodLink RX6 198 yX6_foretellWet ∈ wB := wB_of 827 (by decide +kernel) (by decide +kernel)
theorem mlX6_201 : Cond.methodLink RX6 201 yX6_within ∈ wB := wB_of 777 (by decide +kernel) (by decide +kernel)
theorem mlX6_204 : Cond.methodLink RX6 204 yX6_wetDaysOf ∈ wB := wB_of 835 (by decide +kernel) (by decide +kernel)
theorem mlX6_208 : Cond.methodLink RX6 208 yX3_cells ∈ wB := wB_of 745 (by decide +kernel) (by decide +kernel)
theorem mlX6_211 : Cond.methodLink RX6 211 yJ9_max_7cf53 ∈ wB := wB_of 851 (by decide +kernel) (by decide +kernel)
theorem mlX6_216 : Cond.methodLink RX6 216 yX6_couldHave ∈ wB := wB_of 862 (by decide +kernel) (by decide +kernel)
theorem mlX6_219 : Cond.methodLink RX6 219 yX6_costIf ∈ wB := wB_of 866 (by decide +kernel) (by decide +kernel)
theorem mlX6_223 : Cond.methodLink RX6 223 yX6_tooFewFaces ∈ wB := wB_of 882 (by decide +kernel) (by decide +kernel)
theorem mlX6_226 : Cond.methodLink RX6 226 yX6_makeMatch ∈ wB := wB_of 886 (by decide +kernel) (by decide +kernel)
theorem mlX6_235 : Cond.methodLink RX6 235 yX5_fewest ∈ wB := wB_of 924 (by decide +kernel) (by decide +kernel)
theorem mlX6_239 : Cond.methodLink RX6 239 yX6_canWalk ∈ wB := wB_of 933 (by decide +kernel) (by decide +kernel)
theorem mlX6_242 : Cond.methodLink RX6 242 yX6_wayCost ∈ wB := wB_of 941 (by decide +kernel) (by decide +kernel)
theorem mlX6_249 : Cond.methodLink RX6 249 yX5_stepAt ∈ wB := wB_of 975 (by decide +kernel) (by decide +kernel)
theorem mlX6_253 : Cond.methodLink RX6 253 yX6_isWalker ∈ wB := wB_of 937 (by decide +kernel) (by decide +kernel)
theorem mlX6_259 : Cond.methodLink RX6 259 yX6_stepsTogether ∈ wB := wB_of 991 (by decide +kernel) (by decide +kernel)
theorem mlX6_262 : Cond.methodLink RX6 262 yX6_fittingSets ∈ wB := wB_of 999 (by decide +kernel) (by decide +kernel)
theorem mlX6_265 : Cond.methodLink RX6 265 yJ6_bitCount_0f7a4 ∈ wB := wB_of 1017 (by decide +kernel) (by decide +kernel)
theorem mlX6_273 : Cond.methodLink RX6 273 yX6_setsWith ∈ wB := wB_of 1026 (by decide +kernel) (by decide +kernel)
theorem mlX6_276 : Cond.methodLink RX6 276 yX6_bestToAsk ∈ wB := wB_of 1037 (by decide +kernel) (by decide +kernel)
theorem mlX6_279 : Cond.methodLink RX6 279 yX6_leftAtMost ∈ wB := wB_of 1041 (by decide +kernel) (by decide +kernel)
theorem mlX6_282 : Cond.methodLink RX6 282 yX6_dropFits ∈ wB := wB_of 1007 (by decide +kernel) (by decide +kernel)
theorem mlX6_285 : Cond.methodLink RX6 285 yX6_canGame ∈ wB := wB_of 1056 (by decide +kernel) (by decide +kernel)
theorem mlX6_288 : Cond.methodLink RX6 288 yX6_share ∈ wB := wB_of 1060 (by decide +kernel) (by decide +kernel)
theorem mlX6_292 : Cond.methodLink RX6 292 yX6_isRest ∈ wB := wB_of 1067 (by decide +kernel) (by decide +kernel)
theorem mlX6_295 : Cond.methodLink RX6 295 yX6_canChance ∈ wB := wB_of 1078 (by decide +kernel) (by decide +kernel)
theorem mlX6_300 : Cond.methodLink RX6 300 yX6_chance ∈ wB := wB_of 1083 (by decide +kernel) (by decide +kernel)
theorem mlX6_304 : Cond.methodLink RX6 304 yX6_isSeed ∈ wB := wB_of 1102 (by decide +kernel) (by decide +kernel)
theorem mlX6_307 : Cond.methodLink RX6 307 yX6_draw ∈ wB := wB_of 1106 (by decide +kernel) (by decide +kernel)
theorem mlX6_310 : Cond.methodLink RX6 310 yX6_isCalm ∈ wB := wB_of 1109 (by decide +kernel) (by decide +kernel)
theorem mlX6_313 : Cond.methodLink RX6 313 yX6_firstDropBySeed ∈ wB := wB_of 1117 (by decide +kernel) (by decide +kernel)
theorem mlX6_319 : Cond.methodLink RX6 319 yX6_keep ∈ wB := wB_of 1125 (by decide +kernel) (by decide +kernel)
theorem mlX6_323 : Cond.methodLink RX6 323 yX2_copy ∈ wB := wB_of 1129 (by decide +kernel) (by decide +kernel)
theorem mlX6_339 : Cond.methodLink RX6 339 yX3_wallCount ∈ wB := wB_of 1162 (by decide +kernel) (by decide +kernel)
theorem mlX6_348 : Cond.methodLink RX6 348 yX3_droppedCount ∈ wB := wB_of 1163 (by decide +kernel) (by decide +kernel)
theorem mlX6_352 : Cond.methodLink RX6 352 yX6_numberFits ∈ wB := wB_of 773 (by decide +kernel) (by decide +kernel)
theorem mlX6_355 : Cond.methodLink RX6 355 yX0_start ∈ wB := wB_of 786 (by decide +kernel) (by decide +kernel)
theorem mlX6_362 : Cond.methodLink RX6 362 yX0_passAll ∈ wB := wB_of 790 (by decide +kernel) (by decide +kernel)
theorem mlX6_365 : Cond.methodLink RX6 365 yX6_costOf ∈ wB := wB_of 870 (by decide +kernel) (by decide +kernel)
theorem mlX6_368 : Cond.methodLink RX6 368 yX1_clear ∈ wB := wB_of 890 (by decide +kernel) (by decide +kernel)
theorem mlX6_371 : Cond.methodLink RX6 371 yX1_addFace ∈ wB := wB_of 895 (by decide +kernel) (by decide +kernel)
theorem mlX6_374 : Cond.methodLink RX6 374 yX1_setCost ∈ wB := wB_of 899 (by decide +kernel) (by decide +kernel)
theorem mlX6_378 : Cond.methodLink RX6 378 yX1_solve ∈ wB := wB_of 903 (by decide +kernel) (by decide +kernel)
theorem mlX6_381 : Cond.methodLink RX6 381 yX5_measure ∈ wB := wB_of 945 (by decide +kernel) (by decide +kernel)
theorem mlX6_388 : Cond.methodLink RX6 388 yX6_setFits ∈ wB := wB_of 1003 (by decide +kernel) (by decide +kernel)
theorem mlX6_394 : Cond.methodLink RX6 394 yX3_toldCanonOf ∈ wB := wB_of 1011 (by decide +kernel) (by decide +kernel)
theorem mlX6_397 : Cond.methodLink RX6 397 yX3_vexedBy ∈ wB := wB_of 1012 (by decide +kernel) (by decide +kernel)
theorem mlX6_402 : Cond.methodLink RX6 402 yX6_greatestDivisor ∈ wB := wB_of 1088 (by decide +kernel) (by decide +kernel)
theorem mlX6_406 : Cond.methodLink RX6 406 yJ9_max_f86c9 ∈ wB := wB_of 1091 (by decide +kernel) (by decide +kernel)
theorem mlX6_408 : Cond.methodLink RX6 408 yJ9_min_7cf53 ∈ wB := wB_of 1133 (by decide +kernel) (by decide +kernel)
theorem mlX0_47 : Cond.methodLink RX0 47 yX0_pass ∈ wB := wB_of 794 (by decide +kernel) (by decide +kernel)
theorem mlX1_45 : Cond.methodLink RX1 45 yX1_place ∈ wB := wB_of 907 (by decide +kernel) (by decide +kernel)
theorem mlX3_73 : Cond.methodLink RX3 73 yJ6_bitCount_0f7a4 ∈ wB := wB_of 621 (by decide +kernel) (by decide +kernel)
theorem mlX3_79 : Cond.methodLink RX3 79 yX3_cells ∈ wB := wB_of 756 (by decide +kernel) (by decide +kernel)
theorem mlX3_83 : Cond.methodLink RX3 83 yX3_unsureOf ∈ wB := wB_of 1016 (by decide +kernel) (by decide +kernel)
theorem mlX4_30 : Cond.methodLink RX4 30 yJ9_min_7cf53 ∈ wB := wB_of 504 (by decide +kernel) (by decide +kernel)
theorem mlX4_43 : Cond.methodLink RX4 43 yX3_clear ∈ wB := wB_of 507 (by decide +kernel) (by decide +kernel)
theorem mlX4_60 : Cond.methodLink RX4 60 yX4_take ∈ wB := wB_of 511 (by decide +kernel) (by decide +kernel)
theorem mlX4_63 : Cond.methodLink RX4 63 yX4_readsLine ∈ wB := wB_of 524 (by decide +kernel) (by decide +kernel)
theorem mlX4_73 : Cond.methodLink RX4 73 yX4_fails ∈ wB := wB_of 591 (by decide +kernel) (by decide +kernel)
theorem mlX4_80 : Cond.methodLink RX4 80 yX4_takeWord ∈ wB := wB_of 515 (by decide +kernel) (by decide +kernel)
theorem mlX4_83 : Cond.methodLink RX4 83 yX4_takeWhole ∈ wB := wB_of 520 (by decide +kernel) (by decide +kernel)
theorem mlX4_95 : Cond.methodLink RX4 95 yJ0_length_8abf5 ∈ wB := wB_of 537 (by decide +kernel) (by decide +kernel)
theorem mlX4_100 : Cond.methodLink RX4 100 yJ0_charAt_5068e ∈ wB := wB_of 547 (by decide +kernel) (by decide +kernel)
theorem mlX4_106 : Cond.methodLink RX4 106 yX4_isWord ∈ wB := wB_of 533 (by decide +kernel) (by decide +kernel)
theorem mlX4_122 : Cond.methodLink RX4 122 yX4_beginsLine ∈ wB := wB_of 528 (by decide +kernel) (by decide +kernel)
theorem mlX4_128 : Cond.methodLink RX4 128 yX4_readsClose ∈ wB := wB_of 595 (by decide +kernel) (by decide +kernel)
theorem mlX4_131 : Cond.methodLink RX4 131 yX4_readsWall ∈ wB := wB_of 613 (by decide +kernel) (by decide +kernel)
theorem mlX4_134 : Cond.methodLink RX4 134 yX4_readsFace ∈ wB := wB_of 635 (by decide +kernel) (by decide +kernel)
theorem mlX4_137 : Cond.methodLink RX4 137 yX4_readsCanon ∈ wB := wB_of 661 (by decide +kernel) (by decide +kernel)
theorem mlX4_140 : Cond.methodLink RX4 140 yX4_readsWalker ∈ wB := wB_of 675 (by decide +kernel) (by decide +kernel)
theorem mlX4_143 : Cond.methodLink RX4 143 yX4_readsUnsure ∈ wB := wB_of 681 (by decide +kernel) (by decide +kernel)
theorem mlX4_146 : Cond.methodLink RX4 146 yX4_readsDropped ∈ wB := wB_of 689 (by decide +kernel) (by decide +kernel)
theorem mlX4_150 : Cond.methodLink RX4 150 yX4_labelled ∈ wB := wB_of 600 (by decide +kernel) (by decide +kernel)
theorem mlX4_162 : Cond.methodLink RX4 162 yX3_wallCount ∈ wB := wB_of 617 (by decide +kernel) (by decide +kernel)
theorem mlX4_168 : Cond.methodLink RX4 168 yX3_cells ∈ wB := wB_of 627 (by decide +kernel) (by decide +kernel)
theorem mlX4_171 : Cond.methodLink RX4 171 yX4_bounded ∈ wB := wB_of 604 (by decide +kernel) (by decide +kernel)
theorem mlX4_175 : Cond.methodLink RX4 175 yX3_isWall ∈ wB := wB_of 631 (by decide +kernel) (by decide +kernel)
theorem mlX4_181 : Cond.methodLink RX4 181 yX4_tells ∈ wB := wB_of 639 (by decide +kernel) (by decide +kernel)
theorem mlX4_184 : Cond.methodLink RX4 184 yX4_kindHere ∈ wB := wB_of 647 (by decide +kernel) (by decide +kernel)
theorem mlX4_200 : Cond.methodLink RX4 200 yX3_faceOver ∈ wB := wB_of 657 (by decide +kernel) (by decide +kernel)
theorem mlX4_215 : Cond.methodLink RX4 215 yX4_named ∈ wB := wB_of 665 (by decide +kernel) (by decide +kernel)
theorem mlX4_218 : Cond.methodLink RX4 218 yX3_toldCanonOf ∈ wB := wB_of 669 (by decide +kernel) (by decide +kernel)
theorem mlX4_243 : Cond.methodLink RX4 243 yX3_unsureOf ∈ wB := wB_of 685 (by decide +kernel) (by decide +kernel)
theorem mlX4_260 : Cond.methodLink RX4 260 yX4_nameAt ∈ wB := wB_of 643 (by decide +kernel) (by decide +kernel)
theorem mlX5_24 : Cond.methodLink RX5 24 yX5_beside ∈ wB := wB_of 928 (by decide +kernel) (by decide +kernel)
theorem mlX5_32 : Cond.methodLink RX5 32 yX5_weight ∈ wB := wB_of 950 (by decide +kernel) (by decide +kernel)
theorem mlX5_36 : Cond.methodLink RX5 36 yX3_cells ∈ wB := wB_of 954 (by decide +kernel) (by decide +kernel)
theorem mlX5_40 : Cond.methodLink RX5 40 yX5_leastOnward ∈ wB := wB_of 955 (by decide +kernel) (by decide +kernel)
theorem mlX5_43 : Cond.methodLink RX5 43 yX3_isWall ∈ wB := wB_of 964 (by decide +kernel) (by decide +kernel)
theorem mlX5_47 : Cond.methodLink RX5 47 yX5_firstStep ∈ wB := wB_of 979 (by decide +kernel) (by decide +kernel)
theorem mlX5_50 : Cond.methodLink RX5 50 yX5_next ∈ wB := wB_of 959 (by decide +kernel) (by decide +kernel)
theorem mlX5_54 : Cond.methodLink RX5 54 yJ9_min_7cf53 ∈ wB := wB_of 965 (by decide +kernel) (by decide +kernel)
theorem mlX5_60 : Cond.methodLink RX5 60 yJ9_max_7cf53 ∈ wB := wB_of 963 (by decide +kernel) (by decide +kernel)
theorem mlX7_77 : Cond.methodLink RX7 77 yX7_see ∈ wB := wB_of 1406 (by decide +kernel) (by decide +kernel)
theorem mlX7_93 : Cond.methodLink RX7 93 yX7_isSmall ∈ wB := wB_of 1410 (by decide +kernel) (by decide +kernel)
theorem mlX7_97 : Cond.methodLink RX7 97 yX7_isDigit ∈ wB := wB_of 1413 (by decide +kernel) (by decide +kernel)
theorem mlX7_107 : Cond.methodLink RX7 107 yJ0_length_8abf5 ∈ wB := wB_of 1425 (by decide +kernel) (by decide +kernel)
theorem mlX7_113 : Cond.methodLink RX7 113 yJ0_charAt_5068e ∈ wB := wB_of 1426 (by decide +kernel) (by decide +kernel)
theorem mlX7_117 : Cond.methodLink RX7 117 yX7_isWord ∈ wB := wB_of 1421 (by decide +kernel) (by decide +kernel)
theorem mlX7_121 : Cond.methodLink RX7 121 yX7_next ∈ wB := wB_of 1402 (by decide +kernel) (by decide +kernel)
theorem mlX7_124 : Cond.methodLink RX7 124 yX7_takesWord ∈ wB := wB_of 1444 (by decide +kernel) (by decide +kernel)
theorem mlX7_127 : Cond.methodLink RX7 127 yX7_wrong ∈ wB := wB_of 1431 (by decide +kernel) (by decide +kernel)
theorem mlX7_145 : Cond.methodLink RX7 145 yX7_mustName ∈ wB := wB_of 1487 (by decide +kernel) (by decide +kernel)
theorem mlX7_148 : Cond.methodLink RX7 148 yX7_find ∈ wB := wB_of 1495 (by decide +kernel) (by decide +kernel)
theorem mlX7_151 : Cond.methodLink RX7 151 yX7_in ∈ wB := wB_of 1395 (by decide +kernel) (by decide +kernel)
theorem mlX7_155 : Cond.methodLink RX7 155 yX7_numberHere ∈ wB := wB_of 1452 (by decide +kernel) (by decide +kernel)
theorem mlX7_159 : Cond.methodLink RX7 159 yX7_pass ∈ wB := wB_of 1456 (by decide +kernel) (by decide +kernel)
theorem mlX7_162 : Cond.methodLink RX7 162 yX7_must ∈ wB := wB_of 1440 (by decide +kernel) (by decide +kernel)
theorem mlX7_166 : Cond.methodLink RX7 166 yX7_number ∈ wB := wB_of 1448 (by decide +kernel) (by decide +kernel)
theorem mlX7_169 : Cond.methodLink RX7 169 yX7_good ∈ wB := wB_of 1391 (by decide +kernel) (by decide +kernel)
theorem mlX7_172 : Cond.methodLink RX7 172 yX7_no ∈ wB := wB_of 1398 (by decide +kernel) (by decide +kernel)
theorem mlX7_175 : Cond.methodLink RX7 175 yX7_readLine ∈ wB := wB_of 1416 (by decide +kernel) (by decide +kernel)
theorem mlX7_178 : Cond.methodLink RX7 178 yX7_copy ∈ wB := wB_of 1534 (by decide +kernel) (by decide +kernel)
theorem mlX7_191 : Cond.methodLink RX7 191 yX7_closeLine ∈ wB := wB_of 1427 (by decide +kernel) (by decide +kernel)
theorem mlX7_194 : Cond.methodLink RX7 194 yX7_begins ∈ wB := wB_of 1463 (by decide +kernel) (by decide +kernel)
theorem mlX7_198 : Cond.methodLink RX7 198 yX7_wallLine ∈ wB := wB_of 1467 (by decide +kernel) (by decide +kernel)
theorem mlX7_201 : Cond.methodLink RX7 201 yX7_faceLine ∈ wB := wB_of 1479 (by decide +kernel) (by decide +kernel)
theorem mlX7_204 : Cond.methodLink RX7 204 yX7_canonLine ∈ wB := wB_of 1505 (by decide +kernel) (by decide +kernel)
theorem mlX7_207 : Cond.methodLink RX7 207 yX7_walkerLine ∈ wB := wB_of 1515 (by decide +kernel) (by decide +kernel)
theorem mlX7_210 : Cond.methodLink RX7 210 yX7_unsureLine ∈ wB := wB_of 1525 (by decide +kernel) (by decide +kernel)
theorem mlX7_213 : Cond.methodLink RX7 213 yX7_droppedLine ∈ wB := wB_of 1529 (by decide +kernel) (by decide +kernel)
theorem mlX7_218 : Cond.methodLink RX7 218 yX7_after ∈ wB := wB_of 1436 (by decide +kernel) (by decide +kernel)
theorem mlX7_226 : Cond.methodLink RX7 226 yX7_cellHere ∈ wB := wB_of 1471 (by decide +kernel) (by decide +kernel)
theorem mlX7_229 : Cond.methodLink RX7 229 yX7_hasBit ∈ wB := wB_of 1475 (by decide +kernel) (by decide +kernel)
theorem mlX7_233 : Cond.methodLink RX7 233 yX7_newName ∈ wB := wB_of 1483 (by decide +kernel) (by decide +kernel)
theorem mlX7_248 : Cond.methodLink RX7 248 yX7_named ∈ wB := wB_of 1509 (by decide +kernel) (by decide +kernel)
theorem mlX7_256 : Cond.methodLink RX7 256 yX7_openCell ∈ wB := wB_of 1520 (by decide +kernel) (by decide +kernel)
theorem mlX7_263 : Cond.methodLink RX7 263 yX7_cells ∈ wB := wB_of 1573 (by decide +kernel) (by decide +kernel)
theorem mlX7_266 : Cond.methodLink RX7 266 yX7_letsGo ∈ wB := wB_of 1621 (by decide +kernel) (by decide +kernel)
theorem mlX7_270 : Cond.methodLink RX7 270 yX7_vexedBy ∈ wB := wB_of 1613 (by decide +kernel) (by decide +kernel)
theorem mlX7_273 : Cond.methodLink RX7 273 yX7_dayOn ∈ wB := wB_of 1617 (by decide +kernel) (by decide +kernel)
theorem mlX7_277 : Cond.methodLink RX7 277 yX7_isFace ∈ wB := wB_of 1549 (by decide +kernel) (by decide +kernel)
theorem mlX7_280 : Cond.methodLink RX7 280 yX7_canonOf ∈ wB := wB_of 1553 (by decide +kernel) (by decide +kernel)
theorem mlX7_283 : Cond.methodLink RX7 283 yX7_isCanon ∈ wB := wB_of 1561 (by decide +kernel) (by decide +kernel)
theorem mlX7_289 : Cond.methodLink RX7 289 yX7_isWall ∈ wB := wB_of 1589 (by decide +kernel) (by decide +kernel)
theorem mlX7_292 : Cond.methodLink RX7 292 yX7_stepFrom ∈ wB := wB_of 1585 (by decide +kernel) (by decide +kernel)
theorem mlX7_295 : Cond.methodLink RX7 295 yX7_isCell ∈ wB := wB_of 1569 (by decide +kernel) (by decide +kernel)
theorem mlX7_298 : Cond.methodLink RX7 298 yX7_faceOver ∈ wB := wB_of 1577 (by decide +kernel) (by decide +kernel)
theorem mlX7_301 : Cond.methodLink RX7 301 yX7_beside ∈ wB := wB_of 1581 (by decide +kernel) (by decide +kernel)
theorem mlX7_304 : Cond.methodLink RX7 304 yX7_why ∈ wB := wB_of 1605 (by decide +kernel) (by decide +kernel)
theorem mlX7_308 : Cond.methodLink RX7 308 yX7_aheadWhy ∈ wB := wB_of 1601 (by decide +kernel) (by decide +kernel)
theorem mlX7_312 : Cond.methodLink RX7 312 yX7_daysOn ∈ wB := wB_of 1609 (by decide +kernel) (by decide +kernel)
theorem mlX7_315 : Cond.methodLink RX7 315 yX7_wetOften ∈ wB := wB_of 1649 (by decide +kernel) (by decide +kernel)
theorem mlX7_318 : Cond.methodLink RX7 318 yX7_fallenOn ∈ wB := wB_of 1669 (by decide +kernel) (by decide +kernel)
theorem mlX7_322 : Cond.methodLink RX7 322 yX7_ones ∈ wB := wB_of 1693 (by decide +kernel) (by decide +kernel)
theorem mlX7_328 : Cond.methodLink RX7 328 yX7_letsOf ∈ wB := wB_of 1696 (by decide +kernel) (by decide +kernel)
theorem mlX7_334 : Cond.methodLink RX7 334 yX7_planWhy ∈ wB := wB_of 1677 (by decide +kernel) (by decide +kernel)
theorem mlX7_338 : Cond.methodLink RX7 338 yX7_mayHave ∈ wB := wB_of 1681 (by decide +kernel) (by decide +kernel)
theorem mlX7_341 : Cond.methodLink RX7 341 yX7_planAsNow ∈ wB := wB_of 1685 (by decide +kernel) (by decide +kernel)
theorem mlX7_344 : Cond.methodLink RX7 344 yX7_goByPlan ∈ wB := wB_of 1689 (by decide +kernel) (by decide +kernel)
theorem mlX7_353 : Cond.methodLink RX7 353 yX7_isBest ∈ wB := wB_of 1704 (by decide +kernel) (by decide +kernel)
theorem mlX7_356 : Cond.methodLink RX7 356 yX7_tryPlans ∈ wB := wB_of 1716 (by decide +kernel) (by decide +kernel)
theorem mlX7_360 : Cond.methodLink RX7 360 yX7_seekMatch ∈ wB := wB_of 1712 (by decide +kernel) (by decide +kernel)
theorem mlX7_364 : Cond.methodLink RX7 364 yX7_costOf ∈ wB := wB_of 1741 (by decide +kernel) (by decide +kernel)
theorem mlX7_367 : Cond.methodLink RX7 367 yX7_layCosts ∈ wB := wB_of 1736 (by decide +kernel) (by decide +kernel)
theorem mlX7_370 : Cond.methodLink RX7 370 yX7_stepsOf ∈ wB := wB_of 1732 (by decide +kernel) (by decide +kernel)
theorem mlX7_373 : Cond.methodLink RX7 373 yX7_isWalker ∈ wB := wB_of 1749 (by decide +kernel) (by decide +kernel)
theorem mlX7_376 : Cond.methodLink RX7 376 yX7_wayOf ∈ wB := wB_of 1753 (by decide +kernel) (by decide +kernel)
theorem mlX7_379 : Cond.methodLink RX7 379 yX7_allSteps ∈ wB := wB_of 1773 (by decide +kernel) (by decide +kernel)
theorem mlX7_391 : Cond.methodLink RX7 391 yX7_wrongBy ∈ wB := wB_of 1785 (by decide +kernel) (by decide +kernel)
theorem mlX7_394 : Cond.methodLink RX7 394 yX7_seekSets ∈ wB := wB_of 1781 (by decide +kernel) (by decide +kernel)
theorem mlX7_397 : Cond.methodLink RX7 397 yX7_leavesOf ∈ wB := wB_of 1809 (by decide +kernel) (by decide +kernel)
theorem mlX7_400 : Cond.methodLink RX7 400 yX7_askOf ∈ wB := wB_of 1805 (by decide +kernel) (by decide +kernel)
theorem mlX7_403 : Cond.methodLink RX7 403 yX7_breadHas ∈ wB := wB_of 1825 (by decide +kernel) (by decide +kernel)
theorem mlX7_406 : Cond.methodLink RX7 406 yX7_canonHas ∈ wB := wB_of 1828 (by decide +kernel) (by decide +kernel)
theorem mlX7_413 : Cond.methodLink RX7 413 yX7_seekRests ∈ wB := wB_of 1835 (by decide +kernel) (by decide +kernel)
theorem mlX7_426 : Cond.methodLink RX7 426 yX7_tryCalms ∈ wB := wB_of 1847 (by decide +kernel) (by decide +kernel)
theorem mlX7_429 : Cond.methodLink RX7 429 yX7_lowest ∈ wB := wB_of 1851 (by decide +kernel) (by decide +kernel)
theorem mlX7_438 : Cond.methodLink RX7 438 yX7_drawWhy ∈ wB := wB_of 1862 (by decide +kernel) (by decide +kernel)
theorem mlX7_441 : Cond.methodLink RX7 441 yX7_note ∈ wB := wB_of 1876 (by decide +kernel) (by decide +kernel)
theorem mlX7_444 : Cond.methodLink RX7 444 yX7_isNot ∈ wB := wB_of 1888 (by decide +kernel) (by decide +kernel)
theorem kiX6_245 : Cond.constant RX6 245 1048576 ∈ wB := wB_of 966 (by decide +kernel) (by decide +kernel)
theorem kiX6_351 : Cond.constant RX6 351 65537 ∈ wB := wB_of 1105 (by decide +kernel) (by decide +kernel)
theorem kiX1_41 : Cond.constant RX1 41 2147483647 ∈ wB := wB_of 894 (by decide +kernel) (by decide +kernel)
theorem kiX5_31 : Cond.constant RX5 31 1048576 ∈ wB := wB_of 949 (by decide +kernel) (by decide +kernel)
theorem kiX7_363 : Cond.constant RX7 363 100000000 ∈ wB := wB_of 1740 (by decide +kernel) (by decide +kernel)
theorem kiX7_433 : Cond.constant RX7 433 65536 ∈ wB := wB_of 1866 (by decide +kernel) (by decide +kernel)
theorem kiX7_437 : Cond.constant RX7 437 65537 ∈ wB := wB_of 1867 (by decide +kernel) (by decide +kernel)
theorem kiJ6_265 : Cond.constant RJ6 265 1431655765 ∈ wB := wB_of 624 (by decide +kernel) (by decide +kernel)
theorem kiJ6_266 : Cond.constant RJ6 266 858993459 ∈ wB := wB_of 625 (by decide +kernel) (by decide +kernel)
theorem kiJ6_267 : Cond.constant RJ6 267 252645135 ∈ wB := wB_of 626 (by decide +kernel) (by decide +kernel)
theorem klX6_298 : Cond.constantLong RX6 298 (-1) ∈ wB := wB_of 1082 (by decide +kernel) (by decide +kernel)
theorem klX6_400 : Cond.constantLong RX6 400 100 ∈ wB := wB_of 1087 (by decide +kernel) (by decide +kernel)
theorem klX4_90 : Cond.constantLong RX4 90 32 ∈ wB := wB_of 519 (by decide +kernel) (by decide +kernel)
theorem cv_J0_charAt_5068e : cV uJ0_charAt_5068e 1 := ⟨⟨wB_of 550 (by decide +kernel) (by decide +kernel), wB_of 136 (by decide +kernel) (by decide +kernel), by decide +kernel, by decide⟩, wB_of 548 (by decide +kernel) (by decide +kernel), wB_of 549 (by decide +kernel) (by decide +kernel)⟩
theorem cv_J0_length_8abf5 : cV uJ0_length_8abf5 0 := ⟨⟨wB_of 540 (by decide +kernel) (by decide +kernel), wB_of 136 (by decide +kernel) (by decide +kernel), by decide +kernel, by decide⟩, wB_of 538 (by decide +kernel) (by decide +kernel), wB_of 539 (by decide +kernel) (by decide +kernel)⟩
theorem ct_J6_bitCount_0f7a4 : cT uJ6_bitCount_0f7a4 1 := ⟨⟨wB_of 623 (by decide +kernel) (by decide +kernel), wB_of 140 (by decide +kernel) (by decide +kernel), by decide +kernel, by decide⟩, wB_of 622 (by decide +kernel) (by decide +kernel)⟩
theorem ct_J9_max_7cf53 : cT uJ9_max_7cf53 2 := ⟨⟨wB_of 853 (by decide +kernel) (by decide +kernel), wB_of 135 (by decide +kernel) (by decide +kernel), by decide +kernel, by decide⟩, wB_of 852 (by decide +kernel) (by decide +kernel)⟩
theorem ct_J9_max_f86c9 : cT uJ9_max_f86c9 2 := ⟨⟨wB_of 1093 (by decide +kernel) (by decide +kernel), wB_of 135 (by decide +kernel) (by decide +kernel), by decide +kernel, by decide⟩, wB_of 1092 (by decide +kernel) (by decide +kernel)⟩
theorem ct_J9_min_7cf53 : cT uJ9_min_7cf53 2 := ⟨⟨wB_of 506 (by decide +kernel) (by decide +kernel), wB_of 135 (by decide +kernel) (by decide +kernel), by decide +kernel, by decide⟩, wB_of 505 (by decide +kernel) (by decide +kernel)⟩
theorem cv_X0_firstDrop : cV uX0_firstDrop 1 := ⟨⟨wB_of 813 (by decide +kernel) (by decide +kernel), wB_of 131 (by decide +kernel) (by decide +kernel), by decide +kernel, by decide⟩, wB_of 811 (by decide +kernel) (by decide +kernel), wB_of 812 (by decide +kernel) (by decide +kernel)⟩
theorem cv_X0_pass : cV uX0_pass 1 := ⟨⟨wB_of 797 (by decide +kernel) (by decide +kernel), wB_of 131 (by decide +kernel) (by decide +kernel), by decide +kernel, by decide⟩, wB_of 795 (by decide +kernel) (by decide +kernel), wB_of 796 (by decide +kernel) (by decide +kernel)⟩
theorem cv_X0_passAll : cV uX0_passAll 1 := ⟨⟨wB_of 793 (by decide +kernel) (by decide +kernel), wB_of 131 (by decide +kernel) (by decide +kernel), by decide +kernel, by decide⟩, wB_of 791 (by decide +kernel) (by decide +kernel), wB_of 792 (by decide +kernel) (by decide +kernel)⟩
theorem cv_X0_start : cV uX0_start 4 := ⟨⟨wB_of 789 (by decide +kernel) (by decide +kernel), wB_of 131 (by decide +kernel) (by decide +kernel), by decide +kernel, by decide⟩, wB_of 787 (by decide +kernel) (by decide +kernel), wB_of 788 (by decide +kernel) (by decide +kernel)⟩
theorem cv_X1_addFace : cV uX1_addFace 2 := ⟨⟨wB_of 898 (by decide +kernel) (by decide +kernel), wB_of 133 (by decide +kernel) (by decide +kernel), by decide +kernel, by decide⟩, wB_of 896 (by decide +kernel) (by decide +kernel), wB_of 897 (by decide +kernel) (by decide +kernel)⟩
theorem cv_X1_clear : cV uX1_clear 2 := ⟨⟨wB_of 893 (by decide +kernel) (by decide +kernel), wB_of 133 (by decide +kernel) (by decide +kernel), by decide +kernel, by decide⟩, wB_of 891 (by decide +kernel) (by decide +kernel), wB_of 892 (by decide +kernel) (by decide +kernel)⟩
theorem cv_X1_place : cV uX1_place 3 := ⟨⟨wB_of 910 (by decide +kernel) (by decide +kernel), wB_of 133 (by decide +kernel) (by decide +kernel), by decide +kernel, by decide⟩, wB_of 909 (by decide +kernel) (by decide +kernel), wB_of 39 (by decide +kernel) (by decide +kernel)⟩
theorem cv_X1_setCost : cV uX1_setCost 3 := ⟨⟨wB_of 902 (by decide +kernel) (by decide +kernel), wB_of 133 (by decide +kernel) (by decide +kernel), by decide +kernel, by decide⟩, wB_of 900 (by decide +kernel) (by decide +kernel), wB_of 901 (by decide +kernel) (by decide +kernel)⟩
theorem cv_X1_solve : cV uX1_solve 0 := ⟨⟨wB_of 906 (by decide +kernel) (by decide +kernel), wB_of 133 (by decide +kernel) (by decide +kernel), by decide +kernel, by decide⟩, wB_of 904 (by decide +kernel) (by decide +kernel), wB_of 905 (by decide +kernel) (by decide +kernel)⟩
theorem cv_X2_begin : cV uX2_begin 1 := ⟨⟨wB_of 697 (by decide +kernel) (by decide +kernel), wB_of 130 (by decide +kernel) (by decide +kernel), by decide +kernel, by decide⟩, wB_of 695 (by decide +kernel) (by decide +kernel), wB_of 696 (by decide +kernel) (by decide +kernel)⟩
theorem cv_X2_copy : cV uX2_copy 1 := ⟨⟨wB_of 1132 (by decide +kernel) (by decide +kernel), wB_of 130 (by decide +kernel) (by decide +kernel), by decide +kernel, by decide⟩, wB_of 1130 (by decide +kernel) (by decide +kernel), wB_of 1131 (by decide +kernel) (by decide +kernel)⟩
theorem cv_X2_hasFallen : cV uX2_hasFallen 1 := ⟨⟨wB_of 724 (by decide +kernel) (by decide +kernel), wB_of 130 (by decide +kernel) (by decide +kernel), by decide +kernel, by decide⟩, wB_of 722 (by decide +kernel) (by decide +kernel), wB_of 723 (by decide +kernel) (by decide +kernel)⟩
theorem cv_X3_cells : cV uX3_cells 0 := ⟨⟨wB_of 630 (by decide +kernel) (by decide +kernel), wB_of 129 (by decide +kernel) (by decide +kernel), by decide +kernel, by decide⟩, wB_of 628 (by decide +kernel) (by decide +kernel), wB_of 629 (by decide +kernel) (by decide +kernel)⟩
theorem cv_X3_clear : cV uX3_clear 0 := ⟨⟨wB_of 510 (by decide +kernel) (by decide +kernel), wB_of 129 (by decide +kernel) (by decide +kernel), by decide +kernel, by decide⟩, wB_of 508 (by decide +kernel) (by decide +kernel), wB_of 509 (by decide +kernel) (by decide +kernel)⟩
theorem cv_X3_droppedCount : cV uX3_droppedCount 0 := ⟨⟨wB_of 1166 (by decide +kernel) (by decide +kernel), wB_of 129 (by decide +kernel) (by decide +kernel), by decide +kernel, by decide⟩, wB_of 1164 (by decide +kernel) (by decide +kernel), wB_of 1165 (by decide +kernel) (by decide +kernel)⟩
theorem cv_X3_faceOver : cV uX3_faceOver 1 := ⟨⟨wB_of 660 (by decide +kernel) (by decide +kernel), wB_of 129 (by decide +kernel) (by decide +kernel), by decide +kernel, by decide⟩, wB_of 658 (by decide +kernel) (by decide +kernel), wB_of 659 (by decide +kernel) (by decide +kernel)⟩
theorem cv_X3_isWall : cV uX3_isWall 1 := ⟨⟨wB_of 634 (by decide +kernel) (by decide +kernel), wB_of 129 (by decide +kernel) (by decide +kernel), by decide +kernel, by decide⟩, wB_of 632 (by decide +kernel) (by decide +kernel), wB_of 633 (by decide +kernel) (by decide +kernel)⟩
theorem cv_X3_open : cV uX3_open 0 := ⟨⟨wB_of 755 (by decide +kernel) (by decide +kernel), wB_of 129 (by decide +kernel) (by decide +kernel), by decide +kernel, by decide⟩, wB_of 753 (by decide +kernel) (by decide +kernel), wB_of 754 (by decide +kernel) (by decide +kernel)⟩
theorem cv_X3_toldCanonOf : cV uX3_toldCanonOf 1 := ⟨⟨wB_of 672 (by decide +kernel) (by decide +kernel), wB_of 129 (by decide +kernel) (by decide +kernel), by decide +kernel, by decide⟩, wB_of 670 (by decide +kernel) (by decide +kernel), wB_of 671 (by decide +kernel) (by decide +kernel)⟩
theorem cv_X3_unsureOf : cV uX3_unsureOf 1 := ⟨⟨wB_of 688 (by decide +kernel) (by decide +kernel), wB_of 129 (by decide +kernel) (by decide +kernel), by decide +kernel, by decide⟩, wB_of 686 (by decide +kernel) (by decide +kernel), wB_of 687 (by decide +kernel) (by decide +kernel)⟩
theorem cv_X3_vexedBy : cV uX3_vexedBy 2 := ⟨⟨wB_of 1015 (by decide +kernel) (by decide +kernel), wB_of 129 (by decide +kernel) (by decide +kernel), by decide +kernel, by decide⟩, wB_of 1013 (by decide +kernel) (by decide +kernel), wB_of 1014 (by decide +kernel) (by decide +kernel)⟩
theorem cv_X3_wallCount : cV uX3_wallCount 0 := ⟨⟨wB_of 620 (by decide +kernel) (by decide +kernel), wB_of 129 (by decide +kernel) (by decide +kernel), by decide +kernel, by decide⟩, wB_of 618 (by decide +kernel) (by decide +kernel), wB_of 619 (by decide +kernel) (by decide +kernel)⟩
theorem cv_X4_beginsLine : cV uX4_beginsLine 0 := ⟨⟨wB_of 531 (by decide +kernel) (by decide +kernel), wB_of 128 (by decide +kernel) (by decide +kernel), by decide +kernel, by decide⟩, wB_of 530 (by decide +kernel) (by decide +kernel), wB_of 5 (by decide +kernel) (by decide +kernel)⟩
theorem cv_X4_bounded : cV uX4_bounded 2 := ⟨⟨wB_of 607 (by decide +kernel) (by decide +kernel), wB_of 128 (by decide +kernel) (by decide +kernel), by decide +kernel, by decide⟩, wB_of 606 (by decide +kernel) (by decide +kernel), wB_of 10 (by decide +kernel) (by decide +kernel)⟩
theorem cv_X4_fails : cV uX4_fails 1 := ⟨⟨wB_of 594 (by decide +kernel) (by decide +kernel), wB_of 128 (by decide +kernel) (by decide +kernel), by decide +kernel, by decide⟩, wB_of 593 (by decide +kernel) (by decide +kernel), wB_of 7 (by decide +kernel) (by decide +kernel)⟩
theorem cv_X4_isWord : cV uX4_isWord 1 := ⟨⟨wB_of 536 (by decide +kernel) (by decide +kernel), wB_of 128 (by decide +kernel) (by decide +kernel), by decide +kernel, by decide⟩, wB_of 535 (by decide +kernel) (by decide +kernel), wB_of 6 (by decide +kernel) (by decide +kernel)⟩
theorem cv_X4_kindHere : cV uX4_kindHere 0 := ⟨⟨wB_of 650 (by decide +kernel) (by decide +kernel), wB_of 128 (by decide +kernel) (by decide +kernel), by decide +kernel, by decide⟩, wB_of 649 (by decide +kernel) (by decide +kernel), wB_of 15 (by decide +kernel) (by decide +kernel)⟩
theorem cv_X4_labelled : cV uX4_labelled 3 := ⟨⟨wB_of 603 (by decide +kernel) (by decide +kernel), wB_of 128 (by decide +kernel) (by decide +kernel), by decide +kernel, by decide⟩, wB_of 602 (by decide +kernel) (by decide +kernel), wB_of 9 (by decide +kernel) (by decide +kernel)⟩
theorem cv_X4_nameAt : cV uX4_nameAt 0 := ⟨⟨wB_of 646 (by decide +kernel) (by decide +kernel), wB_of 128 (by decide +kernel) (by decide +kernel), by decide +kernel, by decide⟩, wB_of 645 (by decide +kernel) (by decide +kernel), wB_of 14 (by decide +kernel) (by decide +kernel)⟩
theorem cv_X4_named : cV uX4_named 1 := ⟨⟨wB_of 668 (by decide +kernel) (by decide +kernel), wB_of 128 (by decide +kernel) (by decide +kernel), by decide +kernel, by decide⟩, wB_of 667 (by decide +kernel) (by decide +kernel), wB_of 17 (by decide +kernel) (by decide +kernel)⟩
theorem cv_X4_reads : cV uX4_reads 2 := ⟨⟨wB_of 503 (by decide +kernel) (by decide +kernel), wB_of 128 (by decide +kernel) (by decide +kernel), by decide +kernel, by decide⟩, wB_of 501 (by decide +kernel) (by decide +kernel), wB_of 502 (by decide +kernel) (by decide +kernel)⟩
theorem cv_X4_readsCanon : cV uX4_readsCanon 0 := ⟨⟨wB_of 664 (by decide +kernel) (by decide +kernel), wB_of 128 (by decide +kernel) (by decide +kernel), by decide +kernel, by decide⟩, wB_of 663 (by decide +kernel) (by decide +kernel), wB_of 16 (by decide +kernel) (by decide +kernel)⟩
theorem cv_X4_readsClose : cV uX4_readsClose 0 := ⟨⟨wB_of 598 (by decide +kernel) (by decide +kernel), wB_of 128 (by decide +kernel) (by decide +kernel), by decide +kernel, by decide⟩, wB_of 597 (by decide +kernel) (by decide +kernel), wB_of 8 (by decide +kernel) (by decide +kernel)⟩
theorem cv_X4_readsDropped : cV uX4_readsDropped 0 := ⟨⟨wB_of 692 (by decide +kernel) (by decide +kernel), wB_of 128 (by decide +kernel) (by decide +kernel), by decide +kernel, by decide⟩, wB_of 691 (by decide +kernel) (by decide +kernel), wB_of 20 (by decide +kernel) (by decide +kernel)⟩
theorem cv_X4_readsFace : cV uX4_readsFace 0 := ⟨⟨wB_of 638 (by decide +kernel) (by decide +kernel), wB_of 128 (by decide +kernel) (by decide +kernel), by decide +kernel, by decide⟩, wB_of 637 (by decide +kernel) (by decide +kernel), wB_of 12 (by decide +kernel) (by decide +kernel)⟩
theorem cv_X4_readsLine : cV uX4_readsLine 0 := ⟨⟨wB_of 527 (by decide +kernel) (by decide +kernel), wB_of 128 (by decide +kernel) (by decide +kernel), by decide +kernel, by decide⟩, wB_of 526 (by decide +kernel) (by decide +kernel), wB_of 4 (by decide +kernel) (by decide +kernel)⟩
theorem cv_X4_readsUnsure : cV uX4_readsUnsure 0 := ⟨⟨wB_of 684 (by decide +kernel) (by decide +kernel), wB_of 128 (by decide +kernel) (by decide +kernel), by decide +kernel, by decide⟩, wB_of 683 (by decide +kernel) (by decide +kernel), wB_of 19 (by decide +kernel) (by decide +kernel)⟩
theorem cv_X4_readsWalker : cV uX4_readsWalker 0 := ⟨⟨wB_of 678 (by decide +kernel) (by decide +kernel), wB_of 128 (by decide +kernel) (by decide +kernel), by decide +kernel, by decide⟩, wB_of 677 (by decide +kernel) (by decide +kernel), wB_of 18 (by decide +kernel) (by decide +kernel)⟩
theorem cv_X4_readsWall : cV uX4_readsWall 0 := ⟨⟨wB_of 616 (by decide +kernel) (by decide +kernel), wB_of 128 (by decide +kernel) (by decide +kernel), by decide +kernel, by decide⟩, wB_of 615 (by decide +kernel) (by decide +kernel), wB_of 11 (by decide +kernel) (by decide +kernel)⟩
theorem cv_X4_take : cV uX4_take 0 := ⟨⟨wB_of 514 (by decide +kernel) (by decide +kernel), wB_of 128 (by decide +kernel) (by decide +kernel), by decide +kernel, by decide⟩, wB_of 513 (by decide +kernel) (by decide +kernel), wB_of 1 (by decide +kernel) (by decide +kernel)⟩
theorem cv_X4_takeWhole : cV uX4_takeWhole 0 := ⟨⟨wB_of 523 (by decide +kernel) (by decide +kernel), wB_of 128 (by decide +kernel) (by decide +kernel), by decide +kernel, by decide⟩, wB_of 522 (by decide +kernel) (by decide +kernel), wB_of 3 (by decide +kernel) (by decide +kernel)⟩
theorem cv_X4_takeWord : cV uX4_takeWord 0 := ⟨⟨wB_of 518 (by decide +kernel) (by decide +kernel), wB_of 128 (by decide +kernel) (by decide +kernel), by decide +kernel, by decide⟩, wB_of 517 (by decide +kernel) (by decide +kernel), wB_of 2 (by decide +kernel) (by decide +kernel)⟩
theorem cv_X4_tape : cV uX4_tape 1 := ⟨⟨wB_of 491 (by decide +kernel) (by decide +kernel), wB_of 128 (by decide +kernel) (by decide +kernel), by decide +kernel, by decide⟩, wB_of 489 (by decide +kernel) (by decide +kernel), wB_of 490 (by decide +kernel) (by decide +kernel)⟩
theorem cv_X4_tells : cV uX4_tells 2 := ⟨⟨wB_of 642 (by decide +kernel) (by decide +kernel), wB_of 128 (by decide +kernel) (by decide +kernel), by decide +kernel, by decide⟩, wB_of 641 (by decide +kernel) (by decide +kernel), wB_of 13 (by decide +kernel) (by decide +kernel)⟩
theorem cv_X5_beside : cV uX5_beside 2 := ⟨⟨wB_of 751 (by decide +kernel) (by decide +kernel), wB_of 132 (by decide +kernel) (by decide +kernel), by decide +kernel, by decide⟩, wB_of 749 (by decide +kernel) (by decide +kernel), wB_of 750 (by decide +kernel) (by decide +kernel)⟩
theorem cv_X5_fewest : cV uX5_fewest 4 := ⟨⟨wB_of 927 (by decide +kernel) (by decide +kernel), wB_of 132 (by decide +kernel) (by decide +kernel), by decide +kernel, by decide⟩, wB_of 925 (by decide +kernel) (by decide +kernel), wB_of 926 (by decide +kernel) (by decide +kernel)⟩
theorem cv_X5_firstStep : cV uX5_firstStep 2 := ⟨⟨wB_of 982 (by decide +kernel) (by decide +kernel), wB_of 132 (by decide +kernel) (by decide +kernel), by decide +kernel, by decide⟩, wB_of 981 (by decide +kernel) (by decide +kernel), wB_of 46 (by decide +kernel) (by decide +kernel)⟩
theorem cv_X5_leastOnward : cV uX5_leastOnward 2 := ⟨⟨wB_of 958 (by decide +kernel) (by decide +kernel), wB_of 132 (by decide +kernel) (by decide +kernel), by decide +kernel, by decide⟩, wB_of 957 (by decide +kernel) (by decide +kernel), wB_of 44 (by decide +kernel) (by decide +kernel)⟩
theorem cv_X5_measure : cV uX5_measure 3 := ⟨⟨wB_of 948 (by decide +kernel) (by decide +kernel), wB_of 132 (by decide +kernel) (by decide +kernel), by decide +kernel, by decide⟩, wB_of 946 (by decide +kernel) (by decide +kernel), wB_of 947 (by decide +kernel) (by decide +kernel)⟩
theorem cv_X5_next : cV uX5_next 3 := ⟨⟨wB_of 962 (by decide +kernel) (by decide +kernel), wB_of 132 (by decide +kernel) (by decide +kernel), by decide +kernel, by decide⟩, wB_of 961 (by decide +kernel) (by decide +kernel), wB_of 45 (by decide +kernel) (by decide +kernel)⟩
theorem cv_X5_stepAt : cV uX5_stepAt 3 := ⟨⟨wB_of 978 (by decide +kernel) (by decide +kernel), wB_of 132 (by decide +kernel) (by decide +kernel), by decide +kernel, by decide⟩, wB_of 976 (by decide +kernel) (by decide +kernel), wB_of 977 (by decide +kernel) (by decide +kernel)⟩
theorem cv_X5_weight : cV uX5_weight 1 := ⟨⟨wB_of 953 (by decide +kernel) (by decide +kernel), wB_of 132 (by decide +kernel) (by decide +kernel), by decide +kernel, by decide⟩, wB_of 952 (by decide +kernel) (by decide +kernel), wB_of 43 (by decide +kernel) (by decide +kernel)⟩
theorem cv_X6_answer : cV uX6_answer 1 := ⟨⟨wB_of 704 (by decide +kernel) (by decide +kernel), wB_of 127 (by decide +kernel) (by decide +kernel), by decide +kernel, by decide⟩, wB_of 703 (by decide +kernel) (by decide +kernel), wB_of 21 (by decide +kernel) (by decide +kernel)⟩
theorem cv_X6_bestToAsk : cV uX6_bestToAsk 1 := ⟨⟨wB_of 1040 (by decide +kernel) (by decide +kernel), wB_of 127 (by decide +kernel) (by decide +kernel), by decide +kernel, by decide⟩, wB_of 1039 (by decide +kernel) (by decide +kernel), wB_of 51 (by decide +kernel) (by decide +kernel)⟩
theorem cv_X6_canChance : cV uX6_canChance 2 := ⟨⟨wB_of 1081 (by decide +kernel) (by decide +kernel), wB_of 127 (by decide +kernel) (by decide +kernel), by decide +kernel, by decide⟩, wB_of 1080 (by decide +kernel) (by decide +kernel), wB_of 53 (by decide +kernel) (by decide +kernel)⟩
theorem cv_X6_canFollow : cV uX6_canFollow 2 := ⟨⟨wB_of 772 (by decide +kernel) (by decide +kernel), wB_of 127 (by decide +kernel) (by decide +kernel), by decide +kernel, by decide⟩, wB_of 771 (by decide +kernel) (by decide +kernel), wB_of 27 (by decide +kernel) (by decide +kernel)⟩
theorem cv_X6_canGame : cV uX6_canGame 1 := ⟨⟨wB_of 1059 (by decide +kernel) (by decide +kernel), wB_of 127 (by decide +kernel) (by decide +kernel), by decide +kernel, by decide⟩, wB_of 1058 (by decide +kernel) (by decide +kernel), wB_of 52 (by decide +kernel) (by decide +kernel)⟩
theorem cv_X6_canLookAhead : cV uX6_canLookAhead 3 := ⟨⟨wB_of 826 (by decide +kernel) (by decide +kernel), wB_of 127 (by decide +kernel) (by decide +kernel), by decide +kernel, by decide⟩, wB_of 825 (by decide +kernel) (by decide +kernel), wB_of 31 (by decide +kernel) (by decide +kernel)⟩
theorem cv_X6_canWalk : cV uX6_canWalk 2 := ⟨⟨wB_of 936 (by decide +kernel) (by decide +kernel), wB_of 127 (by decide +kernel) (by decide +kernel), by decide +kernel, by decide⟩, wB_of 935 (by decide +kernel) (by decide +kernel), wB_of 40 (by decide +kernel) (by decide +kernel)⟩
theorem cv_X6_canonOf : cV uX6_canonOf 1 := ⟨⟨wB_of 728 (by decide +kernel) (by decide +kernel), wB_of 127 (by decide +kernel) (by decide +kernel), by decide +kernel, by decide⟩, wB_of 727 (by decide +kernel) (by decide +kernel), wB_of 23 (by decide +kernel) (by decide +kernel)⟩
theorem cv_X6_chance : cV uX6_chance 4 := ⟨⟨wB_of 1086 (by decide +kernel) (by decide +kernel), wB_of 127 (by decide +kernel) (by decide +kernel), by decide +kernel, by decide⟩, wB_of 1085 (by decide +kernel) (by decide +kernel), wB_of 54 (by decide +kernel) (by decide +kernel)⟩
theorem cv_X6_costIf : cV uX6_costIf 3 := ⟨⟨wB_of 869 (by decide +kernel) (by decide +kernel), wB_of 127 (by decide +kernel) (by decide +kernel), by decide +kernel, by decide⟩, wB_of 868 (by decide +kernel) (by decide +kernel), wB_of 35 (by decide +kernel) (by decide +kernel)⟩
theorem cv_X6_costOf : cV uX6_costOf 3 := ⟨⟨wB_of 873 (by decide +kernel) (by decide +kernel), wB_of 127 (by decide +kernel) (by decide +kernel), by decide +kernel, by decide⟩, wB_of 872 (by decide +kernel) (by decide +kernel), wB_of 36 (by decide +kernel) (by decide +kernel)⟩
theorem cv_X6_couldHave : cV uX6_couldHave 2 := ⟨⟨wB_of 865 (by decide +kernel) (by decide +kernel), wB_of 127 (by decide +kernel) (by decide +kernel), by decide +kernel, by decide⟩, wB_of 864 (by decide +kernel) (by decide +kernel), wB_of 34 (by decide +kernel) (by decide +kernel)⟩
theorem ct_X6_draw : cT uX6_draw 1 := ⟨⟨wB_of 1108 (by decide +kernel) (by decide +kernel), wB_of 127 (by decide +kernel) (by decide +kernel), by decide +kernel, by decide⟩, wB_of 1107 (by decide +kernel) (by decide +kernel)⟩
theorem cv_X6_dropFits : cV uX6_dropFits 2 := ⟨⟨wB_of 1010 (by decide +kernel) (by decide +kernel), wB_of 127 (by decide +kernel) (by decide +kernel), by decide +kernel, by decide⟩, wB_of 1009 (by decide +kernel) (by decide +kernel), wB_of 50 (by decide +kernel) (by decide +kernel)⟩
theorem cv_X6_firstDropBySeed : cV uX6_firstDropBySeed 3 := ⟨⟨wB_of 1120 (by decide +kernel) (by decide +kernel), wB_of 127 (by decide +kernel) (by decide +kernel), by decide +kernel, by decide⟩, wB_of 1119 (by decide +kernel) (by decide +kernel), wB_of 56 (by decide +kernel) (by decide +kernel)⟩
theorem cv_X6_fittingSets : cV uX6_fittingSets 0 := ⟨⟨wB_of 1002 (by decide +kernel) (by decide +kernel), wB_of 127 (by decide +kernel) (by decide +kernel), by decide +kernel, by decide⟩, wB_of 1001 (by decide +kernel) (by decide +kernel), wB_of 48 (by decide +kernel) (by decide +kernel)⟩
theorem cv_X6_follow : cV uX6_follow 2 := ⟨⟨wB_of 781 (by decide +kernel) (by decide +kernel), wB_of 127 (by decide +kernel) (by decide +kernel), by decide +kernel, by decide⟩, wB_of 780 (by decide +kernel) (by decide +kernel), wB_of 29 (by decide +kernel) (by decide +kernel)⟩
theorem cv_X6_foretellWet : cV uX6_foretellWet 1 := ⟨⟨wB_of 830 (by decide +kernel) (by decide +kernel), wB_of 127 (by decide +kernel) (by decide +kernel), by decide +kernel, by decide⟩, wB_of 829 (by decide +kernel) (by decide +kernel), wB_of 32 (by decide +kernel) (by decide +kernel)⟩
theorem ct_X6_greatestDivisor : cT uX6_greatestDivisor 2 := ⟨⟨wB_of 1090 (by decide +kernel) (by decide +kernel), wB_of 127 (by decide +kernel) (by decide +kernel), by decide +kernel, by decide⟩, wB_of 1089 (by decide +kernel) (by decide +kernel)⟩
theorem cv_X6_hasClose : cV uX6_hasClose 0 := ⟨⟨wB_of 764 (by decide +kernel) (by decide +kernel), wB_of 127 (by decide +kernel) (by decide +kernel), by decide +kernel, by decide⟩, wB_of 763 (by decide +kernel) (by decide +kernel), wB_of 26 (by decide +kernel) (by decide +kernel)⟩
theorem cv_X6_isCalm : cV uX6_isCalm 1 := ⟨⟨wB_of 1112 (by decide +kernel) (by decide +kernel), wB_of 127 (by decide +kernel) (by decide +kernel), by decide +kernel, by decide⟩, wB_of 1111 (by decide +kernel) (by decide +kernel), wB_of 55 (by decide +kernel) (by decide +kernel)⟩
theorem cv_X6_isCanon : cV uX6_isCanon 1 := ⟨⟨wB_of 736 (by decide +kernel) (by decide +kernel), wB_of 127 (by decide +kernel) (by decide +kernel), by decide +kernel, by decide⟩, wB_of 735 (by decide +kernel) (by decide +kernel), wB_of 24 (by decide +kernel) (by decide +kernel)⟩
theorem cv_X6_isCell : cV uX6_isCell 1 := ⟨⟨wB_of 744 (by decide +kernel) (by decide +kernel), wB_of 127 (by decide +kernel) (by decide +kernel), by decide +kernel, by decide⟩, wB_of 743 (by decide +kernel) (by decide +kernel), wB_of 25 (by decide +kernel) (by decide +kernel)⟩
theorem cv_X6_isFace : cV uX6_isFace 1 := ⟨⟨wB_of 720 (by decide +kernel) (by decide +kernel), wB_of 127 (by decide +kernel) (by decide +kernel), by decide +kernel, by decide⟩, wB_of 719 (by decide +kernel) (by decide +kernel), wB_of 22 (by decide +kernel) (by decide +kernel)⟩
theorem ct_X6_isRest : cT uX6_isRest 3 := ⟨⟨wB_of 1069 (by decide +kernel) (by decide +kernel), wB_of 127 (by decide +kernel) (by decide +kernel), by decide +kernel, by decide⟩, wB_of 1068 (by decide +kernel) (by decide +kernel)⟩
theorem ct_X6_isSeed : cT uX6_isSeed 1 := ⟨⟨wB_of 1104 (by decide +kernel) (by decide +kernel), wB_of 127 (by decide +kernel) (by decide +kernel), by decide +kernel, by decide⟩, wB_of 1103 (by decide +kernel) (by decide +kernel)⟩
theorem cv_X6_isWalker : cV uX6_isWalker 1 := ⟨⟨wB_of 940 (by decide +kernel) (by decide +kernel), wB_of 127 (by decide +kernel) (by decide +kernel), by decide +kernel, by decide⟩, wB_of 939 (by decide +kernel) (by decide +kernel), wB_of 41 (by decide +kernel) (by decide +kernel)⟩
theorem cv_X6_keep : cV uX6_keep 0 := ⟨⟨wB_of 1128 (by decide +kernel) (by decide +kernel), wB_of 127 (by decide +kernel) (by decide +kernel), by decide +kernel, by decide⟩, wB_of 1127 (by decide +kernel) (by decide +kernel), wB_of 57 (by decide +kernel) (by decide +kernel)⟩
theorem ct_X6_leftAtMost : cT uX6_leftAtMost 2 := ⟨⟨wB_of 1043 (by decide +kernel) (by decide +kernel), wB_of 127 (by decide +kernel) (by decide +kernel), by decide +kernel, by decide⟩, wB_of 1042 (by decide +kernel) (by decide +kernel)⟩
theorem cv_X6_makeMatch : cV uX6_makeMatch 1 := ⟨⟨wB_of 889 (by decide +kernel) (by decide +kernel), wB_of 127 (by decide +kernel) (by decide +kernel), by decide +kernel, by decide⟩, wB_of 888 (by decide +kernel) (by decide +kernel), wB_of 38 (by decide +kernel) (by decide +kernel)⟩
theorem cv_X6_numberFits : cV uX6_numberFits 3 := ⟨⟨wB_of 776 (by decide +kernel) (by decide +kernel), wB_of 127 (by decide +kernel) (by decide +kernel), by decide +kernel, by decide⟩, wB_of 775 (by decide +kernel) (by decide +kernel), wB_of 28 (by decide +kernel) (by decide +kernel)⟩
theorem cv_X6_refuse : cV uX6_refuse 1 := ⟨⟨wB_of 499 (by decide +kernel) (by decide +kernel), wB_of 127 (by decide +kernel) (by decide +kernel), by decide +kernel, by decide⟩, wB_of 498 (by decide +kernel) (by decide +kernel), wB_of 0 (by decide +kernel) (by decide +kernel)⟩
theorem cv_X6_setFits : cV uX6_setFits 1 := ⟨⟨wB_of 1006 (by decide +kernel) (by decide +kernel), wB_of 127 (by decide +kernel) (by decide +kernel), by decide +kernel, by decide⟩, wB_of 1005 (by decide +kernel) (by decide +kernel), wB_of 49 (by decide +kernel) (by decide +kernel)⟩
theorem ct_X6_setsWith : cT uX6_setsWith 2 := ⟨⟨wB_of 1028 (by decide +kernel) (by decide +kernel), wB_of 127 (by decide +kernel) (by decide +kernel), by decide +kernel, by decide⟩, wB_of 1027 (by decide +kernel) (by decide +kernel)⟩
theorem ct_X6_share : cT uX6_share 4 := ⟨⟨wB_of 1062 (by decide +kernel) (by decide +kernel), wB_of 127 (by decide +kernel) (by decide +kernel), by decide +kernel, by decide⟩, wB_of 1061 (by decide +kernel) (by decide +kernel)⟩
theorem cv_X6_startNow : cV uX6_startNow 2 := ⟨⟨wB_of 785 (by decide +kernel) (by decide +kernel), wB_of 127 (by decide +kernel) (by decide +kernel), by decide +kernel, by decide⟩, wB_of 784 (by decide +kernel) (by decide +kernel), wB_of 30 (by decide +kernel) (by decide +kernel)⟩
theorem cv_X6_stepsTogether : cV uX6_stepsTogether 1 := ⟨⟨wB_of 994 (by decide +kernel) (by decide +kernel), wB_of 127 (by decide +kernel) (by decide +kernel), by decide +kernel, by decide⟩, wB_of 993 (by decide +kernel) (by decide +kernel), wB_of 47 (by decide +kernel) (by decide +kernel)⟩
theorem cv_X6_tooFewFaces : cV uX6_tooFewFaces 0 := ⟨⟨wB_of 885 (by decide +kernel) (by decide +kernel), wB_of 127 (by decide +kernel) (by decide +kernel), by decide +kernel, by decide⟩, wB_of 884 (by decide +kernel) (by decide +kernel), wB_of 37 (by decide +kernel) (by decide +kernel)⟩
theorem cv_X6_wayCost : cV uX6_wayCost 2 := ⟨⟨wB_of 944 (by decide +kernel) (by decide +kernel), wB_of 127 (by decide +kernel) (by decide +kernel), by decide +kernel, by decide⟩, wB_of 943 (by decide +kernel) (by decide +kernel), wB_of 42 (by decide +kernel) (by decide +kernel)⟩
theorem cv_X6_wetDaysOf : cV uX6_wetDaysOf 2 := ⟨⟨wB_of 838 (by decide +kernel) (by decide +kernel), wB_of 127 (by decide +kernel) (by decide +kernel), by decide +kernel, by decide⟩, wB_of 837 (by decide +kernel) (by decide +kernel), wB_of 33 (by decide +kernel) (by decide +kernel)⟩
theorem ct_X6_within : cT uX6_within 3 := ⟨⟨wB_of 610 (by decide +kernel) (by decide +kernel), wB_of 127 (by decide +kernel) (by decide +kernel), by decide +kernel, by decide⟩, wB_of 609 (by decide +kernel) (by decide +kernel)⟩
theorem cv_X7_after : cV uX7_after 3 := ⟨⟨wB_of 1439 (by decide +kernel) (by decide +kernel), wB_of 134 (by decide +kernel) (by decide +kernel), by decide +kernel, by decide⟩, wB_of 1438 (by decide +kernel) (by decide +kernel), wB_of 67 (by decide +kernel) (by decide +kernel)⟩
theorem cv_X7_aheadWhy : cV uX7_aheadWhy 3 := ⟨⟨wB_of 1604 (by decide +kernel) (by decide +kernel), wB_of 134 (by decide +kernel) (by decide +kernel), by decide +kernel, by decide⟩, wB_of 1603 (by decide +kernel) (by decide +kernel), wB_of 95 (by decide +kernel) (by decide +kernel)⟩
theorem cv_X7_allSteps : cV uX7_allSteps 0 := ⟨⟨wB_of 1776 (by decide +kernel) (by decide +kernel), wB_of 134 (by decide +kernel) (by decide +kernel), by decide +kernel, by decide⟩, wB_of 1775 (by decide +kernel) (by decide +kernel), wB_of 116 (by decide +kernel) (by decide +kernel)⟩
theorem cv_X7_askOf : cV uX7_askOf 0 := ⟨⟨wB_of 1808 (by decide +kernel) (by decide +kernel), wB_of 134 (by decide +kernel) (by decide +kernel), by decide +kernel, by decide⟩, wB_of 1807 (by decide +kernel) (by decide +kernel), wB_of 119 (by decide +kernel) (by decide +kernel)⟩
theorem cv_X7_begins : cV uX7_begins 2 := ⟨⟨wB_of 1466 (by decide +kernel) (by decide +kernel), wB_of 134 (by decide +kernel) (by decide +kernel), by decide +kernel, by decide⟩, wB_of 1465 (by decide +kernel) (by decide +kernel), wB_of 73 (by decide +kernel) (by decide +kernel)⟩
theorem cv_X7_beside : cV uX7_beside 1 := ⟨⟨wB_of 1584 (by decide +kernel) (by decide +kernel), wB_of 134 (by decide +kernel) (by decide +kernel), by decide +kernel, by decide⟩, wB_of 1583 (by decide +kernel) (by decide +kernel), wB_of 92 (by decide +kernel) (by decide +kernel)⟩
theorem ct_X7_breadHas : cT uX7_breadHas 2 := ⟨⟨wB_of 1827 (by decide +kernel) (by decide +kernel), wB_of 134 (by decide +kernel) (by decide +kernel), by decide +kernel, by decide⟩, wB_of 1826 (by decide +kernel) (by decide +kernel)⟩
theorem ct_X7_canonHas : cT uX7_canonHas 3 := ⟨⟨wB_of 1830 (by decide +kernel) (by decide +kernel), wB_of 134 (by decide +kernel) (by decide +kernel), by decide +kernel, by decide⟩, wB_of 1829 (by decide +kernel) (by decide +kernel)⟩
theorem cv_X7_canonLine : cV uX7_canonLine 0 := ⟨⟨wB_of 1508 (by decide +kernel) (by decide +kernel), wB_of 134 (by decide +kernel) (by decide +kernel), by decide +kernel, by decide⟩, wB_of 1507 (by decide +kernel) (by decide +kernel), wB_of 80 (by decide +kernel) (by decide +kernel)⟩
theorem cv_X7_canonOf : cV uX7_canonOf 1 := ⟨⟨wB_of 1556 (by decide +kernel) (by decide +kernel), wB_of 134 (by decide +kernel) (by decide +kernel), by decide +kernel, by decide⟩, wB_of 1555 (by decide +kernel) (by decide +kernel), wB_of 87 (by decide +kernel) (by decide +kernel)⟩
theorem cv_X7_cellHere : cV uX7_cellHere 0 := ⟨⟨wB_of 1474 (by decide +kernel) (by decide +kernel), wB_of 134 (by decide +kernel) (by decide +kernel), by decide +kernel, by decide⟩, wB_of 1473 (by decide +kernel) (by decide +kernel), wB_of 75 (by decide +kernel) (by decide +kernel)⟩
theorem cv_X7_cells : cV uX7_cells 0 := ⟨⟨wB_of 1576 (by decide +kernel) (by decide +kernel), wB_of 134 (by decide +kernel) (by decide +kernel), by decide +kernel, by decide⟩, wB_of 1575 (by decide +kernel) (by decide +kernel), wB_of 90 (by decide +kernel) (by decide +kernel)⟩
theorem cv_X7_closeLine : cV uX7_closeLine 0 := ⟨⟨wB_of 1430 (by decide +kernel) (by decide +kernel), wB_of 134 (by decide +kernel) (by decide +kernel), by decide +kernel, by decide⟩, wB_of 1429 (by decide +kernel) (by decide +kernel), wB_of 65 (by decide +kernel) (by decide +kernel)⟩
theorem ct_X7_copy : cT uX7_copy 5 := ⟨⟨wB_of 1536 (by decide +kernel) (by decide +kernel), wB_of 134 (by decide +kernel) (by decide +kernel), by decide +kernel, by decide⟩, wB_of 1535 (by decide +kernel) (by decide +kernel)⟩
theorem cv_X7_costOf : cV uX7_costOf 2 := ⟨⟨wB_of 1744 (by decide +kernel) (by decide +kernel), wB_of 134 (by decide +kernel) (by decide +kernel), by decide +kernel, by decide⟩, wB_of 1743 (by decide +kernel) (by decide +kernel), wB_of 113 (by decide +kernel) (by decide +kernel)⟩
theorem cv_X7_dayOn : cV uX7_dayOn 2 := ⟨⟨wB_of 1620 (by decide +kernel) (by decide +kernel), wB_of 134 (by decide +kernel) (by decide +kernel), by decide +kernel, by decide⟩, wB_of 1619 (by decide +kernel) (by decide +kernel), wB_of 99 (by decide +kernel) (by decide +kernel)⟩
theorem cv_X7_daysOn : cV uX7_daysOn 1 := ⟨⟨wB_of 1612 (by decide +kernel) (by decide +kernel), wB_of 134 (by decide +kernel) (by decide +kernel), by decide +kernel, by decide⟩, wB_of 1611 (by decide +kernel) (by decide +kernel), wB_of 97 (by decide +kernel) (by decide +kernel)⟩
theorem cv_X7_drawWhy : cV uX7_drawWhy 3 := ⟨⟨wB_of 1865 (by decide +kernel) (by decide +kernel), wB_of 134 (by decide +kernel) (by decide +kernel), by decide +kernel, by decide⟩, wB_of 1864 (by decide +kernel) (by decide +kernel), wB_of 123 (by decide +kernel) (by decide +kernel)⟩
theorem cv_X7_droppedLine : cV uX7_droppedLine 0 := ⟨⟨wB_of 1532 (by decide +kernel) (by decide +kernel), wB_of 134 (by decide +kernel) (by decide +kernel), by decide +kernel, by decide⟩, wB_of 1531 (by decide +kernel) (by decide +kernel), wB_of 85 (by decide +kernel) (by decide +kernel)⟩
theorem cv_X7_faceLine : cV uX7_faceLine 0 := ⟨⟨wB_of 1482 (by decide +kernel) (by decide +kernel), wB_of 134 (by decide +kernel) (by decide +kernel), by decide +kernel, by decide⟩, wB_of 1481 (by decide +kernel) (by decide +kernel), wB_of 76 (by decide +kernel) (by decide +kernel)⟩
theorem cv_X7_faceOver : cV uX7_faceOver 1 := ⟨⟨wB_of 1580 (by decide +kernel) (by decide +kernel), wB_of 134 (by decide +kernel) (by decide +kernel), by decide +kernel, by decide⟩, wB_of 1579 (by decide +kernel) (by decide +kernel), wB_of 91 (by decide +kernel) (by decide +kernel)⟩
theorem cv_X7_fallenOn : cV uX7_fallenOn 1 := ⟨⟨wB_of 1672 (by decide +kernel) (by decide +kernel), wB_of 134 (by decide +kernel) (by decide +kernel), by decide +kernel, by decide⟩, wB_of 1671 (by decide +kernel) (by decide +kernel), wB_of 102 (by decide +kernel) (by decide +kernel)⟩
theorem cv_X7_find : cV uX7_find 0 := ⟨⟨wB_of 1498 (by decide +kernel) (by decide +kernel), wB_of 134 (by decide +kernel) (by decide +kernel), by decide +kernel, by decide⟩, wB_of 1497 (by decide +kernel) (by decide +kernel), wB_of 79 (by decide +kernel) (by decide +kernel)⟩
theorem cv_X7_goByPlan : cV uX7_goByPlan 1 := ⟨⟨wB_of 1692 (by decide +kernel) (by decide +kernel), wB_of 134 (by decide +kernel) (by decide +kernel), by decide +kernel, by decide⟩, wB_of 1691 (by decide +kernel) (by decide +kernel), wB_of 106 (by decide +kernel) (by decide +kernel)⟩
theorem cv_X7_good : cV uX7_good 0 := ⟨⟨wB_of 1394 (by decide +kernel) (by decide +kernel), wB_of 134 (by decide +kernel) (by decide +kernel), by decide +kernel, by decide⟩, wB_of 1393 (by decide +kernel) (by decide +kernel), wB_of 59 (by decide +kernel) (by decide +kernel)⟩
theorem ct_X7_hasBit : cT uX7_hasBit 2 := ⟨⟨wB_of 1477 (by decide +kernel) (by decide +kernel), wB_of 134 (by decide +kernel) (by decide +kernel), by decide +kernel, by decide⟩, wB_of 1476 (by decide +kernel) (by decide +kernel)⟩
theorem ct_X7_in : cT uX7_in 3 := ⟨⟨wB_of 1397 (by decide +kernel) (by decide +kernel), wB_of 134 (by decide +kernel) (by decide +kernel), by decide +kernel, by decide⟩, wB_of 1396 (by decide +kernel) (by decide +kernel)⟩
theorem cv_X7_isBest : cV uX7_isBest 1 := ⟨⟨wB_of 1707 (by decide +kernel) (by decide +kernel), wB_of 134 (by decide +kernel) (by decide +kernel), by decide +kernel, by decide⟩, wB_of 1706 (by decide +kernel) (by decide +kernel), wB_of 108 (by decide +kernel) (by decide +kernel)⟩
theorem cv_X7_isCanon : cV uX7_isCanon 1 := ⟨⟨wB_of 1564 (by decide +kernel) (by decide +kernel), wB_of 134 (by decide +kernel) (by decide +kernel), by decide +kernel, by decide⟩, wB_of 1563 (by decide +kernel) (by decide +kernel), wB_of 88 (by decide +kernel) (by decide +kernel)⟩
theorem cv_X7_isCell : cV uX7_isCell 1 := ⟨⟨wB_of 1572 (by decide +kernel) (by decide +kernel), wB_of 134 (by decide +kernel) (by decide +kernel), by decide +kernel, by decide⟩, wB_of 1571 (by decide +kernel) (by decide +kernel), wB_of 89 (by decide +kernel) (by decide +kernel)⟩
theorem ct_X7_isDigit : cT uX7_isDigit 1 := ⟨⟨wB_of 1415 (by decide +kernel) (by decide +kernel), wB_of 134 (by decide +kernel) (by decide +kernel), by decide +kernel, by decide⟩, wB_of 1414 (by decide +kernel) (by decide +kernel)⟩
theorem cv_X7_isFace : cV uX7_isFace 1 := ⟨⟨wB_of 1552 (by decide +kernel) (by decide +kernel), wB_of 134 (by decide +kernel) (by decide +kernel), by decide +kernel, by decide⟩, wB_of 1551 (by decide +kernel) (by decide +kernel), wB_of 86 (by decide +kernel) (by decide +kernel)⟩
theorem cv_X7_isNot : cV uX7_isNot 1 := ⟨⟨wB_of 1891 (by decide +kernel) (by decide +kernel), wB_of 134 (by decide +kernel) (by decide +kernel), by decide +kernel, by decide⟩, wB_of 1890 (by decide +kernel) (by decide +kernel), wB_of 125 (by decide +kernel) (by decide +kernel)⟩
theorem ct_X7_isSmall : cT uX7_isSmall 1 := ⟨⟨wB_of 1412 (by decide +kernel) (by decide +kernel), wB_of 134 (by decide +kernel) (by decide +kernel), by decide +kernel, by decide⟩, wB_of 1411 (by decide +kernel) (by decide +kernel)⟩
theorem cv_X7_isWalker : cV uX7_isWalker 1 := ⟨⟨wB_of 1752 (by decide +kernel) (by decide +kernel), wB_of 134 (by decide +kernel) (by decide +kernel), by decide +kernel, by decide⟩, wB_of 1751 (by decide +kernel) (by decide +kernel), wB_of 114 (by decide +kernel) (by decide +kernel)⟩
theorem cv_X7_isWall : cV uX7_isWall 1 := ⟨⟨wB_of 1592 (by decide +kernel) (by decide +kernel), wB_of 134 (by decide +kernel) (by decide +kernel), by decide +kernel, by decide⟩, wB_of 1591 (by decide +kernel) (by decide +kernel), wB_of 94 (by decide +kernel) (by decide +kernel)⟩
theorem cv_X7_isWord : cV uX7_isWord 1 := ⟨⟨wB_of 1424 (by decide +kernel) (by decide +kernel), wB_of 134 (by decide +kernel) (by decide +kernel), by decide +kernel, by decide⟩, wB_of 1423 (by decide +kernel) (by decide +kernel), wB_of 64 (by decide +kernel) (by decide +kernel)⟩
theorem cv_X7_layCosts : cV uX7_layCosts 2 := ⟨⟨wB_of 1739 (by decide +kernel) (by decide +kernel), wB_of 134 (by decide +kernel) (by decide +kernel), by decide +kernel, by decide⟩, wB_of 1738 (by decide +kernel) (by decide +kernel), wB_of 112 (by decide +kernel) (by decide +kernel)⟩
theorem cv_X7_leavesOf : cV uX7_leavesOf 1 := ⟨⟨wB_of 1812 (by decide +kernel) (by decide +kernel), wB_of 134 (by decide +kernel) (by decide +kernel), by decide +kernel, by decide⟩, wB_of 1811 (by decide +kernel) (by decide +kernel), wB_of 120 (by decide +kernel) (by decide +kernel)⟩
theorem cv_X7_letsGo : cV uX7_letsGo 2 := ⟨⟨wB_of 1624 (by decide +kernel) (by decide +kernel), wB_of 134 (by decide +kernel) (by decide +kernel), by decide +kernel, by decide⟩, wB_of 1623 (by decide +kernel) (by decide +kernel), wB_of 100 (by decide +kernel) (by decide +kernel)⟩
theorem cv_X7_letsOf : cV uX7_letsOf 1 := ⟨⟨wB_of 1699 (by decide +kernel) (by decide +kernel), wB_of 134 (by decide +kernel) (by decide +kernel), by decide +kernel, by decide⟩, wB_of 1698 (by decide +kernel) (by decide +kernel), wB_of 107 (by decide +kernel) (by decide +kernel)⟩
theorem ct_X7_lowest : cT uX7_lowest 3 := ⟨⟨wB_of 1853 (by decide +kernel) (by decide +kernel), wB_of 134 (by decide +kernel) (by decide +kernel), by decide +kernel, by decide⟩, wB_of 1852 (by decide +kernel) (by decide +kernel)⟩
theorem cv_X7_mayHave : cV uX7_mayHave 2 := ⟨⟨wB_of 1684 (by decide +kernel) (by decide +kernel), wB_of 134 (by decide +kernel) (by decide +kernel), by decide +kernel, by decide⟩, wB_of 1683 (by decide +kernel) (by decide +kernel), wB_of 104 (by decide +kernel) (by decide +kernel)⟩
theorem cv_X7_must : cV uX7_must 1 := ⟨⟨wB_of 1443 (by decide +kernel) (by decide +kernel), wB_of 134 (by decide +kernel) (by decide +kernel), by decide +kernel, by decide⟩, wB_of 1442 (by decide +kernel) (by decide +kernel), wB_of 68 (by decide +kernel) (by decide +kernel)⟩
theorem cv_X7_mustName : cV uX7_mustName 0 := ⟨⟨wB_of 1490 (by decide +kernel) (by decide +kernel), wB_of 134 (by decide +kernel) (by decide +kernel), by decide +kernel, by decide⟩, wB_of 1489 (by decide +kernel) (by decide +kernel), wB_of 78 (by decide +kernel) (by decide +kernel)⟩
theorem cv_X7_named : cV uX7_named 2 := ⟨⟨wB_of 1512 (by decide +kernel) (by decide +kernel), wB_of 134 (by decide +kernel) (by decide +kernel), by decide +kernel, by decide⟩, wB_of 1511 (by decide +kernel) (by decide +kernel), wB_of 81 (by decide +kernel) (by decide +kernel)⟩
theorem cv_X7_newName : cV uX7_newName 1 := ⟨⟨wB_of 1486 (by decide +kernel) (by decide +kernel), wB_of 134 (by decide +kernel) (by decide +kernel), by decide +kernel, by decide⟩, wB_of 1485 (by decide +kernel) (by decide +kernel), wB_of 77 (by decide +kernel) (by decide +kernel)⟩
theorem cv_X7_next : cV uX7_next 0 := ⟨⟨wB_of 1405 (by decide +kernel) (by decide +kernel), wB_of 134 (by decide +kernel) (by decide +kernel), by decide +kernel, by decide⟩, wB_of 1404 (by decide +kernel) (by decide +kernel), wB_of 61 (by decide +kernel) (by decide +kernel)⟩
theorem cv_X7_no : cV uX7_no 1 := ⟨⟨wB_of 1401 (by decide +kernel) (by decide +kernel), wB_of 134 (by decide +kernel) (by decide +kernel), by decide +kernel, by decide⟩, wB_of 1400 (by decide +kernel) (by decide +kernel), wB_of 60 (by decide +kernel) (by decide +kernel)⟩
theorem cv_X7_note : cV uX7_note 0 := ⟨⟨wB_of 1879 (by decide +kernel) (by decide +kernel), wB_of 134 (by decide +kernel) (by decide +kernel), by decide +kernel, by decide⟩, wB_of 1878 (by decide +kernel) (by decide +kernel), wB_of 124 (by decide +kernel) (by decide +kernel)⟩
theorem cv_X7_number : cV uX7_number 2 := ⟨⟨wB_of 1451 (by decide +kernel) (by decide +kernel), wB_of 134 (by decide +kernel) (by decide +kernel), by decide +kernel, by decide⟩, wB_of 1450 (by decide +kernel) (by decide +kernel), wB_of 70 (by decide +kernel) (by decide +kernel)⟩
theorem cv_X7_numberHere : cV uX7_numberHere 2 := ⟨⟨wB_of 1455 (by decide +kernel) (by decide +kernel), wB_of 134 (by decide +kernel) (by decide +kernel), by decide +kernel, by decide⟩, wB_of 1454 (by decide +kernel) (by decide +kernel), wB_of 71 (by decide +kernel) (by decide +kernel)⟩
theorem ct_X7_ones : cT uX7_ones 1 := ⟨⟨wB_of 1695 (by decide +kernel) (by decide +kernel), wB_of 134 (by decide +kernel) (by decide +kernel), by decide +kernel, by decide⟩, wB_of 1694 (by decide +kernel) (by decide +kernel)⟩
theorem cv_X7_openCell : cV uX7_openCell 0 := ⟨⟨wB_of 1523 (by decide +kernel) (by decide +kernel), wB_of 134 (by decide +kernel) (by decide +kernel), by decide +kernel, by decide⟩, wB_of 1522 (by decide +kernel) (by decide +kernel), wB_of 83 (by decide +kernel) (by decide +kernel)⟩
theorem cv_X7_pass : cV uX7_pass 0 := ⟨⟨wB_of 1459 (by decide +kernel) (by decide +kernel), wB_of 134 (by decide +kernel) (by decide +kernel), by decide +kernel, by decide⟩, wB_of 1458 (by decide +kernel) (by decide +kernel), wB_of 72 (by decide +kernel) (by decide +kernel)⟩
theorem cv_X7_planAsNow : cV uX7_planAsNow 0 := ⟨⟨wB_of 1688 (by decide +kernel) (by decide +kernel), wB_of 134 (by decide +kernel) (by decide +kernel), by decide +kernel, by decide⟩, wB_of 1687 (by decide +kernel) (by decide +kernel), wB_of 105 (by decide +kernel) (by decide +kernel)⟩
theorem cv_X7_planWhy : cV uX7_planWhy 2 := ⟨⟨wB_of 1680 (by decide +kernel) (by decide +kernel), wB_of 134 (by decide +kernel) (by decide +kernel), by decide +kernel, by decide⟩, wB_of 1679 (by decide +kernel) (by decide +kernel), wB_of 103 (by decide +kernel) (by decide +kernel)⟩
theorem cv_X7_readLine : cV uX7_readLine 0 := ⟨⟨wB_of 1419 (by decide +kernel) (by decide +kernel), wB_of 134 (by decide +kernel) (by decide +kernel), by decide +kernel, by decide⟩, wB_of 1418 (by decide +kernel) (by decide +kernel), wB_of 63 (by decide +kernel) (by decide +kernel)⟩
theorem cv_X7_see : cV uX7_see 1 := ⟨⟨wB_of 1409 (by decide +kernel) (by decide +kernel), wB_of 134 (by decide +kernel) (by decide +kernel), by decide +kernel, by decide⟩, wB_of 1408 (by decide +kernel) (by decide +kernel), wB_of 62 (by decide +kernel) (by decide +kernel)⟩
theorem cv_X7_seekMatch : cV uX7_seekMatch 1 := ⟨⟨wB_of 1715 (by decide +kernel) (by decide +kernel), wB_of 134 (by decide +kernel) (by decide +kernel), by decide +kernel, by decide⟩, wB_of 1714 (by decide +kernel) (by decide +kernel), wB_of 109 (by decide +kernel) (by decide +kernel)⟩
theorem cv_X7_seekRests : cV uX7_seekRests 1 := ⟨⟨wB_of 1838 (by decide +kernel) (by decide +kernel), wB_of 134 (by decide +kernel) (by decide +kernel), by decide +kernel, by decide⟩, wB_of 1837 (by decide +kernel) (by decide +kernel), wB_of 121 (by decide +kernel) (by decide +kernel)⟩
theorem cv_X7_seekSets : cV uX7_seekSets 1 := ⟨⟨wB_of 1784 (by decide +kernel) (by decide +kernel), wB_of 134 (by decide +kernel) (by decide +kernel), by decide +kernel, by decide⟩, wB_of 1783 (by decide +kernel) (by decide +kernel), wB_of 117 (by decide +kernel) (by decide +kernel)⟩
theorem cv_X7_stepFrom : cV uX7_stepFrom 2 := ⟨⟨wB_of 1588 (by decide +kernel) (by decide +kernel), wB_of 134 (by decide +kernel) (by decide +kernel), by decide +kernel, by decide⟩, wB_of 1587 (by decide +kernel) (by decide +kernel), wB_of 93 (by decide +kernel) (by decide +kernel)⟩
theorem cv_X7_stepsOf : cV uX7_stepsOf 2 := ⟨⟨wB_of 1735 (by decide +kernel) (by decide +kernel), wB_of 134 (by decide +kernel) (by decide +kernel), by decide +kernel, by decide⟩, wB_of 1734 (by decide +kernel) (by decide +kernel), wB_of 111 (by decide +kernel) (by decide +kernel)⟩
theorem cv_X7_takesWord : cV uX7_takesWord 1 := ⟨⟨wB_of 1447 (by decide +kernel) (by decide +kernel), wB_of 134 (by decide +kernel) (by decide +kernel), by decide +kernel, by decide⟩, wB_of 1446 (by decide +kernel) (by decide +kernel), wB_of 69 (by decide +kernel) (by decide +kernel)⟩
theorem cv_X7_tryCalms : cV uX7_tryCalms 2 := ⟨⟨wB_of 1850 (by decide +kernel) (by decide +kernel), wB_of 134 (by decide +kernel) (by decide +kernel), by decide +kernel, by decide⟩, wB_of 1849 (by decide +kernel) (by decide +kernel), wB_of 122 (by decide +kernel) (by decide +kernel)⟩
theorem cv_X7_tryPlans : cV uX7_tryPlans 3 := ⟨⟨wB_of 1719 (by decide +kernel) (by decide +kernel), wB_of 134 (by decide +kernel) (by decide +kernel), by decide +kernel, by decide⟩, wB_of 1718 (by decide +kernel) (by decide +kernel), wB_of 110 (by decide +kernel) (by decide +kernel)⟩
theorem cv_X7_unsureLine : cV uX7_unsureLine 0 := ⟨⟨wB_of 1528 (by decide +kernel) (by decide +kernel), wB_of 134 (by decide +kernel) (by decide +kernel), by decide +kernel, by decide⟩, wB_of 1527 (by decide +kernel) (by decide +kernel), wB_of 84 (by decide +kernel) (by decide +kernel)⟩
theorem cv_X7_vexedBy : cV uX7_vexedBy 1 := ⟨⟨wB_of 1616 (by decide +kernel) (by decide +kernel), wB_of 134 (by decide +kernel) (by decide +kernel), by decide +kernel, by decide⟩, wB_of 1615 (by decide +kernel) (by decide +kernel), wB_of 98 (by decide +kernel) (by decide +kernel)⟩
theorem cv_X7_walkerLine : cV uX7_walkerLine 0 := ⟨⟨wB_of 1518 (by decide +kernel) (by decide +kernel), wB_of 134 (by decide +kernel) (by decide +kernel), by decide +kernel, by decide⟩, wB_of 1517 (by decide +kernel) (by decide +kernel), wB_of 82 (by decide +kernel) (by decide +kernel)⟩
theorem cv_X7_wallLine : cV uX7_wallLine 0 := ⟨⟨wB_of 1470 (by decide +kernel) (by decide +kernel), wB_of 134 (by decide +kernel) (by decide +kernel), by decide +kernel, by decide⟩, wB_of 1469 (by decide +kernel) (by decide +kernel), wB_of 74 (by decide +kernel) (by decide +kernel)⟩
theorem cv_X7_wayOf : cV uX7_wayOf 2 := ⟨⟨wB_of 1756 (by decide +kernel) (by decide +kernel), wB_of 134 (by decide +kernel) (by decide +kernel), by decide +kernel, by decide⟩, wB_of 1755 (by decide +kernel) (by decide +kernel), wB_of 115 (by decide +kernel) (by decide +kernel)⟩
theorem cv_X7_wetOften : cV uX7_wetOften 2 := ⟨⟨wB_of 1652 (by decide +kernel) (by decide +kernel), wB_of 134 (by decide +kernel) (by decide +kernel), by decide +kernel, by decide⟩, wB_of 1651 (by decide +kernel) (by decide +kernel), wB_of 101 (by decide +kernel) (by decide +kernel)⟩
theorem cv_X7_why : cV uX7_why 2 := ⟨⟨wB_of 1608 (by decide +kernel) (by decide +kernel), wB_of 134 (by decide +kernel) (by decide +kernel), by decide +kernel, by decide⟩, wB_of 1607 (by decide +kernel) (by decide +kernel), wB_of 96 (by decide +kernel) (by decide +kernel)⟩
theorem cv_X7_wrong : cV uX7_wrong 2 := ⟨⟨wB_of 1434 (by decide +kernel) (by decide +kernel), wB_of 134 (by decide +kernel) (by decide +kernel), by decide +kernel, by decide⟩, wB_of 1433 (by decide +kernel) (by decide +kernel), wB_of 66 (by decide +kernel) (by decide +kernel)⟩
theorem cv_X7_wrongBy : cV uX7_wrongBy 1 := ⟨⟨wB_of 1788 (by decide +kernel) (by decide +kernel), wB_of 134 (by decide +kernel) (by decide +kernel), by decide +kernel, by decide⟩, wB_of 1787 (by decide +kernel) (by decide +kernel), wB_of 118 (by decide +kernel) (by decide +kernel)⟩
end
section
/-! THE SHADOW: the pool's objects have names 1, 2, .. (0 is null, 4999 the script, 5000 + i the i-th String constant); a memory says what each name is (kind, length) and holds. Methods are walked over the memory; the rows below tie each step to the machine once and for all. -/
abbrev Ls : Type := List (Nat × Value)
/-- how many names; cells and slots used; (kind, length) of a name; ints, longs, references of a name by place -/
abbrev Mm : Type := (Nat × Nat × Nat × (Nat → Nat × Nat)) × (Nat → Nat → Int32) × (Nat → Nat → Int64) × (Nat → Nat → Nat)
def mN (M : Mm) : Nat := M.1.1
def mC (M : Mm) : Nat := M.1.2.1
def mS (M : Mm) : Nat := M.1.2.2.1
def mK (M : Mm) (a : Nat) : Nat × Nat := M.1.2.2.2 a
def mI (M : Mm) (a i : Nat) : Int32 := M.2.1 a i
def mL (M : Mm) (a i : Nat) : Int64 := M.2.2.1 a i
def mR (M : Mm) (a i : Nat) : Nat := M.2.2.2 a i
def wI (M : Mm) (a i : Nat) (v : Int32) : Mm := (M.1, fun b j => if b = a ∧ j = i then v else M.2.1 b j, M.2.2)
def wL (M : Mm) (a i : Nat) (v : Int64) : Mm := (M.1, M.2.1, fun b j => if b = a ∧ j = i then v else M.2.2.1 b j, M.2.2.2)
def wR (M : Mm) (a i : Nat) (v : Nat) : Mm := (M.1, M.2.1, M.2.2.1, fun b j => if b = a ∧ j = i then v else M.2.2.2 b j)
def wF (M : Mm) (a : Nat) (f : Nat → Int32) : Mm := (M.1, fun b j => if b = a then f j else M.2.1 b j, M.2.2)
/-- a new name, of a kind and length, n slots more -/
def wA (M : Mm) (k : Nat × Nat) (n : Nat) : Mm := ((mN M + 1, mC M + 1, mS M + n, fun b => if b = mN M + 1 then k else mK M b), (fun b j => if b = mN M + 1 then 0 else M.2.1 b j), (fun b j => if b = mN M + 1 then 0 else M.2.2.1 b j), (fun b j => if b = mN M + 1 then 0 else M.2.2.2 b j))
/-- a value as the machine has it -/
def iv (ad : Nat → Nat) (v : Value) : Value := match v with
  | .ref 0 => .null
  | .ref (k + 1) => .ref (ad (k + 1))
  | w => w
theorem iv_ref {ad : Nat → Nat} {a : Nat} (h : 0 < a) : iv ad (.ref a) = .ref (ad a) := by
  cases a with
  | zero => exact absurd h (Nat.lt_irrefl 0)
  | succ k => rfl
theorem iv_cat (ad : Nat → Nat) (v : Value) : (iv ad v).category = v.category := by
  cases v with
  | ref a => cases a <;> rfl
  | _ => rfl
/-- the kinds of a class's fields: 0 int, 1 long, 2 a reference -/
def tf (c : Nat) : List Nat := match c with
  | 0 => [0, 0, 0, 0, 0, 0, 0, 0]
  | 1 => [2, 2, 2, 2, 0, 0, 0, 0, 0]
  | 2 => [2, 2, 2, 2, 0, 0]
  | 3 => [0, 0, 0, 0, 0, 2, 2, 2, 2, 2, 0, 2, 2, 2, 0, 2, 2, 0, 2, 2]
  | 4 => [2, 0, 0, 2, 0, 0, 0, 0, 1, 2, 2, 2, 0, 0, 0]
  | 5 => [2, 0]
  | 6 => [2, 2, 2, 2, 2, 0, 0, 2, 0, 2, 2, 2, 2, 0]
  | 7 => [0, 2, 0, 0, 0, 0, 0, 0, 0, 0, 0, 0, 2, 0, 0, 2, 2, 2, 2, 2, 2, 2, 0, 0, 2, 2, 0, 2, 2, 0, 0, 0, 0, 2, 2, 2, 0, 0, 0, 0, 1, 1, 1, 0]
  | _ => []
def sv (M : Mm) (a k t : Nat) : Value := match t with
  | 0 => .int (mI M a k)
  | 1 => .long (mL M a k)
  | _ => .ref (mR M a k)
def eo (ad : Nat → Nat) (M : Mm) (a : Nat) (ts : List Nat) : List Value := (List.range ts.length).map (fun k => iv ad (sv M a k (ts.getD k 0)))
def er (ad : Nat → Nat) (M : Mm) (a : Nat) : Nat → Option Nat := fun i => match mR M a i with
  | 0 => none
  | n + 1 => some (ad (n + 1))
theorem er_rf (ad : Nat → Nat) (M : Mm) (a i : Nat) : va_rf (er ad M a i) = iv ad (.ref (mR M a i)) := by
  unfold er
  cases mR M a i <;> rfl
/-- the cell of a name -/
def en (g : Nat → ClassId) (ad : Nat → Nat) (M : Mm) (a : Nat) : va_E :=
  if (mK M a).1 < 8 then .inr ((mK M a).1, eo ad M a (tf (mK M a).1))
  else if (mK M a).1 = 10 then .inl (g 10, (mK M a).2, .inr (.inl (mL M a)))
  else if (mK M a).1 < 10 then .inl (g (mK M a).1, (mK M a).2, .inl (mI M a))
  else .inl (g (mK M a).1, (mK M a).2, .inr (.inr (.inr (.inr (er ad M a)))))
def wl (g : Nat → ClassId) (ad : Nat → Nat) (M : Mm) : va_W := (List.range (mN M)).map (fun i => (ad (i + 1), en g ad M (i + 1)))
theorem wl_at {g : Nat → ClassId} {ad : Nat → Nat} {M : Mm} {a : Nat} (h0 : 0 < a) (h1 : a ≤ mN M) : (wl g ad M)[a - 1]? = some (ad a, en g ad M a) := by
  unfold wl
  rw [List.getElem?_map, List.getElem?_range (by omega)]
  simp [show a - 1 + 1 = a by omega]
theorem wl_set {g : Nat → ClassId} {ad : Nat → Nat} {M M' : Mm} {a : Nat} (h0 : 0 < a) (h1 : a ≤ mN M) (hn : mN M' = mN M) (ho : ∀ b, b ≠ a → en g ad M' b = en g ad M b) : (wl g ad M).set (a - 1) (ad a, en g ad M' a) = wl g ad M' := by
  apply List.ext_getElem?
  intro i
  unfold wl
  rw [List.getElem?_set, hn]
  by_cases hi : a - 1 = i
  · subst hi
    rw [if_pos rfl, if_pos (by simp; omega), List.getElem?_map, List.getElem?_range (by omega)]
    simp [show a - 1 + 1 = a by omega]
  · rw [if_neg hi, List.getElem?_map, List.getElem?_map]
    by_cases hl : i < mN M
    · rw [List.getElem?_range hl]
      simp [ho (i + 1) (by omega)]
    · rw [List.getElem?_eq_none (by simp; omega)]
      rfl
theorem eo_at {ad : Nat → Nat} {M : Mm} {a : Nat} {ts : List Nat} {k : Nat} (h : k < ts.length) : (eo ad M a ts)[k]? = some (iv ad (sv M a k (ts.getD k 0))) := by
  unfold eo
  rw [List.getElem?_map, List.getElem?_range h]
  rfl
theorem eo_set {ad : Nat → Nat} {M M' : Mm} {a : Nat} {ts : List Nat} {k : Nat} (h : k < ts.length) (ho : ∀ j, j ≠ k → sv M' a j (ts.getD j 0) = sv M a j (ts.getD j 0)) : (eo ad M a ts).set k (iv ad (sv M' a k (ts.getD k 0))) = eo ad M' a ts := by
  apply List.ext_getElem?
  intro i
  unfold eo
  rw [List.getElem?_set]
  by_cases hi : k = i
  · subst hi
    rw [if_pos rfl, if_pos (by simp; omega), List.getElem?_map, List.getElem?_range h]
    rfl
  · rw [if_neg hi, List.getElem?_map, List.getElem?_map]
    by_cases hl : i < ts.length
    · rw [List.getElem?_range hl]
      simp only [Option.map_some]
      rw [ho i (fun e => hi e.symm)]
    · rw [List.getElem?_eq_none (by simp; omega)]
      rfl
/-- the array kinds' types -/
def tz (g : Nat → ClassId) : List (ClassId × FieldType) := [(g 8, .byte), (g 9, .int), (g 10, .long), (g 11, .object RX2), (g 12, .array .int)]
/-- the room of a method at depth d -/
def rz (d mc ms : Nat) : Room := { frames := d, cells := mc, slots := ms, locals := 64 * d }
/-- links to a nest mate's private members -/
def wN : List (String × Nat × MethodName) := [(RX6, 9, yX4_init), (RX6, 18, yX3_init), (RX6, 28, yX2_init), (RX6, 52, yX0_init), (RX6, 59, yX5_init), (RX6, 66, yX1_init), (RX4, 256, yX6_within)]
/-- the String constants: texts (those of the reader, those of the reference), places in the pools -/
def tS (i : Nat) : String := ["close", "wall", "face", "canon", "walker", "unsure", "dropped", "wide", "deep", "calm", "holds", "wears", "at", "bat", "lion", "pig", "vexed", "every", "from", "to", "day"].getD (i % 21) ""
def tB (i : Nat) : List Int32 := (tS i).toList.map (fun c => Int32.ofNat c.toNat)
def tQ : List (String × Nat × String × Nat) := [(RX4, 104, "close", 0), (RX4, 110, "wall", 1), (RX4, 112, "face", 2), (RX4, 114, "canon", 3), (RX4, 116, "walker", 4), (RX4, 118, "unsure", 5), (RX4, 120, "dropped", 6), (RX4, 149, "wide", 7), (RX4, 154, "deep", 8), (RX4, 156, "calm", 9), (RX4, 190, "holds", 10), (RX4, 194, "wears", 11), (RX4, 198, "at", 12), (RX4, 206, "bat", 13), (RX4, 208, "lion", 14), (RX4, 210, "pig", 15), (RX4, 224, "vexed", 16), (RX4, 228, "every", 17), (RX4, 232, "from", 18), (RX4, 236, "to", 19), (RX4, 254, "day", 20), (RX7, 131, "close", 21), (RX7, 133, "wall", 22), (RX7, 135, "face", 23), (RX7, 137, "canon", 24), (RX7, 139, "walker", 25), (RX7, 141, "unsure", 26), (RX7, 143, "dropped", 27), (RX7, 216, "wide", 28), (RX7, 222, "deep", 29), (RX7, 224, "calm", 30), (RX7, 243, "holds", 31), (RX7, 245, "wears", 32), (RX7, 247, "at", 33), (RX7, 237, "bat", 34), (RX7, 239, "lion", 35), (RX7, 241, "pig", 36), (RX7, 251, "vexed", 37), (RX7, 252, "every", 38), (RX7, 254, "from", 39), (RX7, 259, "to", 40), (RX7, 261, "day", 41)]
/-- what never changes: the classes, the nest mates' links, the String constants, the script -/
def ks (ad : Nat → Nat) (A : Nat → Prop) (U : State) (H : Heap) : Prop := ∀ i : Nat, i < 42 → va_O "java/lang/String" (ad (5000 + i)) A U H ∧ va_OF "java/lang/String" "coder" "B" (.int 0) (ad (5000 + i)) A U H ∧ va_OF "java/lang/String" "value" "[B" (.ref (ad (5100 + i))) (ad (5000 + i)) A U H ∧ va_T .byte (ad (5100 + i)) (tB i).length (fun j => .int ((tB i).getD j 0)) A U H
def kx (ad : Nat → Nat) (X : Nat × (Nat → Int32)) (A : Nat → Prop) (U : State) (H : Heap) : Prop := va_X (ad 4999) X.1 X.2 U H ∧ ad 4999 < H.size ∧ ¬ A (ad 4999)
/-- a static field that holds a reference or null, with all that is said of its place -/
def sq (C n d : String) (A : Nat → Prop) (U : State) (H : Heap) : Prop := ∃ (cf : ClassId) (kf : Class) (fi : Nat) (f : Field) (a : Nat) (cell : Cell) (v : Value), U.vm.findClass C = some cf ∧ U.fieldFound? C n d = some (cf, kf, fi, f) ∧ f.isStatic = true ∧ kf.statics = some a ∧ kf.staticTypes[f.slot]? = some f.type ∧ H[a]? = some cell ∧ cell.vm.isStatics = true ∧ cell.cls = cf ∧ f.slot < cell.slots.size ∧ cell.slots[f.slot]? = some v ∧ (v = .null ∨ ∃ t, v = .ref t) ∧ ¬ A a
theorem sq.moved {C n d : String} {A : Nat → Prop} {u U : State} {H : Heap} (hvm : u.vm.Alike U.vm) (h : sq C n d A u H) : sq C n d A U H := by
  obtain ⟨cf, kf, fi, f, a, cell, v, h0, h1, h2, h3, h4, h5⟩ := h
  obtain ⟨k', hi', he⟩ := State.fieldFound?_setVm hvm h1
  exact ⟨cf, k', fi, f, a, cell, v, by rw [hvm.findClass]; exact h0, hi', h2, by rw [he]; exact h3, by rw [he]; exact h4, h5⟩
theorem sq.kept {C n d : String} {A : Nat → Prop} {U : State} {H H1 : Heap} (h : sq C n d A U H) (hq : ∀ a : Nat, a < H.size → ¬ A a → H1[a]? = H[a]?) : sq C n d A U H1 := by
  obtain ⟨cf, kf, fi, f, a, cell, v, h0, h1, h2, h3, h4, h5, h6, h7, h8, h9, h10, h11⟩ := h
  exact ⟨cf, kf, fi, f, a, cell, v, h0, h1, h2, h3, h4, by rw [hq a (Array.getElem?_eq_some_iff.mp h5).1 h11]; exact h5, h6, h7, h8, h9, h10, h11⟩
theorem sq.of {args : Array Value} {s : State} {C n d : String} {A : Nat → Prop} (hl : (Cond.laysStatic C n d).before args s = true) (hr : (Cond.isRef (.static C n d)).before args s = true) (hA : ∀ a : Nat, a < s.heap.size → ¬ A a) : sq C n d A s s.heap := by
  obtain ⟨c, k, i, f, a, cell, hc, hi, hst, ha, hcell, hs, hcls, hlt, hty⟩ := Cond.laysStatic_spec hl
  cases hv : (Term.static C n d).eval args s none [] s with
  | none => simp [Cond.before, Cond.holds, Cond.value, hv] at hr
  | some w =>
    obtain ⟨hst', a', cell', ha', hcell', -, hslot⟩ := Term.static_spec hi hv
    cases ha.symm.trans ha'
    cases hcell.symm.trans hcell'
    simp only [Cond.before, Cond.holds, Cond.value, hv] at hr
    refine ⟨c, k, i, f, a, cell, w, hc, hi, hst, ha, hty, hcell, hs, hcls, hlt, hslot, ?_, hA a (Array.getElem?_eq_some_iff.mp hcell).1⟩
    cases w with
    | null => exact Or.inl rfl
    | ref t => exact Or.inr ⟨t, rfl⟩
    | _ => simp at hr
theorem sq.lays {args : Array Value} {s : State} {C n d : String} {A : Nat → Prop} (h : sq C n d A s s.heap) : (Cond.laysStatic C n d).before args s = true := by
  obtain ⟨cf, kf, fi, f, a, cell, v, h0, h1, h2, h3, h4, h5, h6, h7, h8, h9, h10, h11⟩ := h
  simp [Cond.before, Cond.holds, Cond.value, h0, h1, h2, h3, h4, h5, h6, h7, h8]
theorem sq.isRef {args : Array Value} {s : State} {C n d : String} {A : Nat → Prop} (h : sq C n d A s s.heap) : (Cond.isRef (.static C n d)).before args s = true := by
  obtain ⟨cf, kf, fi, f, a, cell, v, h0, h1, h2, h3, h4, h5, h6, h7, h8, h9, h10, h11⟩ := h
  have hv : (Term.static C n d).eval args s none [] s = some v := by simp [Term.eval, State.fieldNamed?, h1, h2, h3, h5, h6, h9]
  rcases h10 with rfl | ⟨t, rfl⟩ <;> simp [Cond.before, Cond.holds, Cond.value, hv]
/-- the constructors of the throwables that 'led' makes -/
def wD : List MethodName := [⟨"java/lang/RuntimeException", "<init>", "()V"⟩, ⟨"java/lang/Exception", "<init>", "()V"⟩, ⟨"java/lang/Throwable", "<init>", "()V"⟩]
def NSE : String := "java/util/NoSuchElementException"
/-- arrays of Moments, arrays of arrays; throwables -/
def ao (g : Nat → ClassId) (A : Nat → Prop) (U : State) (H : Heap) : Prop := va_AO RX2 U ∧ (∃ k, U.vm.classes[g 12]? = some k ∧ k.kind = .array (g 9) (.array .int)) ∧ (sq "java/lang/Throwable" "UNASSIGNED_STACK" "[Ljava/lang/StackTraceElement;" A U H ∧ sq "java/lang/Throwable" "SUPPRESSED_SENTINEL" "Ljava/util/List;" A U H) ∧ va_Nw (.castable NSE NSE) U ∧ ∀ x ∈ wD, va_Nw (.declares x) U
theorem ao.kept {g : Nat → ClassId} {A : Nat → Prop} {U : State} {H H1 : Heap} (h : ao g A U H) (hq : ∀ a : Nat, a < H.size → ¬ A a → H1[a]? = H[a]?) : ao g A U H1 :=
  ⟨h.1, h.2.1, ⟨h.2.2.1.1.kept hq, h.2.2.1.2.kept hq⟩, h.2.2.2⟩
theorem ao.warm {g : Nat → ClassId} {A : Nat → Prop} {u U : State} {H : Heap} (hW : u.WarmedH U.vm) (h : ao g A u H) : ao g A U H := by
  obtain ⟨h1, ⟨k, hk, hk2⟩, ⟨h3, h4⟩, h5, h6⟩ := h
  obtain ⟨k', hk', he⟩ := hW.alike.2.2 _ _ hk
  exact ⟨h1.moved hW.alike, ⟨k', hk', by rw [he]; exact hk2⟩, ⟨h3.moved hW.alike, h4.moved hW.alike⟩, h5.warmC hW, fun x hx => (h6 x hx).warmD hW⟩
theorem ao.same {g : Nat → ClassId} {A : Nat → Prop} {u U : State} {H : Heap} (hv : u.vm = U.vm) (h : ao g A u H) : ao g A U H := by
  obtain ⟨h1, h2, ⟨h3, h4⟩, h5, h6⟩ := h
  have ha : u.vm.Alike U.vm := by rw [hv]; exact Vm.Alike.refl _
  exact ⟨h1.moved ha, by rw [← hv]; exact h2, ⟨h3.moved ha, h4.moved ha⟩, va_Nw.same rfl hv h5, fun x hx => va_Nw.same rfl hv (h6 x hx)⟩
def sx (D : va_G) (g : Nat → ClassId) (ad : Nat → Nat) (X : Nat × (Nat → Int32)) (A : Nat → Prop) (U : State) (H : Heap) : Prop :=
  va_K D vwCl (tz g) U ∧ (∀ x ∈ wN, va_Nw (.methodLinkNest x.1 x.2.1 x.2.2 RX6) U) ∧ ao g A U H ∧ ks ad A U H ∧ (∀ x ∈ tQ, vk_R x.1 x.2.1 x.2.2.1 (ad (5000 + x.2.2.2)) U) ∧ va_Z "java/lang/String" "COMPACT_STRINGS" "Z" (.int 1) A U H ∧ kx ad X A U H
theorem kx_moved {ad : Nat → Nat} {X : Nat × (Nat → Int32)} {A : Nat → Prop} {u U : State} {H : Heap} (hvm : u.vm.Alike U.vm) (h : kx ad X A u H) : kx ad X A U H := by
  obtain ⟨⟨scr, h1, h2, h3⟩, h4⟩ := h
  exact ⟨⟨scr, h1, State.isArrayOf_alike hvm h2, h3⟩, h4⟩
theorem ks_moved {ad : Nat → Nat} {A : Nat → Prop} {u U : State} {H : Heap} (hvm : u.vm.Alike U.vm) (h : ks ad A u H) : ks ad A U H :=
  fun i hi => ⟨va_O.moved hvm (h i hi).1, va_OF.moved hvm (h i hi).2.1, va_OF.moved hvm (h i hi).2.2.1, va_T.moved hvm (h i hi).2.2.2⟩
theorem ks_kept {ad : Nat → Nat} {A : Nat → Prop} {U : State} {H H1 : Heap} (h : ks ad A U H) (hq : ∀ a : Nat, a < H.size → ¬ A a → H1[a]? = H[a]?) : ks ad A U H1 :=
  fun i hi => ⟨(h i hi).1.kept hq, (h i hi).2.1.kept hq, (h i hi).2.2.1.kept hq, (h i hi).2.2.2.kept hq⟩
theorem sx_kept {D : va_G} {g : Nat → ClassId} {ad : Nat → Nat} {X : Nat × (Nat → Int32)} {A : Nat → Prop} {U : State} {H H1 : Heap} (h : sx D g ad X A U H) (hz : H.size ≤ H1.size) (hq : ∀ a : Nat, a < H.size → ¬ A a → H1[a]? = H[a]?) : sx D g ad X A U H1 := by
  obtain ⟨h1, h2, h3, h4, h5, h6, h7, h8, h9⟩ := h
  exact ⟨h1, h2, h3.kept hq, ks_kept h4 hq, h5, h6.kept hq, h7.kept (hq _ h8 h9), Nat.lt_of_lt_of_le h8 hz, h9⟩
theorem sx_warm {D : va_G} {g : Nat → ClassId} {ad : Nat → Nat} {X : Nat × (Nat → Int32)} {A : Nat → Prop} {u U : State} {H : Heap} (hW : u.WarmedH U.vm) (h : sx D g ad X A u H) : sx D g ad X A U H := by
  obtain ⟨h1, h2, h3, h4, h5, h6, h7⟩ := h
  exact ⟨va_K.moved hW.alike h1, fun x hx => (h2 x hx).warmM hW, h3.warm hW, ks_moved hW.alike h4, fun x hx => (h5 x hx).warm hW, h6.moved hW.alike, kx_moved hW.alike h7⟩
theorem sx_same {D : va_G} {g : Nat → ClassId} {ad : Nat → Nat} {X : Nat × (Nat → Int32)} {A : Nat → Prop} {u U : State} {H : Heap} (hv : u.vm = U.vm) (h : sx D g ad X A u H) : sx D g ad X A U H := by
  obtain ⟨h1, h2, h3, h4, h5, h6, h7⟩ := h
  have ha : u.vm.Alike U.vm := by rw [hv]; exact Vm.Alike.refl _
  exact ⟨va_K.moved ha h1, fun x hx => va_Nw.same rfl hv (h2 x hx), h3.same hv, ks_moved ha h4, fun x hx => (h5 x hx).same hv.symm, h6.moved ha, kx_moved ha h7⟩
theorem sx_ad {D : va_G} {g : Nat → ClassId} {ad ad' : Nat → Nat} {X : Nat × (Nat → Int32)} {A : Nat → Prop} {U : State} {H : Heap} (he : ∀ n, 4999 ≤ n → ad' n = ad n) (h : sx D g ad X A U H) : sx D g ad' X A U H := by
  obtain ⟨h1, h2, h3, h4, h5, h6, h7⟩ := h
  refine ⟨h1, h2, h3, fun i hi => ?_, fun x hx => ?_, h6, ?_⟩
  · rw [he (5000 + i) (by omega), he (5100 + i) (by omega)]; exact h4 i hi
  · rw [he _ (by omega)]; exact h5 x hx
  · unfold kx; rw [he _ (by omega)]; exact h7
end
section
abbrev KN : Type := Nat → Ls → List Value → Mm → Prop
abbrev KR : Type := Option Value → Mm → Prop
abbrev OP : Type := KN → KR → Ls → List Value → Mm → Prop
/-- references are names -/
def kO (M : Mm) : Prop := ∀ a i, mR M a i ≤ mN M
def lm (ad : Nat → Nat) (ls : Ls) : Ls := ls.map (fun x => (x.1, iv ad x.2))
def pz (D : va_G) (g : Nat → ClassId) (ad : Nat → Nat) (X : Nat × (Nat → Int32)) (A : Nat → Prop) (av : List Value) (M : Mm) : Array Value → State → Prop := fun v U => v = (av.map (iv ad)).toArray ∧ va_P D vwCl (wl g ad M) U.heap ∧ va_D A (wl g ad M) ∧ (∀ a, U.heap.size ≤ a → A a) ∧ kO M ∧ mN M ≤ 4000 ∧ sx D g ad X A U U.heap
def qz (D : va_G) (g : Nat → ClassId) (ad : Nat → Nat) (A : Nat → Prop) (na : Bool) (M : Mm) (kr : KR) : Array Value → State → Outcome → State → Prop := fun _ st o t => ∃ (r : Option Value) (M' : Mm) (ad' : Nat → Nat), o = .returned (r.map (iv ad')) ∧ kr r M' ∧ (na = true → ad' = ad ∧ M'.1 = M.1) ∧ (∀ n, n ≤ mN M ∨ 4999 ≤ n → ad' n = ad n) ∧ mN M ≤ mN M' ∧ mN M' ≤ 4000 ∧ kO M' ∧ va_P D vwCl (wl g ad' M') t.heap ∧ va_D A (wl g ad' M') ∧ va_F A st t
/-- A METHOD'S CONTRACT: called with av over the memory M it returns, and its answer and the memory then fulfil kr -/
def Ev (l : Launch) (X : Nat × (Nat → Int32)) (q : Md) (d : Nat) (na : Bool) (mc ms : Nat) (av : List Value) (M : Mm) (kr : KR) : Prop :=
  ∀ (D : va_G) (g : Nat → ClassId) (ad : Nat → Nat) (A : Nat → Prop), Met l q.1 (wz q) (rz d mc ms) (pz D g ad X A av M) (qz D g ad A na M kr) mc ms A
/-- what a frame knows -/
def fx (X : Nat × (Nat → Int32)) (q : Md) (p : Program) (s : State) (m : MethodId) (args : Array Value) (meth : Method) (c : Code) (D : va_G) (g : Nat → ClassId) (ad : Nat → Nat) (A : Nat → Prop) : Prop :=
  p.tables.exec = Jvm.exec ∧ c.code = q.2.1 ∧ c.maxLocals = q.2.2.1 ∧ meth.sig.returnType = q.2.2.2 ∧ meth.locks = false ∧ s.vm.findClass q.1.cls = some m.cls ∧ meth.name = q.1.name ∧ (∀ w ∈ wB, w.before args s = true) ∧ (∀ a, s.heap.size ≤ a → A a) ∧ sx D g ad X A s s.heap
/-- the heap is as the memory says -/
def rl (D : va_G) (g : Nat → ClassId) (A : Nat → Prop) (na : Bool) (n0 : Nat) (ad0 : Nat → Nat) (S0 : Nat × Nat × Nat × (Nat → Nat × Nat)) (s : State) (ad : Nat → Nat) (M : Mm) (H : Heap) (locs : List Loc) : Prop :=
  va_P D vwCl (wl g ad M) H ∧ va_D A (wl g ad M) ∧ va_S A s.heap H locs ∧ kO M ∧ n0 ≤ mN M ∧ mN M ≤ 4000 ∧ (∀ n, n ≤ n0 ∨ 4999 ≤ n → ad n = ad0 n) ∧ (na = true → ad = ad0 ∧ M.1 = S0)
/-- the method's end -/
def rt (q : Md) (pc : Nat) (r : Option Value) : Prop := (∃ v ty, r = some (.int v) ∧ q.2.2.2 = some ty ∧ narrow ty (.int v) = .int v ∧ decode q.2.1 pc = .ok (.ireturn, 1)) ∨ (∃ v, r = some (.long v) ∧ q.2.2.2 = some .long ∧ decode q.2.1 pc = .ok (.lreturn, 1)) ∨ (r = none ∧ q.2.2.2 = none ∧ decode q.2.1 pc = .ok (.return_, 1))
/-- A FRAME at pc with locals ls and stack st over M comes to its end, and kr -/
def Wf (l : Launch) (X : Nat × (Nat → Int32)) (q : Md) (d : Nat) (na : Bool) (b : Nat × Nat) (pc : Nat) (ls : Ls) (st : List Value) (M : Mm) (kr : KR) : Prop :=
  ∀ (p : Program) (e : Env) (R : Room) (s : State) (m : MethodId) (args : Array Value) (below : List Frame) (meth : Method) (c : Code) (Q : State → Prop) (D : va_G) (g : Nat → ClassId) (ad0 : Nat → Nat) (A : Nat → Prop) (n0 : Nat) (S0 : Nat × Nat × Nat × (Nat → Nat × Nat)) (c0 s0 : Nat) (ad : Nat → Nat) (H : Heap) (locs : List Loc) (la : Array Slot),
    fx X q p s m args meth c D g ad0 A → d ≤ R.frames → 64 * d ≤ R.locals → b.1 ≤ R.cells + c0 → b.2 ≤ R.slots + s0 → c0 ≤ mC M → s0 ≤ mS M → mC M ≤ b.1 → mS M ≤ b.2 → rl D g A na n0 ad0 S0 s ad M H locs → lv_has la q.2.2.1 (lm ad ls) →
    (∀ (pc' : Nat) (r : Option Value) (M' : Mm) (ad' : Nat → Nat) (H' : Heap) (locs' : List Loc) (la' : Array Slot), kr r M' → rl D g A na n0 ad0 S0 s ad' M' H' locs' → c0 ≤ mC M' → s0 ≤ mS M' → mC M' ≤ b.1 → mS M' ≤ b.2 → rt q pc' r → W p l e R s m args below meth c H' locs' (mC M' - c0) (mS M' - s0) Q (F0 m pc' la' (r.toList.map (iv ad')))) →
    W p l e R s m args below meth c H locs (mC M - c0) (mS M - s0) Q (F0 m pc la (st.map (iv ad)))
/-! locals -/
def lg : Ls → Nat → Option Value
  | [], _ => none
  | x :: t, i => cond (Nat.beq x.1 i) (some x.2) (lg t i)
theorem lg_mem : ∀ {ls : Ls} {i : Nat} {v : Value}, lg ls i = some v → (i, v) ∈ ls
  | [], _, _, h => by cases h
  | x :: t, i, v, h => by
    unfold lg at h
    cases hb : Nat.beq x.1 i with
    | true =>
      rw [hb] at h
      have e : x.1 = i := Nat.eq_of_beq_eq_true hb
      have e2 : x.2 = v := Option.some.inj h
      rw [← e, ← e2]
      exact List.mem_cons_self
    | false =>
      rw [hb] at h
      exact List.mem_cons_of_mem _ (lg_mem h)
theorem lg_has {ls : Ls} {i : Nat} {v : Value} {ad : Nat → Nat} {la : Array Slot} {nL : Nat} (h : lg ls i = some v) (hl : lv_has la nL (lm ad ls)) : la[i]? = some (.val (iv ad v)) :=
  hl.2.2 (i, iv ad v) (List.mem_map.mpr ⟨(i, v), lg_mem h, rfl⟩)
def li : Ls → Nat → Value → Ls
  | [], i, v => [(i, v)]
  | x :: t, i, v => cond (Nat.ble x.1 i) (x :: li t i v) ((i, v) :: x :: t)
theorem li_mem : ∀ {ls : Ls} {i : Nat} {v : Value} {x : Nat × Value}, x ∈ li ls i v → x = (i, v) ∨ x ∈ ls
  | [], i, v, x, h => Or.inl (List.mem_singleton.mp h)
  | y :: t, i, v, x, h => by
    unfold li at h
    cases hb : Nat.ble y.1 i with
    | true =>
      rw [hb] at h
      rcases List.mem_cons.mp h with e | h
      · exact Or.inr (by rw [e]; exact List.mem_cons_self)
      · rcases li_mem h with e | h
        · exact Or.inl e
        · exact Or.inr (List.mem_cons_of_mem _ h)
    | false =>
      rw [hb] at h
      rcases List.mem_cons.mp h with e | h
      · exact Or.inl e
      · exact Or.inr h
def lf (i : Nat) (two : Bool) (q : Nat × Value) : Bool := !(Nat.beq q.1 i) && (!(Nat.beq (q.1 + 1) i && Nat.beq q.2.category 2) && !(two && Nat.beq q.1 (i + 1)))
/-- a local's new value; the list stays in order -/
def lp (ls : Ls) (i : Nat) (v : Value) : Ls := li (ls.filter (lf i (Nat.beq v.category 2))) i v
theorem beqN (a b : Nat) : (a == b) = Nat.beq a b := by
  cases h : Nat.beq a b with
  | true => exact beq_iff_eq.mpr (Nat.eq_of_beq_eq_true h)
  | false => exact beq_eq_false_iff_ne.mpr (Nat.ne_of_beq_eq_false h)
theorem lp_1 {ls : Ls} {i nL : Nat} {v : Value} {ad : Nat → Nat} {la : Array Slot} (hc : v.category = 1) (h : lv_has la nL ((i, iv ad v) :: (lm ad ls).filter (fun q => !(q.1 == i) && !(q.1 + 1 == i && q.2.category == 2)))) : lv_has la nL (lm ad (lp ls i v)) := by
  refine ⟨h.1, h.2.1, fun q hq => ?_⟩
  obtain ⟨x, hx, rfl⟩ := List.mem_map.mp hq
  rcases li_mem hx with e | hx
  · rw [e]; exact h.2.2 _ List.mem_cons_self
  · obtain ⟨h1, h2⟩ := List.mem_filter.mp hx
    refine h.2.2 _ (List.mem_cons_of_mem _ (List.mem_filter.mpr ⟨List.mem_map.mpr ⟨x, h1, rfl⟩, ?_⟩))
    simp only [lf, Bool.and_eq_true] at h2
    simp only [beqN, iv_cat, Bool.and_eq_true]
    exact ⟨h2.1, h2.2.1⟩
theorem lp_2 {ls : Ls} {i nL : Nat} {v : Value} {ad : Nat → Nat} {la : Array Slot} (hc : v.category = 2) (h : lv_has la nL ((i, iv ad v) :: (lm ad ls).filter (fun q => !(q.1 == i) && (!(q.1 == i + 1) && !(q.1 + 1 == i && q.2.category == 2))))) : lv_has la nL (lm ad (lp ls i v)) := by
  refine ⟨h.1, h.2.1, fun q hq => ?_⟩
  obtain ⟨x, hx, rfl⟩ := List.mem_map.mp hq
  rcases li_mem hx with e | hx
  · rw [e]; exact h.2.2 _ List.mem_cons_self
  · obtain ⟨h1, h2⟩ := List.mem_filter.mp hx
    refine h.2.2 _ (List.mem_cons_of_mem _ (List.mem_filter.mpr ⟨List.mem_map.mpr ⟨x, h1, rfl⟩, ?_⟩))
    rw [hc] at h2
    simp only [lf, Bool.and_eq_true] at h2
    simp only [beqN, iv_cat, Bool.and_eq_true]
    refine ⟨h2.1, ?_, h2.2.1⟩
    simpa using h2.2.2
/-- fewer locals, by their places -/
def lk (ls : Ls) (ks : List Nat) : Ls := ls.filter (fun x => ks.any (fun k => Nat.beq k x.1))
theorem lm_sub {ls ls' : Ls} {nL : Nat} {ad : Nat → Nat} {la : Array Slot} (hs : ∀ x ∈ ls', x ∈ ls) (h : lv_has la nL (lm ad ls)) : lv_has la nL (lm ad ls') := by
  refine ⟨h.1, h.2.1, fun q hq => ?_⟩
  obtain ⟨x, hx, rfl⟩ := List.mem_map.mp hq
  exact h.2.2 _ (List.mem_map.mpr ⟨x, hs x hx, rfl⟩)
section FR
variable {l : Launch} {X : Nat × (Nat → Int32)} {q : Md} {d : Nat} {na : Bool} {b : Nat × Nat} {pc : Nat} {ls : Ls} {st : List Value} {M : Mm} {kr : KR}
theorem Wf.sub {ls' : Ls} (hs : ∀ x ∈ ls', x ∈ ls) (h : Wf l X q d na b pc ls' st M kr) : Wf l X q d na b pc ls st M kr := by
  intro p e R s m args below meth c Q D g ad0 A n0 S0 c0 s0 ad H locs la hf h1 h2 h3 h4 h5 h6 h7 h8 hr hl hk
  exact h p e R s m args below meth c Q D g ad0 A n0 S0 c0 s0 ad H locs la hf h1 h2 h3 h4 h5 h6 h7 h8 hr (lm_sub hs hl) hk
theorem Wf.keep (ks : List Nat) (h : Wf l X q d na b pc (lk ls ks) st M kr) : Wf l X q d na b pc ls st M kr := Wf.sub (fun _ hx => (List.mem_filter.mp hx).1) h
/-- a step that leaves the heap alone -/
theorem Wf.pure {pc' : Nat} {ls' : Ls} {st' : List Value} (h : ∀ (p : Program) (e : Env) (R : Room) (s : State) (m : MethodId) (args : Array Value) (below : List Frame) (meth : Method) (c : Code) (H : Heap) (locs : List Loc) (cells slots : Nat) (Q : State → Prop) (ad : Nat → Nat) (la : Array Slot), p.tables.exec = Jvm.exec → c.code = q.2.1 → s.vm.findClass q.1.cls = some m.cls → (∀ w ∈ wB, w.before args s = true) → lv_has la q.2.2.1 (lm ad ls) → (∀ la' : Array Slot, lv_has la' q.2.2.1 (lm ad ls') → W p l e R s m args below meth c H locs cells slots Q (F0 m pc' la' (st'.map (iv ad)))) → W p l e R s m args below meth c H locs cells slots Q (F0 m pc la (st.map (iv ad)))) (k : Wf l X q d na b pc' ls' st' M kr) : Wf l X q d na b pc ls st M kr := by
  intro p e R s m args below meth c Q D g ad0 A n0 S0 c0 s0 ad H locs la hf h1 h2 h3 h4 h5 h6 h7 h8 hr hl hk
  exact h p e R s m args below meth c H locs _ _ Q ad la hf.1 hf.2.1 hf.2.2.2.2.2.1 hf.2.2.2.2.2.2.2.1 hl (fun la' hl' => k p e R s m args below meth c Q D g ad0 A n0 S0 c0 s0 ad H locs la' hf h1 h2 h3 h4 h5 h6 h7 h8 hr hl' hk)
end FR
/-- an operation is right for what stands at pc -/
def OK (l : Launch) (X : Nat × (Nat → Int32)) (q : Md) (d : Nat) (na : Bool) (b : Nat × Nat) (pc : Nat) (o : OP) : Prop := ∀ (kn : KN) (kr : KR) (ls : Ls) (st : List Value) (M : Mm), (∀ pc' ls' st' M', kn pc' ls' st' M' → Wf l X q d na b pc' ls' st' M' kr) → o kn kr ls st M → Wf l X q d na b pc ls st M kr
def lo (tb : List (Nat × OP)) (pc : Nat) : OP := match tb with
  | [] => fun _ _ _ _ _ => False
  | x :: t => cond (Nat.beq x.1 pc) x.2 (lo t pc)
theorem lo_ok {l : Launch} {X : Nat × (Nat → Int32)} {q : Md} {d : Nat} {na : Bool} {b : Nat × Nat} : ∀ {tb : List (Nat × OP)}, (∀ x ∈ tb, OK l X q d na b x.1 x.2) → ∀ pc, OK l X q d na b pc (lo tb pc)
  | [], _, pc => fun _ _ _ _ _ _ h => h.elim
  | x :: t, h, pc => by
    unfold lo
    cases hb : Nat.beq x.1 pc with
    | true =>
      have e : x.1 = pc := Nat.eq_of_beq_eq_true hb
      rw [← e]
      exact h x List.mem_cons_self
    | false => exact lo_ok (fun y hy => h y (List.mem_cons_of_mem _ hy)) pc
/-- n steps, then the frame -/
def go (l : Launch) (X : Nat × (Nat → Int32)) (q : Md) (d : Nat) (na : Bool) (b : Nat × Nat) (tb : List (Nat × OP)) (kr : KR) : Nat → KN
  | 0 => fun pc ls st M => Wf l X q d na b pc ls st M kr
  | n + 1 => fun pc ls st M => lo tb pc (go l X q d na b tb kr n) kr ls st M
theorem Wf.go {l : Launch} {X : Nat × (Nat → Int32)} {q : Md} {d : Nat} {na : Bool} {b : Nat × Nat} {tb : List (Nat × OP)} {kr : KR} (ht : ∀ x ∈ tb, OK l X q d na b x.1 x.2) : ∀ (n : Nat) {pc : Nat} {ls : Ls} {st : List Value} {M : Mm}, go l X q d na b tb kr n pc ls st M → Wf l X q d na b pc ls st M kr
  | 0, _, _, _, _, h => h
  | n + 1, pc, ls, st, M, h => lo_ok ht pc _ kr ls st M (fun _ _ _ _ h' => Wf.go ht n h') h
theorem lv_args_iv (ad : Nat → Nat) : ∀ (av : List Value) (i : Nat), lv_args i (av.map (iv ad)) = lm ad (lv_args i av)
  | [], _ => rfl
  | v :: t, i => by
    show (i, iv ad v) :: lv_args _ (t.map (iv ad)) = _
    rw [lv_args_iv ad t, iv_cat]
    rfl
theorem sl_len (ad : Nat → Nat) : ∀ av : List Value, (lg_sl (av.map (iv ad))).length = (lg_sl av).length
  | [] => rfl
  | v :: t => by
    have h := sl_len ad t
    simp only [lg_sl, List.map_cons, List.flatMap_cons, List.length_append] at h ⊢
    rw [h]
    cases v with
    | ref a => cases a <;> rfl
    | _ => rfl
end
section
section OPS
variable {l : Launch} {X : Nat × (Nat → Int32)} {q : Md} {d : Nat} {na : Bool} {b : Nat × Nat} {pc : Nat}
theorem Ev.of {mc ms : Nat} {av : List Value} {M : Mm} {kr : KR} (hp : plainName q.1.cls = true) (hlen : (lg_sl av).length ≤ q.2.2.1) (h : Wf l X q d na (mC M + mc, mS M + ms) 0 (lv_args 0 av) [] M kr) : Ev l X q d na mc ms av M kr := by
  intro D g ad A
  refine Met.ofW (cc := q.2.1) (maxL := q.2.2.1) (ret := q.2.2.2) hp rfl ?_
  intro p e s m args below meth c s₁ B hml hv
  obtain ⟨rfl, hP, hD, hA, hk, hn, hs⟩ := hv
  have hlocks := B.notSynchronized
  have hts := atoms_spec (ws := wz q) B.pre
  have hf : fx X q p s m (av.map (iv ad)).toArray meth c D g ad A := ⟨B.exec, B.bytes, hml, B.returns, hlocks, findClass_of_methodNamed B.named, (name_of_methodNamed B.named B.method).1, fun w hw => hts w (List.mem_cons_of_mem _ hw), hA, hs⟩
  have hl := lv_entry (av.map (iv ad)) (n := q.2.2.1) (by rw [sl_len]; exact hlen)
  rw [lg_entry_eq]
  rw [lv_args_iv] at hl
  generalize (lg_sl (av.map (iv ad)) ++ List.replicate (q.2.2.1 - (lg_sl (av.map (iv ad))).length) Slot.unset).toArray = la at hl ⊢
  have hW := h p e (headSpec (wz q) (rz d mc ms)).room s m (av.map (iv ad)).toArray below meth c (MQ below (qz D g ad A na M kr) (av.map (iv ad)).toArray s mc ms A) D g ad A (mN M) M.1 (mC M) (mS M) ad s.heap [] la hf (Nat.le_refl d) (Nat.le_refl _) (Nat.le_of_eq (Nat.add_comm _ _)) (Nat.le_of_eq (Nat.add_comm _ _)) (Nat.le_refl _) (Nat.le_refl _) (Nat.le_add_right _ _) (Nat.le_add_right _ _) ⟨hP, hD, va_S.rf, hk, Nat.le_refl _, hn, fun _ _ => rfl, fun _ => ⟨rfl, rfl⟩⟩ hl ?_
  · rw [Nat.sub_self, Nat.sub_self] at hW
    exact hW
  · intro pc' r M' ad' H' locs' la' hkr hr h1 h2 h3 h4 ht
    obtain ⟨r1, r2, r3, r4, r5, r6, r7, r8⟩ := hr
    have hq : ∀ t : State, t.heap = H' → s.WarmedH t.vm → qz D g ad A na M kr (av.map (iv ad)).toArray s (.returned (r.map (iv ad'))) t := fun t e1 _ => ⟨r, M', ad', rfl, hkr, r8, r7, r5, r6, r4, by rw [e1]; exact r1, r2, r3.F e1⟩
    have w3 : mC M' ≤ mC M + mc := h3
    have w4 : mS M' ≤ mS M + ms := h4
    refine W.widen (k := mc) (n := ms) (by omega) (by omega) ?_
    rcases ht with ⟨v, ty, rfl, e1, e2, e3⟩ | ⟨v, rfl, e1, e3⟩ | ⟨rfl, e1, e3⟩
    · exact W.zret B.exec B.bytes (B.returns.trans e1) e2 hq r3.2.2 e3 hlocks
    · exact W.lret B.exec B.bytes (B.returns.trans e1) hq r3.2.2 e3 hlocks
    · exact W.vret B.exec B.bytes (B.returns.trans e1) hq r3.2.2 e3 hlocks
/-! the ends -/
def oIr : OP := fun _ kr _ st M => match st with
  | [.int v] => kr (some (.int v)) M
  | _ => False
def oZr : OP := fun _ kr _ st M => match st with
  | [.int v] => (v = 0 ∨ v = 1) ∧ kr (some (.int v)) M
  | _ => False
def oLr : OP := fun _ kr _ st M => match st with
  | [.long v] => kr (some (.long v)) M
  | _ => False
def oVr : OP := fun _ kr _ st M => match st with
  | [] => kr none M
  | _ => False
theorem Wf.end {kr : KR} {ls : Ls} {M : Mm} {r : Option Value} (ht : rt q pc r) (h : kr r M) : Wf l X q d na b pc ls r.toList M kr := by
  intro p e R s m args below meth c Q D g ad0 A n0 S0 c0 s0 ad H locs la hf h1 h2 h3 h4 h5 h6 h7 h8 hr hl hk
  exact hk pc r M ad H locs la h hr h5 h6 h7 h8 ht
theorem ok_ir (hr : q.2.2.2 = some .int) (hd : decode q.2.1 pc = .ok (.ireturn, 1)) : OK l X q d na b pc oIr := by
  intro kn kr ls st M hk h
  simp only [oIr] at h
  split at h
  · exact Wf.end (r := some (.int _)) (Or.inl ⟨_, _, rfl, hr, rfl, hd⟩) h
  · exact h.elim
theorem ok_zr (hr : q.2.2.2 = some .boolean) (hd : decode q.2.1 pc = .ok (.ireturn, 1)) : OK l X q d na b pc oZr := by
  intro kn kr ls st M hk h
  simp only [oZr] at h
  split at h
  · refine Wf.end (r := some (.int _)) (Or.inl ⟨_, _, rfl, hr, ?_, hd⟩) h.2
    rcases h.1 with e | e <;> rw [e] <;> rfl
  · exact h.elim
theorem ok_lr (hr : q.2.2.2 = some .long) (hd : decode q.2.1 pc = .ok (.lreturn, 1)) : OK l X q d na b pc oLr := by
  intro kn kr ls st M hk h
  simp only [oLr] at h
  split at h
  · exact Wf.end (r := some (.long _)) (Or.inr (Or.inl ⟨_, rfl, hr, hd⟩)) h
  · exact h.elim
theorem ok_vr (hr : q.2.2.2 = none) (hd : decode q.2.1 pc = .ok (.return_, 1)) : OK l X q d na b pc oVr := by
  intro kn kr ls st M hk h
  simp only [oVr] at h
  split at h
  · exact Wf.end (r := none) (Or.inr (Or.inr ⟨rfl, hr, hd⟩)) h
  · exact h.elim
/-! constants -/
def oIc (pc n : Nat) (v : Int32) : OP := fun kn _ ls st M => kn (pc + n) ls (.int v :: st) M
def oLc (pc n : Nat) (v : Int64) : OP := fun kn _ ls st M => kn (pc + n) ls (.long v :: st) M
theorem ok_iconst {n : Int} {v : Int32} (hv : Int32.ofInt n = v) (hd : decode q.2.1 pc = .ok (.iconst n, 1)) : OK l X q d na b pc (oIc pc 1 v) :=
  fun _ _ _ _ _ hk h => Wf.pure (fun _ _ _ _ _ _ _ _ _ _ _ _ _ _ ad la hx hb hown hts hl k => lv_iconst hx hb hd hv (k la hl)) (hk _ _ _ _ h)
theorem ok_bipush {n : Int} {v : Int32} (hv : (Int8.ofInt n).toInt32 = v) (hd : decode q.2.1 pc = .ok (.bipush n, 2)) : OK l X q d na b pc (oIc pc 2 v) :=
  fun _ _ _ _ _ hk h => Wf.pure (fun _ _ _ _ _ _ _ _ _ _ _ _ _ _ ad la hx hb hown hts hl k => lv_bipush hx hb hd hv (k la hl)) (hk _ _ _ _ h)
theorem ok_sipush {n : Int} {v : Int32} (hv : (Int16.ofInt n).toInt32 = v) (hd : decode q.2.1 pc = .ok (.sipush n, 3)) : OK l X q d na b pc (oIc pc 3 v) :=
  fun _ _ _ _ _ hk h => Wf.pure (fun _ _ _ _ _ _ _ _ _ _ _ _ _ _ ad la hx hb hown hts hl k => lv_sipush hx hb hd hv (k la hl)) (hk _ _ _ _ h)
theorem ok_lconst {n : Fin 2} {v : Int64} (hv : Int64.ofNat (n : Nat) = v) (hd : decode q.2.1 pc = .ok (.lconst n, 1)) : OK l X q d na b pc (oLc pc 1 v) :=
  fun _ _ _ _ _ hk h => Wf.pure (fun _ _ _ _ _ _ _ _ _ _ _ _ _ _ ad la hx hb hown hts hl k => lv_lconst hx hb hd hv (k la hl)) (hk _ _ _ _ h)
theorem ok_ldc {n : Nat} {v : Int32} (hw : Jvm.Cond.constant q.1.cls n v ∈ wB) (hd : decode q.2.1 pc = .ok (.ldc n, 2)) : OK l X q d na b pc (oIc pc 2 v) :=
  fun _ _ _ _ _ hk h => Wf.pure (fun _ _ _ _ _ _ _ _ _ _ _ _ _ _ ad la hx hb hown hts hl k => lv_ldc hx hb hown (hts _ hw) hd (k la hl)) (hk _ _ _ _ h)
theorem ok_ldc2 {n : Nat} {v : Int64} (hw : Jvm.Cond.constantLong q.1.cls n v ∈ wB) (hd : decode q.2.1 pc = .ok (.ldc2_w n, 3)) : OK l X q d na b pc (oLc pc 3 v) :=
  fun _ _ _ _ _ hk h => Wf.pure (fun _ _ _ _ _ _ _ _ _ _ _ _ _ _ ad la hx hb hown hts hl k => lv_ldc2 hx hb hown (hts _ hw) hd (k la hl)) (hk _ _ _ _ h)
theorem ok_ldcw {n : Nat} {v : Int32} (hw : Jvm.Cond.constant q.1.cls n v ∈ wB) (hd : decode q.2.1 pc = .ok (.ldc_w n, 3)) : OK l X q d na b pc (oIc pc 3 v) := by
  intro kn kr ls st M hk h
  refine Wf.pure (fun p e R s m args below meth c H locs cells slots Q ad la hx hb hown hts hl k => ?_) (hk _ _ _ _ h)
  intro T hT Xs
  obtain ⟨t, a, b⟩ := k la hl T hT Xs
  exact ⟨t, va_ldcwI Xs hx hown (hts _ hw) (g := F0 m pc la (st.map (iv ad))) rfl (by rw [hb]; exact hd) t a, b⟩
/-! locals -/
def oIl (pc n i : Nat) : OP := fun kn _ ls st M => match lg ls i with
  | some (.int x) => kn (pc + n) ls (.int x :: st) M
  | _ => False
def oLl (pc n i : Nat) : OP := fun kn _ ls st M => match lg ls i with
  | some (.long x) => kn (pc + n) ls (.long x :: st) M
  | _ => False
def oAl (pc n i : Nat) : OP := fun kn _ ls st M => match lg ls i with
  | some (.ref a) => cond (Nat.blt 0 a) (kn (pc + n) ls (.ref a :: st) M) False
  | _ => False
theorem condT {c : Bool} {P : Prop} (h : cond c P False) : c = true ∧ P := by
  cases c with
  | true => exact ⟨rfl, h⟩
  | false => exact h.elim
theorem ok_iload_n {i : Nat} {k : Fin 4} (hi : (k : Nat) = i) (hd : decode q.2.1 pc = .ok (.iload_n k, 1)) : OK l X q d na b pc (oIl pc 1 i) := by
  intro kn kr ls st M hk h
  simp only [oIl] at h
  split at h
  · rename_i e
    exact Wf.pure (fun _ _ _ _ _ _ _ _ _ _ _ _ _ _ ad la hx hb hown hts hl k => lv_iload_n hx hb hd hi (lg_has e hl) (k la hl)) (hk _ _ _ _ h)
  · exact h.elim
theorem ok_iload {i : Nat} (hd : decode q.2.1 pc = .ok (.iload i, 2)) : OK l X q d na b pc (oIl pc 2 i) := by
  intro kn kr ls st M hk h
  simp only [oIl] at h
  split at h
  · rename_i e
    exact Wf.pure (fun _ _ _ _ _ _ _ _ _ _ _ _ _ _ ad la hx hb hown hts hl k => lv_iload hx hb hd (lg_has e hl) (k la hl)) (hk _ _ _ _ h)
  · exact h.elim
theorem ok_lload_n {i : Nat} {k : Fin 4} (hi : (k : Nat) = i) (hd : decode q.2.1 pc = .ok (.lload_n k, 1)) : OK l X q d na b pc (oLl pc 1 i) := by
  intro kn kr ls st M hk h
  simp only [oLl] at h
  split at h
  · rename_i e
    exact Wf.pure (fun _ _ _ _ _ _ _ _ _ _ _ _ _ _ ad la hx hb hown hts hl k => lv_lload_n hx hb hd hi (lg_has e hl) (k la hl)) (hk _ _ _ _ h)
  · exact h.elim
theorem ok_lload {i : Nat} (hd : decode q.2.1 pc = .ok (.lload i, 2)) : OK l X q d na b pc (oLl pc 2 i) := by
  intro kn kr ls st M hk h
  simp only [oLl] at h
  split at h
  · rename_i e
    exact Wf.pure (fun _ _ _ _ _ _ _ _ _ _ _ _ _ _ ad la hx hb hown hts hl k => lv_lload hx hb hd (lg_has e hl) (k la hl)) (hk _ _ _ _ h)
  · exact h.elim
theorem ok_aload_n {i : Nat} {k : Fin 4} (hi : (k : Nat) = i) (hd : decode q.2.1 pc = .ok (.aload_n k, 1)) : OK l X q d na b pc (oAl pc 1 i) := by
  intro kn kr ls st M hk h
  simp only [oAl] at h
  split at h
  · rename_i a e
    obtain ⟨h0, h⟩ := condT h
    have h0 : 0 < a := Nat.le_of_ble_eq_true h0
    refine Wf.pure (fun p e' R s m args below meth c H locs cells slots Q ad la hx hb hown hts hl k => ?_) (hk _ _ _ _ h)
    have k := k la hl
    rw [List.map_cons, iv_ref h0] at k
    exact lv_aload_n hx hb hd hi (by rw [← iv_ref h0]; exact lg_has e hl) k
  · exact h.elim
theorem ok_aload {i : Nat} (hd : decode q.2.1 pc = .ok (.aload i, 2)) : OK l X q d na b pc (oAl pc 2 i) := by
  intro kn kr ls st M hk h
  simp only [oAl] at h
  split at h
  · rename_i a e
    obtain ⟨h0, h⟩ := condT h
    have h0 : 0 < a := Nat.le_of_ble_eq_true h0
    refine Wf.pure (fun p e' R s m args below meth c H locs cells slots Q ad la hx hb hown hts hl k => ?_) (hk _ _ _ _ h)
    have k := k la hl
    rw [List.map_cons, iv_ref h0] at k
    exact lv_aload hx hb hd (by rw [← iv_ref h0]; exact lg_has e hl) k
  · exact h.elim
def oIs (pc n i : Nat) : OP := fun kn _ ls st M => match st with
  | .int x :: st => kn (pc + n) (lp ls i (.int x)) st M
  | _ => False
def oLs (pc n i : Nat) : OP := fun kn _ ls st M => match st with
  | .long x :: st => kn (pc + n) (lp ls i (.long x)) st M
  | _ => False
def oAs (pc n i : Nat) : OP := fun kn _ ls st M => match st with
  | .ref a :: st => cond (Nat.blt 0 a) (kn (pc + n) (lp ls i (.ref a)) st M) False
  | _ => False
def oInc (pc i : Nat) (n : Int32) : OP := fun kn _ ls st M => match lg ls i with
  | some (.int x) => kn (pc + 3) (lp ls i (.int (x + n))) st M
  | _ => False
theorem ok_istore_n {i : Nat} {k : Fin 4} (hi : (k : Nat) = i) (hn : i < q.2.2.1) (hd : decode q.2.1 pc = .ok (.istore_n k, 1)) : OK l X q d na b pc (oIs pc 1 i) := by
  intro kn kr ls st M hk h
  simp only [oIs] at h
  split at h
  · exact Wf.pure (fun _ _ _ _ _ _ _ _ _ _ _ _ _ _ ad la hx hb hown hts hl k => lv_istore_n hx hb hd hi hl hn rfl (fun la' hl' => k la' (lp_1 rfl hl'))) (hk _ _ _ _ h)
  · exact h.elim
theorem ok_istore {i : Nat} (hn : i < q.2.2.1) (hd : decode q.2.1 pc = .ok (.istore i, 2)) : OK l X q d na b pc (oIs pc 2 i) := by
  intro kn kr ls st M hk h
  simp only [oIs] at h
  split at h
  · exact Wf.pure (fun _ _ _ _ _ _ _ _ _ _ _ _ _ _ ad la hx hb hown hts hl k => lv_istore hx hb hd hl hn rfl (fun la' hl' => k la' (lp_1 rfl hl'))) (hk _ _ _ _ h)
  · exact h.elim
theorem ok_lstore_n {i : Nat} {k : Fin 4} (hi : (k : Nat) = i) (hn : i + 1 < q.2.2.1) (hd : decode q.2.1 pc = .ok (.lstore_n k, 1)) : OK l X q d na b pc (oLs pc 1 i) := by
  intro kn kr ls st M hk h
  simp only [oLs] at h
  split at h
  · exact Wf.pure (fun _ _ _ _ _ _ _ _ _ _ _ _ _ _ ad la hx hb hown hts hl k => lv_lstore_n hx hb hd hi hl hn rfl (fun la' hl' => k la' (lp_2 rfl hl'))) (hk _ _ _ _ h)
  · exact h.elim
theorem ok_lstore {i : Nat} (hn : i + 1 < q.2.2.1) (hd : decode q.2.1 pc = .ok (.lstore i, 2)) : OK l X q d na b pc (oLs pc 2 i) := by
  intro kn kr ls st M hk h
  simp only [oLs] at h
  split at h
  · exact Wf.pure (fun _ _ _ _ _ _ _ _ _ _ _ _ _ _ ad la hx hb hown hts hl k => lv_lstore hx hb hd hl hn rfl (fun la' hl' => k la' (lp_2 rfl hl'))) (hk _ _ _ _ h)
  · exact h.elim
theorem ok_astore_n {i : Nat} {k : Fin 4} (hi : (k : Nat) = i) (hn : i < q.2.2.1) (hd : decode q.2.1 pc = .ok (.astore_n k, 1)) : OK l X q d na b pc (oAs pc 1 i) := by
  intro kn kr ls st M hk h
  simp only [oAs] at h
  split at h
  · rename_i a st
    obtain ⟨h0, h⟩ := condT h
    have h0 : 0 < a := Nat.le_of_ble_eq_true h0
    refine Wf.pure (fun p e' R s m args below meth c H locs cells slots Q ad la hx hb hown hts hl k => ?_) (hk _ _ _ _ h)
    rw [List.map_cons, iv_ref h0]
    exact lv_astore_n hx hb hd hi hl hn rfl (fun la' hl' => k la' (lp_1 rfl (by rw [iv_ref h0]; exact hl')))
  · exact h.elim
theorem ok_astore {i : Nat} (hn : i < q.2.2.1) (hd : decode q.2.1 pc = .ok (.astore i, 2)) : OK l X q d na b pc (oAs pc 2 i) := by
  intro kn kr ls st M hk h
  simp only [oAs] at h
  split at h
  · rename_i a st
    obtain ⟨h0, h⟩ := condT h
    have h0 : 0 < a := Nat.le_of_ble_eq_true h0
    refine Wf.pure (fun p e' R s m args below meth c H locs cells slots Q ad la hx hb hown hts hl k => ?_) (hk _ _ _ _ h)
    rw [List.map_cons, iv_ref h0]
    exact lv_astore hx hb hd hl hn rfl (fun la' hl' => k la' (lp_1 rfl (by rw [iv_ref h0]; exact hl')))
  · exact h.elim
theorem ok_iinc {i : Nat} {n : Int} {v : Int32} (hv : Int32.ofInt n = v) (hn : i < q.2.2.1) (hd : decode q.2.1 pc = .ok (.iinc i n, 3)) : OK l X q d na b pc (oInc pc i v) := by
  intro kn kr ls st M hk h
  simp only [oInc] at h
  split at h
  · rename_i x e
    subst hv
    refine Wf.pure (fun p e' R s m args below meth c H locs cells slots Q ad la hx hb hown hts hl k => ?_) (hk _ _ _ _ h)
    obtain ⟨j, hj⟩ := List.getElem?_of_mem (List.mem_map.mpr ⟨(i, Value.int x), lg_mem e, rfl⟩ : (i, Value.int x) ∈ lm ad ls)
    exact lv_iinc hx hb hd hl hj rfl hn rfl (fun la' hl' => k la' (lp_1 rfl hl'))
  · exact h.elim
/-! numbers -/
def o2 (pc : Nat) (f : Int32 → Int32 → Int32) : OP := fun kn _ ls st M => match st with
  | .int y :: .int x :: st => kn (pc + 1) ls (.int (f x y) :: st) M
  | _ => False
def o2d (pc : Nat) (f : Int32 → Int32 → Int32) : OP := fun kn _ ls st M => match st with
  | .int y :: .int x :: st => ¬ y = 0 ∧ kn (pc + 1) ls (.int (f x y) :: st) M
  | _ => False
def o1 (pc : Nat) (f : Int32 → Int32) : OP := fun kn _ ls st M => match st with
  | .int x :: st => kn (pc + 1) ls (.int (f x) :: st) M
  | _ => False
def oL2 (pc : Nat) (f : Int64 → Int64 → Int64) : OP := fun kn _ ls st M => match st with
  | .long y :: .long x :: st => kn (pc + 1) ls (.long (f x y) :: st) M
  | _ => False
def oL2d (pc : Nat) (f : Int64 → Int64 → Int64) : OP := fun kn _ ls st M => match st with
  | .long y :: .long x :: st => ¬ y = 0 ∧ kn (pc + 1) ls (.long (f x y) :: st) M
  | _ => False
def oi2l (pc : Nat) : OP := fun kn _ ls st M => match st with
  | .int x :: st => kn (pc + 1) ls (.long x.toInt64 :: st) M
  | _ => False
def olcmp (pc : Nat) : OP := fun kn _ ls st M => match st with
  | .long y :: .long x :: st => kn (pc + 1) ls (.int (lg_cmp x y) :: st) M
  | _ => False
theorem ok_iadd (hd : decode q.2.1 pc = .ok (.iadd, 1)) : OK l X q d na b pc (o2 pc (fun x y => x + y)) := by
  intro kn kr ls st M hk h
  simp only [o2] at h
  split at h
  · exact Wf.pure (fun _ _ _ _ _ _ _ _ _ _ _ _ _ _ ad la hx hb hown hts hl k => lv_iadd hx hb hd (k la hl)) (hk _ _ _ _ h)
  · exact h.elim
theorem ok_isub (hd : decode q.2.1 pc = .ok (.isub, 1)) : OK l X q d na b pc (o2 pc (fun x y => x - y)) := by
  intro kn kr ls st M hk h
  simp only [o2] at h
  split at h
  · exact Wf.pure (fun _ _ _ _ _ _ _ _ _ _ _ _ _ _ ad la hx hb hown hts hl k => lv_isub hx hb hd (k la hl)) (hk _ _ _ _ h)
  · exact h.elim
theorem ok_imul (hd : decode q.2.1 pc = .ok (.imul, 1)) : OK l X q d na b pc (o2 pc (fun x y => x * y)) := by
  intro kn kr ls st M hk h
  simp only [o2] at h
  split at h
  · exact Wf.pure (fun _ _ _ _ _ _ _ _ _ _ _ _ _ _ ad la hx hb hown hts hl k => lv_imul hx hb hd (k la hl)) (hk _ _ _ _ h)
  · exact h.elim
theorem ok_iand (hd : decode q.2.1 pc = .ok (.iand, 1)) : OK l X q d na b pc (o2 pc (fun x y => x &&& y)) := by
  intro kn kr ls st M hk h
  simp only [o2] at h
  split at h
  · exact Wf.pure (fun _ _ _ _ _ _ _ _ _ _ _ _ _ _ ad la hx hb hown hts hl k => lv_iand hx hb hd (k la hl)) (hk _ _ _ _ h)
  · exact h.elim
theorem ok_ior (hd : decode q.2.1 pc = .ok (.ior, 1)) : OK l X q d na b pc (o2 pc (fun x y => x ||| y)) := by
  intro kn kr ls st M hk h
  simp only [o2] at h
  split at h
  · exact Wf.pure (fun _ _ _ _ _ _ _ _ _ _ _ _ _ _ ad la hx hb hown hts hl k => lv_ior hx hb hd (k la hl)) (hk _ _ _ _ h)
  · exact h.elim
theorem ok_ixor (hd : decode q.2.1 pc = .ok (.ixor, 1)) : OK l X q d na b pc (o2 pc (fun x y => x ^^^ y)) := by
  intro kn kr ls st M hk h
  simp only [o2] at h
  split at h
  · exact Wf.pure (fun _ _ _ _ _ _ _ _ _ _ _ _ _ _ ad la hx hb hown hts hl k => lv_ixor hx hb hd (k la hl)) (hk _ _ _ _ h)
  · exact h.elim
theorem ok_ishl (hd : decode q.2.1 pc = .ok (.ishl, 1)) : OK l X q d na b pc (o2 pc (fun x y => x <<< (y &&& 31))) := by
  intro kn kr ls st M hk h
  simp only [o2] at h
  split at h
  · exact Wf.pure (fun _ _ _ _ _ _ _ _ _ _ _ _ _ _ ad la hx hb hown hts hl k => lv_ishl hx hb hd (k la hl)) (hk _ _ _ _ h)
  · exact h.elim
theorem ok_ishr (hd : decode q.2.1 pc = .ok (.ishr, 1)) : OK l X q d na b pc (o2 pc (fun x y => x >>> (y &&& 31))) := by
  intro kn kr ls st M hk h
  simp only [o2] at h
  split at h
  · exact Wf.pure (fun _ _ _ _ _ _ _ _ _ _ _ _ _ _ ad la hx hb hown hts hl k => lv_ishr hx hb hd (k la hl)) (hk _ _ _ _ h)
  · exact h.elim
theorem ok_iushr (hd : decode q.2.1 pc = .ok (.iushr, 1)) : OK l X q d na b pc (o2 pc (fun x y => (x.toUInt32 >>> (y.toUInt32 &&& Int32.toUInt32 31)).toInt32)) := by
  intro kn kr ls st M hk h
  simp only [o2] at h
  split at h
  · exact Wf.pure (fun _ _ _ _ _ _ _ _ _ _ _ _ _ _ ad la hx hb hown hts hl k => lv_iushr hx hb hd rfl (k la hl)) (hk _ _ _ _ h)
  · exact h.elim
theorem ok_idiv (hd : decode q.2.1 pc = .ok (.idiv, 1)) : OK l X q d na b pc (o2d pc (fun x y => x / y)) := by
  intro kn kr ls st M hk h
  simp only [o2d] at h
  split at h
  · exact Wf.pure (fun _ _ _ _ _ _ _ _ _ _ _ _ _ _ ad la hx hb hown hts hl k => lv_idiv hx hb hd h.1 (k la hl)) (hk _ _ _ _ h.2)
  · exact h.elim
theorem ok_irem (hd : decode q.2.1 pc = .ok (.irem, 1)) : OK l X q d na b pc (o2d pc (fun x y => x - x / y * y)) := by
  intro kn kr ls st M hk h
  simp only [o2d] at h
  split at h
  · exact Wf.pure (fun _ _ _ _ _ _ _ _ _ _ _ _ _ _ ad la hx hb hown hts hl k => lv_irem hx hb hd h.1 (k la hl)) (hk _ _ _ _ h.2)
  · exact h.elim
theorem ok_ineg (hd : decode q.2.1 pc = .ok (.ineg, 1)) : OK l X q d na b pc (o1 pc (fun x => -x)) := by
  intro kn kr ls st M hk h
  simp only [o1] at h
  split at h
  · exact Wf.pure (fun _ _ _ _ _ _ _ _ _ _ _ _ _ _ ad la hx hb hown hts hl k => lv_ineg hx hb hd (k la hl)) (hk _ _ _ _ h)
  · exact h.elim
theorem ok_i2b (hd : decode q.2.1 pc = .ok (.i2b, 1)) : OK l X q d na b pc (o1 pc (fun x => x.toInt8.toInt32)) := by
  intro kn kr ls st M hk h
  simp only [o1] at h
  split at h
  · exact Wf.pure (fun _ _ _ _ _ _ _ _ _ _ _ _ _ _ ad la hx hb hown hts hl k => lv_i2b hx hb hd rfl (k la hl)) (hk _ _ _ _ h)
  · exact h.elim
theorem ok_i2c (hd : decode q.2.1 pc = .ok (.i2c, 1)) : OK l X q d na b pc (o1 pc (fun x => (x.toUInt32 % 65536).toInt32)) := by
  intro kn kr ls st M hk h
  simp only [o1] at h
  split at h
  · exact Wf.pure (fun _ _ _ _ _ _ _ _ _ _ _ _ _ _ ad la hx hb hown hts hl k => lv_i2c hx hb hd rfl (k la hl)) (hk _ _ _ _ h)
  · exact h.elim
theorem ok_ladd (hd : decode q.2.1 pc = .ok (.ladd, 1)) : OK l X q d na b pc (oL2 pc (fun x y => x + y)) := by
  intro kn kr ls st M hk h
  simp only [oL2] at h
  split at h
  · exact Wf.pure (fun _ _ _ _ _ _ _ _ _ _ _ _ _ _ ad la hx hb hown hts hl k => lv_ladd hx hb hd (k la hl)) (hk _ _ _ _ h)
  · exact h.elim
theorem ok_lsub (hd : decode q.2.1 pc = .ok (.lsub, 1)) : OK l X q d na b pc (oL2 pc (fun x y => x - y)) := by
  intro kn kr ls st M hk h
  simp only [oL2] at h
  split at h
  · exact Wf.pure (fun _ _ _ _ _ _ _ _ _ _ _ _ _ _ ad la hx hb hown hts hl k => lv_lsub hx hb hd (k la hl)) (hk _ _ _ _ h)
  · exact h.elim
theorem ok_lmul (hd : decode q.2.1 pc = .ok (.lmul, 1)) : OK l X q d na b pc (oL2 pc (fun x y => x * y)) := by
  intro kn kr ls st M hk h
  simp only [oL2] at h
  split at h
  · exact Wf.pure (fun _ _ _ _ _ _ _ _ _ _ _ _ _ _ ad la hx hb hown hts hl k => lv_lmul hx hb hd (k la hl)) (hk _ _ _ _ h)
  · exact h.elim
theorem ok_ldiv (hd : decode q.2.1 pc = .ok (.ldiv, 1)) : OK l X q d na b pc (oL2d pc (fun x y => x / y)) := by
  intro kn kr ls st M hk h
  simp only [oL2d] at h
  split at h
  · exact Wf.pure (fun _ _ _ _ _ _ _ _ _ _ _ _ _ _ ad la hx hb hown hts hl k => lv_ldiv hx hb hd h.1 (k la hl)) (hk _ _ _ _ h.2)
  · exact h.elim
theorem ok_lrem (hd : decode q.2.1 pc = .ok (.lrem, 1)) : OK l X q d na b pc (oL2d pc (fun x y => x - x / y * y)) := by
  intro kn kr ls st M hk h
  simp only [oL2d] at h
  split at h
  · exact Wf.pure (fun _ _ _ _ _ _ _ _ _ _ _ _ _ _ ad la hx hb hown hts hl k => lv_lrem hx hb hd h.1 (k la hl)) (hk _ _ _ _ h.2)
  · exact h.elim
theorem ok_i2l (hd : decode q.2.1 pc = .ok (.i2l, 1)) : OK l X q d na b pc (oi2l pc) := by
  intro kn kr ls st M hk h
  simp only [oi2l] at h
  split at h
  · exact Wf.pure (fun _ _ _ _ _ _ _ _ _ _ _ _ _ _ ad la hx hb hown hts hl k => lv_i2l hx hb hd rfl (k la hl)) (hk _ _ _ _ h)
  · exact h.elim
theorem ok_lcmp (hd : decode q.2.1 pc = .ok (.lcmp, 1)) : OK l X q d na b pc (olcmp pc) := by
  intro kn kr ls st M hk h
  simp only [olcmp] at h
  split at h
  · exact Wf.pure (fun _ _ _ _ _ _ _ _ _ _ _ _ _ _ ad la hx hb hown hts hl k => W.lcmp hx hb hd (k la hl)) (hk _ _ _ _ h)
  · exact h.elim
/-! the stack -/
def oDup (pc : Nat) : OP := fun kn _ ls st M => match st with
  | v :: st => cond (Nat.beq v.category 1) (kn (pc + 1) ls (v :: v :: st) M) False
  | _ => False
def oDup2 (pc : Nat) : OP := fun kn _ ls st M => match st with
  | v :: w :: st => cond (Nat.beq v.category 1 && Nat.beq w.category 1) (kn (pc + 1) ls (v :: w :: v :: w :: st) M) False
  | _ => False
def oPop (pc : Nat) : OP := fun kn _ ls st M => match st with
  | v :: st => cond (Nat.beq v.category 1) (kn (pc + 1) ls st M) False
  | _ => False
theorem ok_dup (hd : decode q.2.1 pc = .ok (.dup, 1)) : OK l X q d na b pc (oDup pc) := by
  intro kn kr ls st M hk h
  simp only [oDup] at h
  split at h
  · obtain ⟨h0, h⟩ := condT h
    have h0 := Nat.eq_of_beq_eq_true h0
    exact Wf.pure (fun _ _ _ _ _ _ _ _ _ _ _ _ _ _ ad la hx hb hown hts hl k => lv_dup hx hb hd (by rw [iv_cat]; exact h0) (k la hl)) (hk _ _ _ _ h)
  · exact h.elim
theorem ok_pop (hd : decode q.2.1 pc = .ok (.pop, 1)) : OK l X q d na b pc (oPop pc) := by
  intro kn kr ls st M hk h
  simp only [oPop] at h
  split at h
  · obtain ⟨h0, h⟩ := condT h
    have h0 := Nat.eq_of_beq_eq_true h0
    exact Wf.pure (fun _ _ _ _ _ _ _ _ _ _ _ _ _ _ ad la hx hb hown hts hl k => lv_pop hx hb hd (by rw [iv_cat]; exact h0) (k la hl)) (hk _ _ _ _ h)
  · exact h.elim
theorem ok_dup2 (hd : decode q.2.1 pc = .ok (.dup2, 1)) : OK l X q d na b pc (oDup2 pc) := by
  intro kn kr ls st M hk h
  simp only [oDup2] at h
  split at h
  · obtain ⟨h0, h⟩ := condT h
    obtain ⟨h0, h1⟩ := Bool.and_eq_true_iff.mp h0
    have h0 := Nat.eq_of_beq_eq_true h0
    have h1 := Nat.eq_of_beq_eq_true h1
    exact Wf.pure (fun _ _ _ _ _ _ _ _ _ _ _ _ _ _ ad la hx hb hown hts hl k => lv_dup2_11 hx hb hd (by rw [iv_cat]; exact h0) (by rw [iv_cat]; exact h1) (k la hl)) (hk _ _ _ _ h)
  · exact h.elim
/-! branches -/
def oGo (t : Nat) : OP := fun kn _ ls st M => kn t ls st M
def oIf (pc t : Nat) (P N : Int32 → Prop) : OP := fun kn _ ls st M => match st with
  | .int x :: st => (P x → kn t ls st M) ∧ (N x → kn (pc + 3) ls st M)
  | _ => False
def oCm (pc t : Nat) (P N : Int32 → Int32 → Prop) : OP := fun kn _ ls st M => match st with
  | .int y :: .int x :: st => (P x y → kn t ls st M) ∧ (N x y → kn (pc + 3) ls st M)
  | _ => False
def oTs (lo : Int) (ts : List Nat) (df : Nat) : OP := fun kn _ ls st M => match st with
  | .int x :: st => (∀ (k t : Nat), ts[k]? = some t → x.toInt = lo + (k : Int) → kn t ls st M) ∧ ((x.toInt < lo ∨ lo + (ts.length : Int) ≤ x.toInt) → kn df ls st M)
  | _ => False
theorem ok_goto {off : Int} {t : Nat} (ht : (pc : Int) + off = (t : Int)) (hd : decode q.2.1 pc = .ok (.goto off, 3)) : OK l X q d na b pc (oGo t) :=
  fun _ _ _ _ _ hk h => Wf.pure (fun _ _ _ _ _ _ _ _ _ _ _ _ _ _ ad la hx hb hown hts hl k => lv_goto hx hb hd ht (k la hl)) (hk _ _ _ _ h)
theorem Wf.two {kr : KR} {ls : Ls} {st st' : List Value} {M : Mm} {t t' : Nat} {P N : Prop} (hPN : P ∨ N) (h : ∀ (p : Program) (e : Env) (R : Room) (s : State) (m : MethodId) (args : Array Value) (below : List Frame) (meth : Method) (c : Code) (H : Heap) (locs : List Loc) (cells slots : Nat) (Q : State → Prop) (ad : Nat → Nat) (la : Array Slot), p.tables.exec = Jvm.exec → c.code = q.2.1 → (P → W p l e R s m args below meth c H locs cells slots Q (F0 m t la (st'.map (iv ad)))) → (N → W p l e R s m args below meth c H locs cells slots Q (F0 m t' la (st'.map (iv ad)))) → W p l e R s m args below meth c H locs cells slots Q (F0 m pc la (st.map (iv ad)))) (k1 : P → Wf l X q d na b t ls st' M kr) (k2 : N → Wf l X q d na b t' ls st' M kr) : Wf l X q d na b pc ls st M kr := by
  intro p e R s m args below meth c Q D g ad0 A n0 S0 c0 s0 ad H locs la hf h1 h2 h3 h4 h5 h6 h7 h8 hr hl hk
  exact h p e R s m args below meth c H locs _ _ Q ad la hf.1 hf.2.1 (fun z => k1 z p e R s m args below meth c Q D g ad0 A n0 S0 c0 s0 ad H locs la hf h1 h2 h3 h4 h5 h6 h7 h8 hr hl hk) (fun z => k2 z p e R s m args below meth c Q D g ad0 A n0 S0 c0 s0 ad H locs la hf h1 h2 h3 h4 h5 h6 h7 h8 hr hl hk)
theorem ok_ifeq {off : Int} {t : Nat} (ht : (pc : Int) + off = (t : Int)) (hd : decode q.2.1 pc = .ok (.ifCond .eq off, 3)) : OK l X q d na b pc (oIf pc t (fun x => x = 0) (fun x => ¬ x = 0)) := by
  intro kn kr ls st M hk h
  simp only [oIf] at h
  split at h
  · exact Wf.two (Decidable.em _) (fun _ _ _ _ _ _ _ _ _ _ _ _ _ _ ad la hx hb k1 k2 => lv_if_eq hx hb hd ht k1 k2) (fun z => hk _ _ _ _ (h.1 z)) (fun z => hk _ _ _ _ (h.2 z))
  · exact h.elim
theorem ok_icmpeq {off : Int} {t : Nat} (ht : (pc : Int) + off = (t : Int)) (hd : decode q.2.1 pc = .ok (.if_icmp .eq off, 3)) : OK l X q d na b pc (oCm pc t (fun x y => x = y) (fun x y => ¬ x = y)) := by
  intro kn kr ls st M hk h
  simp only [oCm] at h
  split at h
  · exact Wf.two (Decidable.em _) (fun _ _ _ _ _ _ _ _ _ _ _ _ _ _ ad la hx hb k1 k2 => lv_icmp_eq hx hb hd ht k1 k2) (fun z => hk _ _ _ _ (h.1 z)) (fun z => hk _ _ _ _ (h.2 z))
  · exact h.elim
theorem ok_ifne {off : Int} {t : Nat} (ht : (pc : Int) + off = (t : Int)) (hd : decode q.2.1 pc = .ok (.ifCond .ne off, 3)) : OK l X q d na b pc (oIf pc t (fun x => ¬ x = 0) (fun x => x = 0)) := by
  intro kn kr ls st M hk h
  simp only [oIf] at h
  split at h
  · exact Wf.two (Decidable.em _).symm (fun _ _ _ _ _ _ _ _ _ _ _ _ _ _ ad la hx hb k1 k2 => lv_if_ne hx hb hd ht k1 k2) (fun z => hk _ _ _ _ (h.1 z)) (fun z => hk _ _ _ _ (h.2 z))
  · exact h.elim
theorem ok_icmpne {off : Int} {t : Nat} (ht : (pc : Int) + off = (t : Int)) (hd : decode q.2.1 pc = .ok (.if_icmp .ne off, 3)) : OK l X q d na b pc (oCm pc t (fun x y => ¬ x = y) (fun x y => x = y)) := by
  intro kn kr ls st M hk h
  simp only [oCm] at h
  split at h
  · exact Wf.two (Decidable.em _).symm (fun _ _ _ _ _ _ _ _ _ _ _ _ _ _ ad la hx hb k1 k2 => lv_icmp_ne hx hb hd ht k1 k2) (fun z => hk _ _ _ _ (h.1 z)) (fun z => hk _ _ _ _ (h.2 z))
  · exact h.elim
theorem ok_iflt {off : Int} {t : Nat} (ht : (pc : Int) + off = (t : Int)) (hd : decode q.2.1 pc = .ok (.ifCond .lt off, 3)) : OK l X q d na b pc (oIf pc t (fun x => x < 0) (fun x => ¬ x < 0)) := by
  intro kn kr ls st M hk h
  simp only [oIf] at h
  split at h
  · exact Wf.two (Decidable.em _) (fun _ _ _ _ _ _ _ _ _ _ _ _ _ _ ad la hx hb k1 k2 => lv_if_lt hx hb hd ht k1 k2) (fun z => hk _ _ _ _ (h.1 z)) (fun z => hk _ _ _ _ (h.2 z))
  · exact h.elim
theorem ok_icmplt {off : Int} {t : Nat} (ht : (pc : Int) + off = (t : Int)) (hd : decode q.2.1 pc = .ok (.if_icmp .lt off, 3)) : OK l X q d na b pc (oCm pc t (fun x y => x < y) (fun x y => ¬ x < y)) := by
  intro kn kr ls st M hk h
  simp only [oCm] at h
  split at h
  · exact Wf.two (Decidable.em _) (fun _ _ _ _ _ _ _ _ _ _ _ _ _ _ ad la hx hb k1 k2 => lv_icmp_lt hx hb hd ht k1 k2) (fun z => hk _ _ _ _ (h.1 z)) (fun z => hk _ _ _ _ (h.2 z))
  · exact h.elim
theorem ok_ifge {off : Int} {t : Nat} (ht : (pc : Int) + off = (t : Int)) (hd : decode q.2.1 pc = .ok (.ifCond .ge off, 3)) : OK l X q d na b pc (oIf pc t (fun x => 0 ≤ x) (fun x => ¬ 0 ≤ x)) := by
  intro kn kr ls st M hk h
  simp only [oIf] at h
  split at h
  · exact Wf.two (Decidable.em _) (fun _ _ _ _ _ _ _ _ _ _ _ _ _ _ ad la hx hb k1 k2 => lv_if_ge hx hb hd ht k1 k2) (fun z => hk _ _ _ _ (h.1 z)) (fun z => hk _ _ _ _ (h.2 z))
  · exact h.elim
theorem ok_icmpge {off : Int} {t : Nat} (ht : (pc : Int) + off = (t : Int)) (hd : decode q.2.1 pc = .ok (.if_icmp .ge off, 3)) : OK l X q d na b pc (oCm pc t (fun x y => y ≤ x) (fun x y => ¬ y ≤ x)) := by
  intro kn kr ls st M hk h
  simp only [oCm] at h
  split at h
  · exact Wf.two (Decidable.em _) (fun _ _ _ _ _ _ _ _ _ _ _ _ _ _ ad la hx hb k1 k2 => lv_icmp_ge hx hb hd ht k1 k2) (fun z => hk _ _ _ _ (h.1 z)) (fun z => hk _ _ _ _ (h.2 z))
  · exact h.elim
theorem ok_ifgt {off : Int} {t : Nat} (ht : (pc : Int) + off = (t : Int)) (hd : decode q.2.1 pc = .ok (.ifCond .gt off, 3)) : OK l X q d na b pc (oIf pc t (fun x => 0 < x) (fun x => ¬ 0 < x)) := by
  intro kn kr ls st M hk h
  simp only [oIf] at h
  split at h
  · exact Wf.two (Decidable.em _) (fun _ _ _ _ _ _ _ _ _ _ _ _ _ _ ad la hx hb k1 k2 => lv_if_gt hx hb hd ht k1 k2) (fun z => hk _ _ _ _ (h.1 z)) (fun z => hk _ _ _ _ (h.2 z))
  · exact h.elim
theorem ok_icmpgt {off : Int} {t : Nat} (ht : (pc : Int) + off = (t : Int)) (hd : decode q.2.1 pc = .ok (.if_icmp .gt off, 3)) : OK l X q d na b pc (oCm pc t (fun x y => y < x) (fun x y => ¬ y < x)) := by
  intro kn kr ls st M hk h
  simp only [oCm] at h
  split at h
  · exact Wf.two (Decidable.em _) (fun _ _ _ _ _ _ _ _ _ _ _ _ _ _ ad la hx hb k1 k2 => lv_icmp_gt hx hb hd ht k1 k2) (fun z => hk _ _ _ _ (h.1 z)) (fun z => hk _ _ _ _ (h.2 z))
  · exact h.elim
theorem ok_ifle {off : Int} {t : Nat} (ht : (pc : Int) + off = (t : Int)) (hd : decode q.2.1 pc = .ok (.ifCond .le off, 3)) : OK l X q d na b pc (oIf pc t (fun x => x ≤ 0) (fun x => ¬ x ≤ 0)) := by
  intro kn kr ls st M hk h
  simp only [oIf] at h
  split at h
  · exact Wf.two (Decidable.em _) (fun _ _ _ _ _ _ _ _ _ _ _ _ _ _ ad la hx hb k1 k2 => lv_if_le hx hb hd ht k1 k2) (fun z => hk _ _ _ _ (h.1 z)) (fun z => hk _ _ _ _ (h.2 z))
  · exact h.elim
theorem ok_icmple {off : Int} {t : Nat} (ht : (pc : Int) + off = (t : Int)) (hd : decode q.2.1 pc = .ok (.if_icmp .le off, 3)) : OK l X q d na b pc (oCm pc t (fun x y => x ≤ y) (fun x y => ¬ x ≤ y)) := by
  intro kn kr ls st M hk h
  simp only [oCm] at h
  split at h
  · exact Wf.two (Decidable.em _) (fun _ _ _ _ _ _ _ _ _ _ _ _ _ _ ad la hx hb k1 k2 => lv_icmp_le hx hb hd ht k1 k2) (fun z => hk _ _ _ _ (h.1 z)) (fun z => hk _ _ _ _ (h.2 z))
  · exact h.elim
theorem ok_ts {df lo hi : Int} {offs : Array Int} {n : Nat} {ts : List Nat} {t : Nat} (hn : hi + 1 = lo + ts.length) (h0 : (pc : Int) + df = (t : Int)) (hs : ts.map (fun (x : Nat) => (x : Int)) = offs.toList.map (fun o => (pc : Int) + o)) (hd : decode q.2.1 pc = .ok (.tableswitch df lo hi offs, n)) : OK l X q d na b pc (oTs lo ts t) := by
  intro kn kr ls st M hk h
  simp only [oTs] at h
  split at h
  · rename_i x st
    by_cases hx1 : x.toInt < lo ∨ lo + ts.length ≤ x.toInt
    · exact Wf.pure (fun _ _ _ _ _ _ _ _ _ _ _ _ _ _ ad la hx hb hown hts hl k => lv_tableOut hx hb hd (by omega) h0 (k la hl)) (hk _ _ _ _ (h.2 hx1))
    · have e1 : x.toInt = lo + ((x.toInt - lo).toNat : Nat) := by omega
      have e2 : (x.toInt - lo).toNat < ts.length := by omega
      have e3 : ts[(x.toInt - lo).toNat]? = some ts[(x.toInt - lo).toNat] := List.getElem?_eq_getElem e2
      have e4 : (offs.toList.map (fun o => (pc : Int) + o))[(x.toInt - lo).toNat]? = some (ts[(x.toInt - lo).toNat] : Int) := by
        rw [← hs, List.getElem?_map, e3]; rfl
      rw [List.getElem?_map] at e4
      cases ho : offs.toList[(x.toInt - lo).toNat]? with
      | none => rw [ho] at e4; cases e4
      | some o =>
        rw [ho] at e4
        have e5 : (pc : Int) + o = (ts[(x.toInt - lo).toNat] : Int) := Option.some.inj e4
        exact Wf.pure (fun _ _ _ _ _ _ _ _ _ _ _ _ _ _ ad la hx hb hown hts hl k => lv_tableIn hx hb hd (by omega) (by omega) (by rw [← Array.getElem?_toList]; exact ho) e5 (k la hl)) (hk _ _ _ _ (h.1 _ _ e3 e1))
  · exact h.elim
end OPS
end
section
section MEM
variable {l : Launch} {X : Nat × (Nat → Int32)} {q : Md} {d : Nat} {na : Bool} {b : Nat × Nat} {pc : Nat}
theorem en_same {g : Nat → ClassId} {ad : Nat → Nat} {M M' : Mm} {a : Nat} (h0 : mK M' a = mK M a) (h1 : mI M' a = mI M a) (h2 : mL M' a = mL M a) (h3 : mR M' a = mR M a) : en g ad M' a = en g ad M a := by
  have hs : ∀ k t, sv M' a k t = sv M a k t := by
    intro k t
    unfold sv
    rw [h1, h2, h3]
  have he : er ad M' a = er ad M a := by
    unfold er
    rw [h3]
  unfold en eo
  rw [h0, h1, h2, he]
  simp only [hs]
theorem en_o {g : Nat → ClassId} {ad : Nat → Nat} {M : Mm} {a c : Nat} (h : (mK M a).1 = c) (hc : c < 8) : en g ad M a = .inr (c, eo ad M a (tf c)) := by
  unfold en
  rw [h, if_pos hc]
theorem en_i {g : Nat → ClassId} {ad : Nat → Nat} {M : Mm} {a : Nat} (h : (mK M a).1 = 9) : en g ad M a = .inl (g 9, (mK M a).2, .inl (mI M a)) := by
  unfold en
  rw [h, if_neg (by decide), if_neg (by decide), if_pos (by decide)]
theorem en_b {g : Nat → ClassId} {ad : Nat → Nat} {M : Mm} {a : Nat} (h : (mK M a).1 = 8) : en g ad M a = .inl (g 8, (mK M a).2, .inl (mI M a)) := by
  unfold en
  rw [h, if_neg (by decide), if_neg (by decide), if_pos (by decide)]
theorem en_j {g : Nat → ClassId} {ad : Nat → Nat} {M : Mm} {a : Nat} (h : (mK M a).1 = 10) : en g ad M a = .inl (g 10, (mK M a).2, .inr (.inl (mL M a))) := by
  unfold en
  rw [h, if_neg (by decide), if_pos rfl]
theorem en_q {g : Nat → ClassId} {ad : Nat → Nat} {M : Mm} {a c : Nat} (h : (mK M a).1 = c) (hc : 10 < c) : en g ad M a = .inl (g c, (mK M a).2, .inr (.inr (.inr (.inr (er ad M a))))) := by
  unfold en
  rw [h, if_neg (by omega), if_neg (by omega), if_neg (by omega)]
def kk (M : Mm) (a c : Nat) : Bool := Nat.blt 0 a && (Nat.ble a (mN M) && Nat.beq (mK M a).1 c)
theorem kk_of {M : Mm} {a c : Nat} (h : kk M a c = true) : 0 < a ∧ a ≤ mN M ∧ (mK M a).1 = c := by
  obtain ⟨h1, h2⟩ := Bool.and_eq_true_iff.mp h
  obtain ⟨h2, h3⟩ := Bool.and_eq_true_iff.mp h2
  exact ⟨Nat.le_of_ble_eq_true h1, Nat.le_of_ble_eq_true h2, Nat.eq_of_beq_eq_true h3⟩
/-- a step that reads or writes the pool -/
theorem Wf.mem {kr : KR} {ls : Ls} {st st' : List Value} {M M' : Mm} {pc' : Nat} (h1 : M'.1 = M.1) (hkO : kO M → kO M')
    (h : ∀ (p : Program) (e : Env) (R : Room) (s : State) (m : MethodId) (args : Array Value) (below : List Frame) (meth : Method) (c : Code) (H : Heap) (locs : List Loc) (cells slots : Nat) (Q : State → Prop) (D : va_G) (g : Nat → ClassId) (ad : Nat → Nat) (A : Nat → Prop) (la : Array Slot), p.tables.exec = Jvm.exec → c.code = q.2.1 → s.vm.findClass q.1.cls = some m.cls → (∀ w ∈ wB, w.before args s = true) → va_K D vwCl (tz g) s → meth.name = q.1.name → c.maxLocals = la.size → d ≤ R.frames → 64 * d ≤ R.locals → va_P D vwCl (wl g ad M) H → va_D A (wl g ad M) → va_S A s.heap H locs →
      (∀ (H1 : Heap) (locs1 : List Loc), va_P D vwCl (wl g ad M') H1 → va_D A (wl g ad M') → va_S A s.heap H1 locs1 → W p l e R s m args below meth c H1 locs1 cells slots Q (F0 m pc' la (st'.map (iv ad)))) → W p l e R s m args below meth c H locs cells slots Q (F0 m pc la (st.map (iv ad))))
    (k : Wf l X q d na b pc' ls st' M' kr) : Wf l X q d na b pc ls st M kr := by
  intro p e R s m args below meth c Q D g ad0 A n0 S0 c0 s0 ad H locs la hf g1 g2 g3 g4 g5 g6 g7 g8 hr hl hk
  obtain ⟨r1, r2, r3, r4, r5, r6, r7, r8⟩ := hr
  have eN : mN M' = mN M := congrArg (fun x => x.1) h1
  have eC : mC M' = mC M := congrArg (fun x => x.2.1) h1
  have eS : mS M' = mS M := congrArg (fun x => x.2.2.1) h1
  refine h p e R s m args below meth c H locs (mC M - c0) (mS M - s0) Q D g ad A la hf.1 hf.2.1 hf.2.2.2.2.2.1 hf.2.2.2.2.2.2.2.1 hf.2.2.2.2.2.2.2.2.2.1 hf.2.2.2.2.2.2.1 (hf.2.2.1.trans hl.1.symm) g1 g2 r1 r2 r3 (fun H1 locs1 p1 p2 p3 => ?_)
  have := k p e R s m args below meth c Q D g ad0 A n0 S0 c0 s0 ad H1 locs1 la hf g1 g2 g3 g4 (by rw [eC]; exact g5) (by rw [eS]; exact g6) (by rw [eC]; exact g7) (by rw [eS]; exact g8) ⟨p1, p2, p3, hkO r4, by rw [eN]; exact r5, by rw [eN]; exact r6, r7, fun z => ⟨(r8 z).1, h1.trans (r8 z).2⟩⟩ hl hk
  rw [eC, eS] at this
  exact this
def oG (pc c k t : Nat) : OP := fun kn _ ls st M => match st with
  | .ref a :: st => cond (kk M a c) (kn (pc + 3) ls (sv M a k t :: st) M) False
  | _ => False
theorem ok_get {c k t idx : Nat} {Cn : String} {T : u_T} {N : Nat} (hc : vwCl[c]? = some (Cn, T, N)) (hin : ∀ w ∈ u_ws Cn T N, w ∈ wB) (h8 : c < 8 ∧ k < N ∧ k < (tf c).length ∧ (tf c).getD k 0 = t) (hw : Cond.fieldLink q.1.cls idx (T k).1 (T k).2.1 (T k).2.2.1 ∈ wB) (hd : decode q.2.1 pc = .ok (.getfield idx, 3)) : OK l X q d na b pc (oG pc c k t) := by
  intro kn kr ls st M hk h
  simp only [oG] at h
  split at h
  · rename_i a st
    obtain ⟨h0, h⟩ := condT h
    obtain ⟨a0, a1, a2⟩ := kk_of h0
    refine Wf.mem rfl id (fun p e R s m args below meth c' H locs cells slots Q D g ad A la hx hb hown hts hK hnm hml g1 g2 hP hD hS kx => ?_) (hk _ _ _ _ h)
    rw [List.map_cons, iv_ref a0]
    have he := wl_at (g := g) (ad := ad) a0 a1
    rw [en_o a2 h8.1] at he
    exact va_get hx hb hts hin hown hK hP (a - 1) he hc k h8.2.1 (hts _ hw) (fun _ z => z) (v := iv ad (sv M a k t)) (by rw [eo_at h8.2.2.1, h8.2.2.2]) hd (kx H locs hP hD hS)
  · exact h.elim
theorem wI_o {M : Mm} {a i j b : Nat} {v : Int32} (h : b ≠ a ∨ j ≠ i) : mI (wI M a i v) b j = mI M b j := by
  show (if b = a ∧ j = i then v else M.2.1 b j) = M.2.1 b j
  rw [if_neg (by omega)]
theorem wI_s {M : Mm} {a i : Nat} {v : Int32} : mI (wI M a i v) a i = v := by
  show (if a = a ∧ i = i then v else M.2.1 a i) = v
  rw [if_pos ⟨rfl, rfl⟩]
theorem wL_o {M : Mm} {a i j b : Nat} {v : Int64} (h : b ≠ a ∨ j ≠ i) : mL (wL M a i v) b j = mL M b j := by
  show (if b = a ∧ j = i then v else M.2.2.1 b j) = M.2.2.1 b j
  rw [if_neg (by omega)]
theorem wL_s {M : Mm} {a i : Nat} {v : Int64} : mL (wL M a i v) a i = v := by
  show (if a = a ∧ i = i then v else M.2.2.1 a i) = v
  rw [if_pos ⟨rfl, rfl⟩]
theorem wR_o {M : Mm} {a i j b : Nat} {v : Nat} (h : b ≠ a ∨ j ≠ i) : mR (wR M a i v) b j = mR M b j := by
  show (if b = a ∧ j = i then v else M.2.2.2 b j) = M.2.2.2 b j
  rw [if_neg (by omega)]
theorem wR_s {M : Mm} {a i : Nat} {v : Nat} : mR (wR M a i v) a i = v := by
  show (if a = a ∧ i = i then v else M.2.2.2 a i) = v
  rw [if_pos ⟨rfl, rfl⟩]
theorem wF_o {M : Mm} {a j b : Nat} {f : Nat → Int32} (h : b ≠ a) : mI (wF M a f) b j = mI M b j := by
  show (if b = a then f j else M.2.1 b j) = M.2.1 b j
  rw [if_neg h]
theorem wF_s {M : Mm} {a : Nat} {f : Nat → Int32} : mI (wF M a f) a = f := by
  funext j
  show (if a = a then f j else M.2.1 a j) = f j
  rw [if_pos rfl]
/-- a field's new value: the world of the new memory -/
theorem put_wl {g : Nat → ClassId} {ad : Nat → Nat} {M M' : Mm} {a c k t : Nat} (h1 : M'.1 = M.1) (a0 : 0 < a) (a1 : a ≤ mN M) (a2 : (mK M a).1 = c) (h8 : c < 8) (hk : k < (tf c).length) (ht : (tf c).getD k 0 = t)
    (ho : ∀ b, b ≠ a → mI M' b = mI M b ∧ mL M' b = mL M b ∧ mR M' b = mR M b) (hs : ∀ j, j ≠ k → mI M' a j = mI M a j ∧ mL M' a j = mL M a j ∧ mR M' a j = mR M a j) :
    (wl g ad M).set (a - 1) (ad a, .inr (c, (eo ad M a (tf c)).set k (iv ad (sv M' a k t)))) = wl g ad M' := by
  have hK : ∀ b, mK M' b = mK M b := fun b => congrFun (congrArg (fun x => x.2.2.2) h1) b
  have e := wl_set (g := g) (ad := ad) (M := M) (M' := M') a0 a1 (congrArg (fun x => x.1) h1) (fun b hb => en_same (hK b) (ho b hb).1 (ho b hb).2.1 (ho b hb).2.2)
  rw [← e, en_o (by rw [hK]; exact a2) h8, ← ht]
  rw [eo_set hk (fun j hj => ?_)]
  unfold sv
  rw [(hs j hj).1, (hs j hj).2.1, (hs j hj).2.2]
def oPI (pc c k : Nat) : OP := fun kn _ ls st M => match st with
  | .int v :: .ref a :: st => cond (kk M a c) (kn (pc + 3) ls st (wI M a k v)) False
  | _ => False
def oPZ (pc c k : Nat) : OP := fun kn _ ls st M => match st with
  | .int v :: .ref a :: st => cond (kk M a c) ((v = 0 ∨ v = 1) ∧ kn (pc + 3) ls st (wI M a k v)) False
  | _ => False
def oPL (pc c k : Nat) : OP := fun kn _ ls st M => match st with
  | .long v :: .ref a :: st => cond (kk M a c) (kn (pc + 3) ls st (wL M a k v)) False
  | _ => False
def oPR (pc c k : Nat) : OP := fun kn _ ls st M => match st with
  | .ref v :: .ref a :: st => cond (kk M a c && (Nat.blt 0 v && Nat.ble v (mN M))) (kn (pc + 3) ls st (wR M a k v)) False
  | _ => False
theorem ok_putI {c k idx : Nat} {Cn : String} {T : u_T} {N : Nat} (ty0 : Nat → FieldType) (hty : ∀ k, k < N → parseFieldDescriptor (T k).2.2.1 = some (ty0 k)) (hnmf : ∀ a, a < N → ∀ b, b < N → a ≠ b → (T a).2.1 ≠ (T b).2.1) (hc : vwCl[c]? = some (Cn, T, N)) (hin : ∀ w ∈ u_ws Cn T N, w ∈ wB) (h8 : c < 8 ∧ k < N ∧ k < (tf c).length ∧ (tf c).getD k 0 = 0) (hfin : (T k).2.2.2 = false) (hti : parseFieldDescriptor (T k).2.2.1 = some .int) (hw : Cond.fieldLink q.1.cls idx (T k).1 (T k).2.1 (T k).2.2.1 ∈ wB) (hd : decode q.2.1 pc = .ok (.putfield idx, 3)) : OK l X q d na b pc (oPI pc c k) := by
  intro kn kr ls st M hk h
  simp only [oPI] at h
  split at h
  · rename_i v a st
    obtain ⟨h0, h⟩ := condT h
    obtain ⟨a0, a1, a2⟩ := kk_of h0
    refine Wf.mem (M' := wI M a k v) rfl id (fun p e R s m args below meth c' H locs cells slots Q D g ad A la hx hb hown hts hK hnm hml g1 g2 hP hD hS kx => ?_) (hk _ _ _ _ h)
    rw [List.map_cons, List.map_cons, iv_ref a0]
    have he := wl_at (g := g) (ad := ad) a0 a1
    rw [en_o a2 h8.1] at he
    have hset := put_wl (g := g) (ad := ad) (M := M) (M' := wI M a k v) (k := k) rfl a0 a1 a2 h8.1 h8.2.2.1 h8.2.2.2 (fun b hb => ⟨funext fun j => wI_o (Or.inl hb), rfl, rfl⟩) (fun j hj => ⟨wI_o (Or.inr hj), rfl, rfl⟩)
    have hv : iv ad (sv (wI M a k v) a k 0) = iv ad (.int v) := by
      show iv ad (.int (mI (wI M a k v) a k)) = _
      rw [wI_s]
    rw [hv] at hset
    refine va_put hx hb hts hin ty0 hty hnmf hown hK hP hD hS (a - 1) he hc k h8.2.1 (hts _ hw) (fun _ z => z) hfin (ty := .int) hti rfl rfl (by unfold eo; simp; exact h8.2.2.1) hd (fun H1 locs1 p1 p2 p3 => ?_)
    rw [hset] at p1 p2
    exact kx H1 locs1 p1 p2 p3
  · exact h.elim
theorem ok_putZ {c k idx : Nat} {Cn : String} {T : u_T} {N : Nat} (ty0 : Nat → FieldType) (hty : ∀ k, k < N → parseFieldDescriptor (T k).2.2.1 = some (ty0 k)) (hnmf : ∀ a, a < N → ∀ b, b < N → a ≠ b → (T a).2.1 ≠ (T b).2.1) (hc : vwCl[c]? = some (Cn, T, N)) (hin : ∀ w ∈ u_ws Cn T N, w ∈ wB) (h8 : c < 8 ∧ k < N ∧ k < (tf c).length ∧ (tf c).getD k 0 = 0) (hfin : (T k).2.2.2 = false) (hti : parseFieldDescriptor (T k).2.2.1 = some .boolean) (hw : Cond.fieldLink q.1.cls idx (T k).1 (T k).2.1 (T k).2.2.1 ∈ wB) (hd : decode q.2.1 pc = .ok (.putfield idx, 3)) : OK l X q d na b pc (oPZ pc c k) := by
  intro kn kr ls st M hk h
  simp only [oPZ] at h
  split at h
  · rename_i v a st
    obtain ⟨h0, h⟩ := condT h
    obtain ⟨a0, a1, a2⟩ := kk_of h0
    refine Wf.mem (M' := wI M a k v) rfl id (fun p e R s m args below meth c' H locs cells slots Q D g ad A la hx hb hown hts hK hnm hml g1 g2 hP hD hS kx => ?_) (hk _ _ _ _ h.2)
    rw [List.map_cons, List.map_cons, iv_ref a0]
    have he := wl_at (g := g) (ad := ad) a0 a1
    rw [en_o a2 h8.1] at he
    have hset := put_wl (g := g) (ad := ad) (M := M) (M' := wI M a k v) (k := k) rfl a0 a1 a2 h8.1 h8.2.2.1 h8.2.2.2 (fun b hb => ⟨funext fun j => wI_o (Or.inl hb), rfl, rfl⟩) (fun j hj => ⟨wI_o (Or.inr hj), rfl, rfl⟩)
    have hv : iv ad (sv (wI M a k v) a k 0) = iv ad (.int v) := by
      show iv ad (.int (mI (wI M a k v) a k)) = _
      rw [wI_s]
    rw [hv] at hset
    refine va_put hx hb hts hin ty0 hty hnmf hown hK hP hD hS (a - 1) he hc k h8.2.1 (hts _ hw) (fun _ z => z) hfin (ty := .boolean) hti (by rcases h.1 with e | e <;> rw [e] <;> rfl) (by rcases h.1 with e | e <;> rw [e] <;> rfl) (by unfold eo; simp; exact h8.2.2.1) hd (fun H1 locs1 p1 p2 p3 => ?_)
    rw [hset] at p1 p2
    exact kx H1 locs1 p1 p2 p3
  · exact h.elim
theorem ok_putL {c k idx : Nat} {Cn : String} {T : u_T} {N : Nat} (ty0 : Nat → FieldType) (hty : ∀ k, k < N → parseFieldDescriptor (T k).2.2.1 = some (ty0 k)) (hnmf : ∀ a, a < N → ∀ b, b < N → a ≠ b → (T a).2.1 ≠ (T b).2.1) (hc : vwCl[c]? = some (Cn, T, N)) (hin : ∀ w ∈ u_ws Cn T N, w ∈ wB) (h8 : c < 8 ∧ k < N ∧ k < (tf c).length ∧ (tf c).getD k 0 = 1) (hfin : (T k).2.2.2 = false) (hti : parseFieldDescriptor (T k).2.2.1 = some .long) (hw : Cond.fieldLink q.1.cls idx (T k).1 (T k).2.1 (T k).2.2.1 ∈ wB) (hd : decode q.2.1 pc = .ok (.putfield idx, 3)) : OK l X q d na b pc (oPL pc c k) := by
  intro kn kr ls st M hk h
  simp only [oPL] at h
  split at h
  · rename_i v a st
    obtain ⟨h0, h⟩ := condT h
    obtain ⟨a0, a1, a2⟩ := kk_of h0
    refine Wf.mem (M' := wL M a k v) rfl id (fun p e R s m args below meth c' H locs cells slots Q D g ad A la hx hb hown hts hK hnm hml g1 g2 hP hD hS kx => ?_) (hk _ _ _ _ h)
    rw [List.map_cons, List.map_cons, iv_ref a0]
    have he := wl_at (g := g) (ad := ad) a0 a1
    rw [en_o a2 h8.1] at he
    have hset := put_wl (g := g) (ad := ad) (M := M) (M' := wL M a k v) (k := k) rfl a0 a1 a2 h8.1 h8.2.2.1 h8.2.2.2 (fun b hb => ⟨rfl, funext fun j => wL_o (Or.inl hb), rfl⟩) (fun j hj => ⟨rfl, wL_o (Or.inr hj), rfl⟩)
    have hv : iv ad (sv (wL M a k v) a k 1) = iv ad (.long v) := by
      show iv ad (.long (mL (wL M a k v) a k)) = _
      rw [wL_s]
    rw [hv] at hset
    refine va_put hx hb hts hin ty0 hty hnmf hown hK hP hD hS (a - 1) he hc k h8.2.1 (hts _ hw) (fun _ z => z) hfin (ty := .long) hti rfl rfl (by unfold eo; simp; exact h8.2.2.1) hd (fun H1 locs1 p1 p2 p3 => ?_)
    rw [hset] at p1 p2
    exact kx H1 locs1 p1 p2 p3
  · exact h.elim
theorem ok_putRO {Cf : String} {c k idx : Nat} {Cn : String} {T : u_T} {N : Nat} (ty0 : Nat → FieldType) (hty : ∀ k, k < N → parseFieldDescriptor (T k).2.2.1 = some (ty0 k)) (hnmf : ∀ a, a < N → ∀ b, b < N → a ≠ b → (T a).2.1 ≠ (T b).2.1) (hc : vwCl[c]? = some (Cn, T, N)) (hin : ∀ w ∈ u_ws Cn T N, w ∈ wB) (h8 : c < 8 ∧ k < N ∧ k < (tf c).length ∧ (tf c).getD k 0 = 2) (hfin : (T k).2.2.2 = false) (hti : parseFieldDescriptor (T k).2.2.1 = some (.object Cf)) (hw : Cond.fieldLink q.1.cls idx (T k).1 (T k).2.1 (T k).2.2.1 ∈ wB) (hd : decode q.2.1 pc = .ok (.putfield idx, 3)) : OK l X q d na b pc (oPR pc c k) := by
  intro kn kr ls st M hk h
  simp only [oPR] at h
  split at h
  · rename_i v a st
    obtain ⟨h0, h⟩ := condT h
    obtain ⟨h0, v1⟩ := Bool.and_eq_true_iff.mp h0
    obtain ⟨v0, v1⟩ := Bool.and_eq_true_iff.mp v1
    have v0 : 0 < v := Nat.le_of_ble_eq_true v0
    have v1 := Nat.le_of_ble_eq_true v1
    obtain ⟨a0, a1, a2⟩ := kk_of h0
    refine Wf.mem (M' := wR M a k v) rfl (fun z b j => by
      show (if b = a ∧ j = k then v else M.2.2.2 b j) ≤ mN M
      split
      · exact v1
      · exact z b j) (fun p e R s m args below meth c' H locs cells slots Q D g ad A la hx hb hown hts hK hnm hml g1 g2 hP hD hS kx => ?_) (hk _ _ _ _ h)
    rw [List.map_cons, List.map_cons, iv_ref a0, iv_ref v0]
    have he := wl_at (g := g) (ad := ad) a0 a1
    rw [en_o a2 h8.1] at he
    have hset := put_wl (g := g) (ad := ad) (M := M) (M' := wR M a k v) (k := k) rfl a0 a1 a2 h8.1 h8.2.2.1 h8.2.2.2 (fun b hb => ⟨rfl, rfl, funext fun j => wR_o (Or.inl hb)⟩) (fun j hj => ⟨rfl, rfl, wR_o (Or.inr hj)⟩)
    have hv : iv ad (sv (wR M a k v) a k 2) = .ref (ad v) := by
      show iv ad (.ref (mR (wR M a k v) a k)) = _
      rw [wR_s]; exact iv_ref v0
    rw [hv] at hset
    refine va_put hx hb hts hin ty0 hty hnmf hown hK hP hD hS (a - 1) he hc k h8.2.1 (hts _ hw) (fun _ z => z) hfin (ty := .object Cf) hti rfl rfl (by unfold eo; simp; exact h8.2.2.1) hd (fun H1 locs1 p1 p2 p3 => ?_)
    rw [hset] at p1 p2
    exact kx H1 locs1 p1 p2 p3
  · exact h.elim
theorem ok_putRA {tf0 : FieldType} {c k idx : Nat} {Cn : String} {T : u_T} {N : Nat} (ty0 : Nat → FieldType) (hty : ∀ k, k < N → parseFieldDescriptor (T k).2.2.1 = some (ty0 k)) (hnmf : ∀ a, a < N → ∀ b, b < N → a ≠ b → (T a).2.1 ≠ (T b).2.1) (hc : vwCl[c]? = some (Cn, T, N)) (hin : ∀ w ∈ u_ws Cn T N, w ∈ wB) (h8 : c < 8 ∧ k < N ∧ k < (tf c).length ∧ (tf c).getD k 0 = 2) (hfin : (T k).2.2.2 = false) (hti : parseFieldDescriptor (T k).2.2.1 = some (.array tf0)) (hw : Cond.fieldLink q.1.cls idx (T k).1 (T k).2.1 (T k).2.2.1 ∈ wB) (hd : decode q.2.1 pc = .ok (.putfield idx, 3)) : OK l X q d na b pc (oPR pc c k) := by
  intro kn kr ls st M hk h
  simp only [oPR] at h
  split at h
  · rename_i v a st
    obtain ⟨h0, h⟩ := condT h
    obtain ⟨h0, v1⟩ := Bool.and_eq_true_iff.mp h0
    obtain ⟨v0, v1⟩ := Bool.and_eq_true_iff.mp v1
    have v0 : 0 < v := Nat.le_of_ble_eq_true v0
    have v1 := Nat.le_of_ble_eq_true v1
    obtain ⟨a0, a1, a2⟩ := kk_of h0
    refine Wf.mem (M' := wR M a k v) rfl (fun z b j => by
      show (if b = a ∧ j = k then v else M.2.2.2 b j) ≤ mN M
      split
      · exact v1
      · exact z b j) (fun p e R s m args below meth c' H locs cells slots Q D g ad A la hx hb hown hts hK hnm hml g1 g2 hP hD hS kx => ?_) (hk _ _ _ _ h)
    rw [List.map_cons, List.map_cons, iv_ref a0, iv_ref v0]
    have he := wl_at (g := g) (ad := ad) a0 a1
    rw [en_o a2 h8.1] at he
    have hset := put_wl (g := g) (ad := ad) (M := M) (M' := wR M a k v) (k := k) rfl a0 a1 a2 h8.1 h8.2.2.1 h8.2.2.2 (fun b hb => ⟨rfl, rfl, funext fun j => wR_o (Or.inl hb)⟩) (fun j hj => ⟨rfl, rfl, wR_o (Or.inr hj)⟩)
    have hv : iv ad (sv (wR M a k v) a k 2) = .ref (ad v) := by
      show iv ad (.ref (mR (wR M a k v) a k)) = _
      rw [wR_s]; exact iv_ref v0
    rw [hv] at hset
    refine va_put hx hb hts hin ty0 hty hnmf hown hK hP hD hS (a - 1) he hc k h8.2.1 (hts _ hw) (fun _ z => z) hfin (ty := .array tf0) hti rfl rfl (by unfold eo; simp; exact h8.2.2.1) hd (fun H1 locs1 p1 p2 p3 => ?_)
    rw [hset] at p1 p2
    exact kx H1 locs1 p1 p2 p3
  · exact h.elim
theorem ok_putRFO {Cf : String} {c k idx : Nat} {Cn : String} {T : u_T} {N : Nat} (ty0 : Nat → FieldType) (hty : ∀ k, k < N → parseFieldDescriptor (T k).2.2.1 = some (ty0 k)) (hnmf : ∀ a, a < N → ∀ b, b < N → a ≠ b → (T a).2.1 ≠ (T b).2.1) (hc : vwCl[c]? = some (Cn, T, N)) (hin : ∀ w ∈ u_ws Cn T N, w ∈ wB) (h8 : c < 8 ∧ k < N ∧ k < (tf c).length ∧ (tf c).getD k 0 = 2) (hfin : (T k).2.2.2 = true) (hini : q.1.name = "<init>") (hdecl : (T k).1 = q.1.cls) (hti : parseFieldDescriptor (T k).2.2.1 = some (.object Cf)) (hw : Cond.fieldLink q.1.cls idx (T k).1 (T k).2.1 (T k).2.2.1 ∈ wB) (hd : decode q.2.1 pc = .ok (.putfield idx, 3)) : OK l X q d na b pc (oPR pc c k) := by
  intro kn kr ls st M hk h
  simp only [oPR] at h
  split at h
  · rename_i v a st
    obtain ⟨h0, h⟩ := condT h
    obtain ⟨h0, v1⟩ := Bool.and_eq_true_iff.mp h0
    obtain ⟨v0, v1⟩ := Bool.and_eq_true_iff.mp v1
    have v0 : 0 < v := Nat.le_of_ble_eq_true v0
    have v1 := Nat.le_of_ble_eq_true v1
    obtain ⟨a0, a1, a2⟩ := kk_of h0
    refine Wf.mem (M' := wR M a k v) rfl (fun z b j => by
      show (if b = a ∧ j = k then v else M.2.2.2 b j) ≤ mN M
      split
      · exact v1
      · exact z b j) (fun p e R s m args below meth c' H locs cells slots Q D g ad A la hx hb hown hts hK hnm hml g1 g2 hP hD hS kx => ?_) (hk _ _ _ _ h)
    rw [List.map_cons, List.map_cons, iv_ref a0, iv_ref v0]
    have he := wl_at (g := g) (ad := ad) a0 a1
    rw [en_o a2 h8.1] at he
    have hset := put_wl (g := g) (ad := ad) (M := M) (M' := wR M a k v) (k := k) rfl a0 a1 a2 h8.1 h8.2.2.1 h8.2.2.2 (fun b hb => ⟨rfl, rfl, funext fun j => wR_o (Or.inl hb)⟩) (fun j hj => ⟨rfl, rfl, wR_o (Or.inr hj)⟩)
    have hv : iv ad (sv (wR M a k v) a k 2) = .ref (ad v) := by
      show iv ad (.ref (mR (wR M a k v) a k)) = _
      rw [wR_s]; exact iv_ref v0
    rw [hv] at hset
    refine va_putF hx hb hts hin ty0 hty hnmf hown hK hP hD hS (a - 1) he hc k h8.2.1 (hts _ hw) (fun _ z => z) hfin (hnm.trans hini) hdecl (ty := .object Cf) hti rfl rfl (by unfold eo; simp; exact h8.2.2.1) hd (fun H1 locs1 p1 p2 p3 => ?_)
    rw [hset] at p1 p2
    exact kx H1 locs1 p1 p2 p3
  · exact h.elim
theorem ok_putRFA {tf0 : FieldType} {c k idx : Nat} {Cn : String} {T : u_T} {N : Nat} (ty0 : Nat → FieldType) (hty : ∀ k, k < N → parseFieldDescriptor (T k).2.2.1 = some (ty0 k)) (hnmf : ∀ a, a < N → ∀ b, b < N → a ≠ b → (T a).2.1 ≠ (T b).2.1) (hc : vwCl[c]? = some (Cn, T, N)) (hin : ∀ w ∈ u_ws Cn T N, w ∈ wB) (h8 : c < 8 ∧ k < N ∧ k < (tf c).length ∧ (tf c).getD k 0 = 2) (hfin : (T k).2.2.2 = true) (hini : q.1.name = "<init>") (hdecl : (T k).1 = q.1.cls) (hti : parseFieldDescriptor (T k).2.2.1 = some (.array tf0)) (hw : Cond.fieldLink q.1.cls idx (T k).1 (T k).2.1 (T k).2.2.1 ∈ wB) (hd : decode q.2.1 pc = .ok (.putfield idx, 3)) : OK l X q d na b pc (oPR pc c k) := by
  intro kn kr ls st M hk h
  simp only [oPR] at h
  split at h
  · rename_i v a st
    obtain ⟨h0, h⟩ := condT h
    obtain ⟨h0, v1⟩ := Bool.and_eq_true_iff.mp h0
    obtain ⟨v0, v1⟩ := Bool.and_eq_true_iff.mp v1
    have v0 : 0 < v := Nat.le_of_ble_eq_true v0
    have v1 := Nat.le_of_ble_eq_true v1
    obtain ⟨a0, a1, a2⟩ := kk_of h0
    refine Wf.mem (M' := wR M a k v) rfl (fun z b j => by
      show (if b = a ∧ j = k then v else M.2.2.2 b j) ≤ mN M
      split
      · exact v1
      · exact z b j) (fun p e R s m args below meth c' H locs cells slots Q D g ad A la hx hb hown hts hK hnm hml g1 g2 hP hD hS kx => ?_) (hk _ _ _ _ h)
    rw [List.map_cons, List.map_cons, iv_ref a0, iv_ref v0]
    have he := wl_at (g := g) (ad := ad) a0 a1
    rw [en_o a2 h8.1] at he
    have hset := put_wl (g := g) (ad := ad) (M := M) (M' := wR M a k v) (k := k) rfl a0 a1 a2 h8.1 h8.2.2.1 h8.2.2.2 (fun b hb => ⟨rfl, rfl, funext fun j => wR_o (Or.inl hb)⟩) (fun j hj => ⟨rfl, rfl, wR_o (Or.inr hj)⟩)
    have hv : iv ad (sv (wR M a k v) a k 2) = .ref (ad v) := by
      show iv ad (.ref (mR (wR M a k v) a k)) = _
      rw [wR_s]; exact iv_ref v0
    rw [hv] at hset
    refine va_putF hx hb hts hin ty0 hty hnmf hown hK hP hD hS (a - 1) he hc k h8.2.1 (hts _ hw) (fun _ z => z) hfin (hnm.trans hini) hdecl (ty := .array tf0) hti rfl rfl (by unfold eo; simp; exact h8.2.2.1) hd (fun H1 locs1 p1 p2 p3 => ?_)
    rw [hset] at p1 p2
    exact kx H1 locs1 p1 p2 p3
  · exact h.elim
/-! arrays -/
theorem vinj {j N : Nat} (h : j < 1000) (h2 : j < N) : vp_in (nI j) N ∧ (nI j).toNatClampNeg = j :=
  ⟨fun z => z.elim (nI_pos (by omega)) (fun z => by rw [nI_clamp (by omega)] at z; omega), nI_clamp (by omega)⟩
def oIal (pc : Nat) : OP := fun kn _ ls st M => match st with
  | .int i :: .ref a :: st => cond (kk M a 9) (∃ j : Nat, (i = nI j ∧ j < 1000 ∧ j < (mK M a).2) ∧ kn (pc + 1) ls (.int (mI M a j) :: st) M) False
  | _ => False
def oBal (pc : Nat) : OP := fun kn _ ls st M => match st with
  | .int i :: .ref a :: st => cond (kk M a 8) (∃ j : Nat, (i = nI j ∧ j < 1000 ∧ j < (mK M a).2) ∧ kn (pc + 1) ls (.int (mI M a j) :: st) M) False
  | _ => False
def oLal (pc : Nat) : OP := fun kn _ ls st M => match st with
  | .int i :: .ref a :: st => cond (kk M a 10) (∃ j : Nat, (i = nI j ∧ j < 1000 ∧ j < (mK M a).2) ∧ kn (pc + 1) ls (.long (mL M a j) :: st) M) False
  | _ => False
def oAal (pc c : Nat) : OP := fun kn _ ls st M => match st with
  | .int i :: .ref a :: st => cond (kk M a c) (∃ j : Nat, (i = nI j ∧ j < 1000 ∧ j < (mK M a).2) ∧ kn (pc + 1) ls (.ref (mR M a j) :: st) M) False
  | _ => False
theorem ok_iaload (hd : decode q.2.1 pc = .ok (.iaload, 1)) : OK l X q d na b pc (oIal pc) := by
  intro kn kr ls st M hk h
  simp only [oIal] at h
  split at h
  · rename_i i a st
    obtain ⟨h0, j0, ⟨rfl, j1, j2⟩, h9⟩ := condT h
    clear h
    have h := h9
    clear h9
    obtain ⟨h1, j3⟩ := vinj j1 j2
    rw [← j3] at h
    generalize nI j0 = i at h h1 j3 ⊢
    obtain ⟨a0, a1, a2⟩ := kk_of h0
    refine Wf.mem rfl id (fun p e R s m args below meth c' H locs cells slots Q D g ad A la hx hb hown hts hK hnm hml g1 g2 hP hD hS kx => ?_) (hk _ _ _ _ h)
    rw [List.map_cons, List.map_cons, iv_ref a0]
    have he := wl_at (g := g) (ad := ad) a0 a1
    rw [en_i a2] at he
    exact va_iald hx hb hK hP (a - 1) 1 he rfl h1 hd (kx H locs hP hD hS)
  · exact h.elim
theorem ok_baload (hd : decode q.2.1 pc = .ok (.baload, 1)) : OK l X q d na b pc (oBal pc) := by
  intro kn kr ls st M hk h
  simp only [oBal] at h
  split at h
  · rename_i i a st
    obtain ⟨h0, j0, ⟨rfl, j1, j2⟩, h9⟩ := condT h
    clear h
    have h := h9
    clear h9
    obtain ⟨h1, j3⟩ := vinj j1 j2
    rw [← j3] at h
    generalize nI j0 = i at h h1 j3 ⊢
    obtain ⟨a0, a1, a2⟩ := kk_of h0
    refine Wf.mem rfl id (fun p e R s m args below meth c' H locs cells slots Q D g ad A la hx hb hown hts hK hnm hml g1 g2 hP hD hS kx => ?_) (hk _ _ _ _ h)
    rw [List.map_cons, List.map_cons, iv_ref a0]
    have he := wl_at (g := g) (ad := ad) a0 a1
    rw [en_b a2] at he
    exact va_bald hx hb hK hP (a - 1) 0 he rfl h1 hd (kx H locs hP hD hS)
  · exact h.elim
theorem ok_laload (hd : decode q.2.1 pc = .ok (.laload, 1)) : OK l X q d na b pc (oLal pc) := by
  intro kn kr ls st M hk h
  simp only [oLal] at h
  split at h
  · rename_i i a st
    obtain ⟨h0, j0, ⟨rfl, j1, j2⟩, h9⟩ := condT h
    clear h
    have h := h9
    clear h9
    obtain ⟨h1, j3⟩ := vinj j1 j2
    rw [← j3] at h
    generalize nI j0 = i at h h1 j3 ⊢
    obtain ⟨a0, a1, a2⟩ := kk_of h0
    refine Wf.mem rfl id (fun p e R s m args below meth c' H locs cells slots Q D g ad A la hx hb hown hts hK hnm hml g1 g2 hP hD hS kx => ?_) (hk _ _ _ _ h)
    rw [List.map_cons, List.map_cons, iv_ref a0]
    have he := wl_at (g := g) (ad := ad) a0 a1
    rw [en_j a2] at he
    exact va_lald hx hb hK hP (a - 1) 2 he rfl h1 hd (kx H locs hP hD hS)
  · exact h.elim
theorem ok_aaloadM (hd : decode q.2.1 pc = .ok (.aaload, 1)) : OK l X q d na b pc (oAal pc 11) := by
  intro kn kr ls st M hk h
  simp only [oAal] at h
  split at h
  · rename_i i a st
    obtain ⟨h0, j0, ⟨rfl, j1, j2⟩, h9⟩ := condT h
    clear h
    have h := h9
    clear h9
    obtain ⟨h1, j3⟩ := vinj j1 j2
    rw [← j3] at h
    generalize nI j0 = i at h h1 j3 ⊢
    obtain ⟨a0, a1, a2⟩ := kk_of h0
    refine Wf.mem rfl id (fun p e R s m args below meth c' H locs cells slots Q D g ad A la hx hb hown hts hK hnm hml g1 g2 hP hD hS kx => ?_) (hk _ _ _ _ h)
    rw [List.map_cons, List.map_cons, iv_ref a0]
    have he := wl_at (g := g) (ad := ad) a0 a1
    rw [en_q a2 (by decide)] at he
    have hlt : i.toNatClampNeg < (mK M a).2 := Nat.not_le.mp fun z => h1 (Or.inr z)
    have kx := kx H locs hP hD hS
    rw [List.map_cons, ← er_rf] at kx
    exact W.aald (v := va_rf (er ad M a i.toNatClampNeg)) (ty := .object RX2) hx hb (hP (a - 1) _ he) ((hK.2 3 _ rfl).1 (mK M a).2 (fun j => va_rf (er ad M a j))) rfl (fun z => by cases z) (by show ¬ (i < 0 ∨ (arrV _ _ _).slots.size ≤ _); rw [arrV_size]; exact h1) (by show (arrV _ _ _).slots[_]? = _; rw [arrV_read _ _ hlt]) rfl rfl hd kx
  · exact h.elim
theorem ok_aaloadI (hd : decode q.2.1 pc = .ok (.aaload, 1)) : OK l X q d na b pc (oAal pc 12) := by
  intro kn kr ls st M hk h
  simp only [oAal] at h
  split at h
  · rename_i i a st
    obtain ⟨h0, j0, ⟨rfl, j1, j2⟩, h9⟩ := condT h
    clear h
    have h := h9
    clear h9
    obtain ⟨h1, j3⟩ := vinj j1 j2
    rw [← j3] at h
    generalize nI j0 = i at h h1 j3 ⊢
    obtain ⟨a0, a1, a2⟩ := kk_of h0
    refine Wf.mem rfl id (fun p e R s m args below meth c' H locs cells slots Q D g ad A la hx hb hown hts hK hnm hml g1 g2 hP hD hS kx => ?_) (hk _ _ _ _ h)
    rw [List.map_cons, List.map_cons, iv_ref a0]
    have he := wl_at (g := g) (ad := ad) a0 a1
    rw [en_q a2 (by decide)] at he
    have hlt : i.toNatClampNeg < (mK M a).2 := Nat.not_le.mp fun z => h1 (Or.inr z)
    have kx := kx H locs hP hD hS
    rw [List.map_cons, ← er_rf] at kx
    exact W.aald (v := va_rf (er ad M a i.toNatClampNeg)) (ty := .array .int) hx hb (hP (a - 1) _ he) ((hK.2 4 _ rfl).1 (mK M a).2 (fun j => va_rf (er ad M a j))) rfl (fun z => by cases z) (by show ¬ (i < 0 ∨ (arrV _ _ _).slots.size ≤ _); rw [arrV_size]; exact h1) (by show (arrV _ _ _).slots[_]? = _; rw [arrV_read _ _ hlt]) rfl rfl hd kx
  · exact h.elim
/-- an array's new place: the world of the new memory -/
theorem ast_wl {g : Nat → ClassId} {ad : Nat → Nat} {M M' : Mm} {a : Nat} {e : va_E} (h1 : M'.1 = M.1) (a0 : 0 < a) (a1 : a ≤ mN M) (ho : ∀ b, b ≠ a → mI M' b = mI M b ∧ mL M' b = mL M b ∧ mR M' b = mR M b) (he : en g ad M' a = e) : (wl g ad M).set (a - 1) (ad a, e) = wl g ad M' := by
  have hK : ∀ b, mK M' b = mK M b := fun b => congrFun (congrArg (fun x => x.2.2.2) h1) b
  rw [← he]
  exact wl_set a0 a1 (congrArg (fun x => x.1) h1) (fun b hb => en_same (hK b) (ho b hb).1 (ho b hb).2.1 (ho b hb).2.2)
theorem wI_upd {M : Mm} {a i : Nat} {v : Int32} : mI (wI M a i v) a = upd (mI M a) i v := by
  funext j
  show (if a = a ∧ j = i then v else M.2.1 a j) = if j = i then v else M.2.1 a j
  by_cases hj : j = i
  · rw [if_pos ⟨rfl, hj⟩, if_pos hj]
  · rw [if_neg (fun z => hj z.2), if_neg hj]
theorem wL_upd {M : Mm} {a i : Nat} {v : Int64} : mL (wL M a i v) a = vp_updL (mL M a) i v := by
  funext j
  show (if a = a ∧ j = i then v else M.2.2.1 a j) = if j = i then v else M.2.2.1 a j
  by_cases hj : j = i
  · rw [if_pos ⟨rfl, hj⟩, if_pos hj]
  · rw [if_neg (fun z => hj z.2), if_neg hj]
def oIas (pc : Nat) : OP := fun kn _ ls st M => match st with
  | .int v :: .int i :: .ref a :: st => cond (kk M a 9) (∃ j : Nat, (i = nI j ∧ j < 1000 ∧ j < (mK M a).2) ∧ kn (pc + 1) ls st (wI M a j v)) False
  | _ => False
def oBas (pc : Nat) : OP := fun kn _ ls st M => match st with
  | .int v :: .int i :: .ref a :: st => cond (kk M a 8) (∃ j : Nat, (i = nI j ∧ j < 1000 ∧ j < (mK M a).2) ∧ kn (pc + 1) ls st (wI M a j v.toInt8.toInt32)) False
  | _ => False
def oLas (pc : Nat) : OP := fun kn _ ls st M => match st with
  | .long v :: .int i :: .ref a :: st => cond (kk M a 10) (∃ j : Nat, (i = nI j ∧ j < 1000 ∧ j < (mK M a).2) ∧ kn (pc + 1) ls st (wL M a j v)) False
  | _ => False
def oAas (pc : Nat) : OP := fun kn _ ls st M => match st with
  | .ref v :: .int i :: .ref a :: st => cond (kk M a 11 && kk M v 2) (∃ j : Nat, (i = nI j ∧ j < 1000 ∧ j < (mK M a).2) ∧ kn (pc + 1) ls st (wR M a j v)) False
  | _ => False
theorem ok_iastore (hd : decode q.2.1 pc = .ok (.iastore, 1)) : OK l X q d na b pc (oIas pc) := by
  intro kn kr ls st M hk h
  simp only [oIas] at h
  split at h
  · rename_i v i a st
    obtain ⟨h0, j0, ⟨rfl, j1, j2⟩, h9⟩ := condT h
    clear h
    have h := h9
    clear h9
    obtain ⟨h1, j3⟩ := vinj j1 j2
    rw [← j3] at h
    generalize nI j0 = i at h h1 j3 ⊢
    obtain ⟨a0, a1, a2⟩ := kk_of h0
    refine Wf.mem (M' := wI M a i.toNatClampNeg v) rfl id (fun p e R s m args below meth c' H locs cells slots Q D g ad A la hx hb hown hts hK hnm hml g1 g2 hP hD hS kx => ?_) (hk _ _ _ _ h)
    rw [List.map_cons, List.map_cons, List.map_cons, iv_ref a0]
    have he := wl_at (g := g) (ad := ad) a0 a1
    rw [en_i a2] at he
    refine va_iast hx hb hK hP hD hS (a - 1) 1 he rfl h1 hd (fun H1 locs1 p1 p2 p3 => ?_)
    have hset := ast_wl (g := g) (ad := ad) (M := M) (M' := wI M a i.toNatClampNeg v) (e := .inl (g 9, (mK M a).2, .inl (upd (mI M a) i.toNatClampNeg v))) rfl a0 a1 (fun b hb => ⟨funext fun j => wI_o (Or.inl hb), rfl, rfl⟩) (by rw [en_i (M := wI M a i.toNatClampNeg v) a2, wI_upd]; rfl)
    rw [hset] at p1 p2
    exact kx H1 locs1 p1 p2 p3
  · exact h.elim
theorem ok_bastore (hd : decode q.2.1 pc = .ok (.bastore, 1)) : OK l X q d na b pc (oBas pc) := by
  intro kn kr ls st M hk h
  simp only [oBas] at h
  split at h
  · rename_i v i a st
    obtain ⟨h0, j0, ⟨rfl, j1, j2⟩, h9⟩ := condT h
    clear h
    have h := h9
    clear h9
    obtain ⟨h1, j3⟩ := vinj j1 j2
    rw [← j3] at h
    generalize nI j0 = i at h h1 j3 ⊢
    obtain ⟨a0, a1, a2⟩ := kk_of h0
    refine Wf.mem (M' := wI M a i.toNatClampNeg v.toInt8.toInt32) rfl id (fun p e R s m args below meth c' H locs cells slots Q D g ad A la hx hb hown hts hK hnm hml g1 g2 hP hD hS kx => ?_) (hk _ _ _ _ h)
    rw [List.map_cons, List.map_cons, List.map_cons, iv_ref a0]
    have he := wl_at (g := g) (ad := ad) a0 a1
    rw [en_b a2] at he
    refine va_bast hx hb hK hP hD hS (a - 1) 0 he rfl h1 hd (fun H1 locs1 p1 p2 p3 => ?_)
    have hset := ast_wl (g := g) (ad := ad) (M := M) (M' := wI M a i.toNatClampNeg v.toInt8.toInt32) (e := .inl (g 8, (mK M a).2, .inl (upd (mI M a) i.toNatClampNeg (vp_nar .byte v)))) rfl a0 a1 (fun b hb => ⟨funext fun j => wI_o (Or.inl hb), rfl, rfl⟩) (by rw [en_b (M := wI M a i.toNatClampNeg v.toInt8.toInt32) a2, wI_upd]; rfl)
    rw [hset] at p1 p2
    exact kx H1 locs1 p1 p2 p3
  · exact h.elim
theorem ok_lastore (hd : decode q.2.1 pc = .ok (.lastore, 1)) : OK l X q d na b pc (oLas pc) := by
  intro kn kr ls st M hk h
  simp only [oLas] at h
  split at h
  · rename_i v i a st
    obtain ⟨h0, j0, ⟨rfl, j1, j2⟩, h9⟩ := condT h
    clear h
    have h := h9
    clear h9
    obtain ⟨h1, j3⟩ := vinj j1 j2
    rw [← j3] at h
    generalize nI j0 = i at h h1 j3 ⊢
    obtain ⟨a0, a1, a2⟩ := kk_of h0
    refine Wf.mem (M' := wL M a i.toNatClampNeg v) rfl id (fun p e R s m args below meth c' H locs cells slots Q D g ad A la hx hb hown hts hK hnm hml g1 g2 hP hD hS kx => ?_) (hk _ _ _ _ h)
    rw [List.map_cons, List.map_cons, List.map_cons, iv_ref a0]
    have he := wl_at (g := g) (ad := ad) a0 a1
    rw [en_j a2] at he
    refine va_last hx hb hK hP hD hS (a - 1) 2 he rfl h1 hd (fun H1 locs1 p1 p2 p3 => ?_)
    have hset := ast_wl (g := g) (ad := ad) (M := M) (M' := wL M a i.toNatClampNeg v) (e := .inl (g 10, (mK M a).2, .inr (.inl (vp_updL (mL M a) i.toNatClampNeg v)))) rfl a0 a1 (fun b hb => ⟨rfl, funext fun j => wL_o (Or.inl hb), rfl⟩) (by rw [en_j (M := wL M a i.toNatClampNeg v) a2, wL_upd]; rfl)
    rw [hset] at p1 p2
    exact kx H1 locs1 p1 p2 p3
  · exact h.elim
theorem ok_aastore (hd : decode q.2.1 pc = .ok (.aastore, 1)) : OK l X q d na b pc (oAas pc) := by
  intro kn kr ls st M hk h
  simp only [oAas] at h
  split at h
  · rename_i v i a st
    obtain ⟨h0, j0, ⟨rfl, j1, j2⟩, h9⟩ := condT h
    clear h
    have h := h9
    clear h9
    obtain ⟨h1, j3⟩ := vinj j1 j2
    rw [← j3] at h
    generalize nI j0 = i at h h1 j3 ⊢
    obtain ⟨h0, hv⟩ := Bool.and_eq_true_iff.mp h0
    obtain ⟨a0, a1, a2⟩ := kk_of h0
    obtain ⟨v0, v1, v2⟩ := kk_of hv
    refine Wf.mem (M' := wR M a i.toNatClampNeg v) rfl (fun z b j => by
      show (if b = a ∧ j = i.toNatClampNeg then v else M.2.2.2 b j) ≤ mN M
      split
      · exact v1
      · exact z b j) (fun p e R s m args below meth c' H locs cells slots Q D g ad A la hx hb hown hts hK hnm hml g1 g2 hP hD hS kx => ?_) (hk _ _ _ _ h)
    rw [List.map_cons, List.map_cons, List.map_cons, iv_ref a0, iv_ref v0]
    have he := wl_at (g := g) (ad := ad) a0 a1
    rw [en_q a2 (by decide)] at he
    have hev := wl_at (g := g) (ad := ad) v0 v1
    rw [en_o v2 (by decide)] at hev
    refine va_astq (r := (RX2, TX2, 6)) hx hb hK hP hD hS (a - 1) 3 (v - 1) 2 he rfl hev rfl h1 hd (fun H1 locs1 p1 p2 p3 => ?_)
    have hset := ast_wl (g := g) (ad := ad) (M := M) (M' := wR M a i.toNatClampNeg v) (e := .inl (g 11, (mK M a).2, .inr (.inr (.inr (.inr (va_up (er ad M a) i.toNatClampNeg (some (ad v)))))))) rfl a0 a1 (fun b hb => ⟨rfl, rfl, funext fun j => wR_o (Or.inl hb)⟩) ?_
    · rw [hset] at p1 p2
      exact kx H1 locs1 p1 p2 p3
    · rw [en_q (M := wR M a i.toNatClampNeg v) a2 (by decide)]
      have e2 : er ad (wR M a i.toNatClampNeg v) a = va_up (er ad M a) i.toNatClampNeg (some (ad v)) := by
        funext j
        unfold er va_up
        by_cases hj : j = i.toNatClampNeg
        · rw [if_pos hj, hj, wR_s]
          cases v with
          | zero => exact absurd v0 (Nat.lt_irrefl 0)
          | succ n => rfl
        · rw [if_neg hj, wR_o (Or.inr hj)]
      rw [e2]
      rfl
  · exact h.elim
/-! the script -/
def oScd (X : Nat × (Nat → Int32)) (pc : Nat) : OP := fun kn _ ls st M => match st with
  | .int i :: .ref 4999 :: st => vp_in i X.1 ∧ kn (pc + 1) ls (.int (X.2 i.toNatClampNeg) :: st) M
  | _ => False
def oScl (X : Nat × (Nat → Int32)) (pc : Nat) : OP := fun kn _ ls st M => match st with
  | .ref 4999 :: st => kn (pc + 1) ls (.int (Int32.ofNat X.1) :: st) M
  | _ => False
theorem ok_scd (hd : decode q.2.1 pc = .ok (.iaload, 1)) : OK l X q d na b pc (oScd X pc) := by
  intro kn kr ls st M hk h
  simp only [oScd] at h
  split at h
  · intro p e R s m args below meth c Q D g ad0 A n0 S0 c0 s0 ad H locs la hf g1 g2 g3 g4 g5 g6 g7 g8 hr hl hk2
    obtain ⟨k1, k2, k3⟩ := hf.2.2.2.2.2.2.2.2.2.2.2.2.2.2.2
    have ea : ad 4999 = ad0 4999 := hr.2.2.2.2.2.2.1 4999 (Or.inr (Nat.le_refl _))
    rw [List.map_cons, List.map_cons, iv_ref (by decide), ea]
    exact va_sld hf.1 hf.2.1 k1 k2 k3 hr.2.2.1 h.1 hd (hk _ _ _ _ h.2 p e R s m args below meth c Q D g ad0 A n0 S0 c0 s0 ad H locs la hf g1 g2 g3 g4 g5 g6 g7 g8 hr hl hk2)
  · exact h.elim
theorem ok_scl (hd : decode q.2.1 pc = .ok (.arraylength, 1)) : OK l X q d na b pc (oScl X pc) := by
  intro kn kr ls st M hk h
  simp only [oScl] at h
  split at h
  · intro p e R s m args below meth c Q D g ad0 A n0 S0 c0 s0 ad H locs la hf g1 g2 g3 g4 g5 g6 g7 g8 hr hl hk2
    obtain ⟨k1, k2, k3⟩ := hf.2.2.2.2.2.2.2.2.2.2.2.2.2.2.2
    have ea : ad 4999 = ad0 4999 := hr.2.2.2.2.2.2.1 4999 (Or.inr (Nat.le_refl _))
    rw [List.map_cons, iv_ref (by decide), ea]
    exact va_slen hf.1 hf.2.1 k1 k2 k3 hr.2.2.1 hd (hk _ _ _ _ h p e R s m args below meth c Q D g ad0 A n0 S0 c0 s0 ad H locs la hf g1 g2 g3 g4 g5 g6 g7 g8 hr hl hk2)
  · exact h.elim
end MEM
end
section
section CALLS
variable {l : Launch} {X : Nat × (Nat → Int32)} {q : Md} {d : Nat} {na : Bool} {b : Nat × Nat} {pc : Nat}
def pn : Nat → List Value → List Value → Option (List Value × List Value)
  | 0, st, acc => some (acc, st)
  | n + 1, st, acc => match st with
    | [] => none
    | v :: t => pn n t (v :: acc)
theorem pn_of : ∀ {n : Nat} {st acc av rest : List Value}, pn n st acc = some (av, rest) → ∃ as : List Value, av = as ++ acc ∧ as.length = n ∧ st = as.reverse ++ rest
  | 0, st, acc, av, rest, h => by
    cases h
    exact ⟨[], rfl, rfl, rfl⟩
  | n + 1, [], acc, av, rest, h => by cases h
  | n + 1, v :: t, acc, av, rest, h => by
    obtain ⟨as, h1, h2, h3⟩ := pn_of (n := n) (st := t) (acc := v :: acc) h
    refine ⟨as ++ [v], ?_, ?_, ?_⟩
    · rw [h1]; simp
    · simp [h2]
    · rw [h3]; simp
theorem pn_0 {n : Nat} {st av rest : List Value} (h : pn n st [] = some (av, rest)) : av.length = n ∧ st = av.reverse ++ rest := by
  obtain ⟨as, h1, h2, h3⟩ := pn_of h
  rw [List.append_nil] at h1
  subst h1
  exact ⟨h2, h3⟩
def cs : List Value → Nat
  | [] => 0
  | v :: t => v.category + cs t
theorem cs_of (ad : Nat → Nat) : ∀ st : List Value, ((st.map (iv ad)).map fun v => v.category).sum = cs st
  | [] => rfl
  | v :: t => by
    rw [List.map_cons, List.map_cons, List.sum_cons, cs_of ad t, iv_cat]
    rfl
theorem wB_good {q' : Md} (h : Cond.code q'.1 q'.2.1 q'.2.2.1 q'.2.2.2 ∈ wB) : GoodIn wB (wz q') := by
  have hb : ∀ w ∈ wB, w ∈ wB ∧ ((w.onTables && w.keeps) = true ∨ ∃ ty, w = .arrayClass ty) := fun w hw => ⟨hw, good_of_word (List.mem_filter.mp hw).2⟩
  intro w hw
  rcases List.mem_cons.mp hw with e | hw
  · rw [e]; exact hb _ h
  · exact hb w hw
theorem pz_pre {D : va_G} {g : Nat → ClassId} {ad : Nat → Nat} {A : Nat → Prop} {av : List Value} {M : Mm} {s : State} {H : Heap} (hP : va_P D vwCl (wl g ad M) H) (hD : va_D A (wl g ad M)) (hA : ∀ a, H.size ≤ a → A a) (hk : kO M) (hn : mN M ≤ 4000) (hs : sx D g ad X A s H) :
    FrameBlind (pz D g ad X A av M) ∧ ∀ U : State, U.heap = H → s.WarmedH U.vm → pz D g ad X A av M (av.map (iv ad)).toArray U := by
  refine ⟨fun a U g' mk z => ?_, fun U hU hW => ⟨rfl, by rw [hU]; exact hP, hD, by rw [hU]; exact hA, hk, hn, by rw [hU]; exact sx_warm hW hs⟩⟩
  obtain ⟨z1, z2, z3, z4, z5, z6, z7⟩ := z
  exact ⟨z1, z2, z3, z4, z5, z6, sx_same rfl z7⟩
/-- a call that makes nothing -/
theorem Wf.call {kr kr' : KR} {ls : Ls} {st rest : List Value} {M : Mm} (hk : ∀ r M', kr' r M' → Wf l X q (d + 1) na b (pc + 3) ls (r.toList ++ rest) M' kr)
    (h : ∀ (p : Program) (e : Env) (R : Room) (s : State) (m : MethodId) (args : Array Value) (below : List Frame) (meth : Method) (c : Code) (H : Heap) (locs : List Loc) (cells slots : Nat) (D : va_G) (g : Nat → ClassId) (ad : Nat → Nat) (A : Nat → Prop) (la : Array Slot), p.tables.exec = Jvm.exec → c.code = q.2.1 → c.maxLocals = q.2.2.1 → la.size = q.2.2.1 → s.vm.findClass q.1.cls = some m.cls → (∀ w ∈ wB, w.before args s = true) → d + 1 ≤ R.frames → 64 * (d + 1) ≤ R.locals → cells + 0 ≤ R.cells ∧ slots + 0 ≤ R.slots → va_K D vwCl (tz g) s → (∀ x ∈ wN, va_Nw (.methodLinkNest x.1 x.2.1 x.2.2 RX6) s) → ks ad A s H → va_P D vwCl (wl g ad M) H → (∀ av, FrameBlind (pz D g ad X A av M) ∧ ∀ U : State, U.heap = H → s.WarmedH U.vm → pz D g ad X A av M (av.map (iv ad)).toArray U) →
      ∃ a0 : Array Value, va_Run p l e R s m args below meth c H locs cells slots 0 0 (F0 m pc la (st.map (iv ad))) (rest.map (iv ad)) (qz D g ad A true M kr' a0) A) :
    Wf l X q (d + 1) na b pc ls st M kr := by
  intro p e R s m args below meth c Q D g ad0 A n0 S0 c0 s0 ad H locs la hf g1 g2 g3 g4 g5 g6 g7 g8 hr hl hk2
  obtain ⟨r1, r2, r3, r4, r5, r6, r7, r8⟩ := hr
  have hs := sx_kept (sx_ad (ad' := ad) (fun n hn => r7 n (Or.inr hn)) hf.2.2.2.2.2.2.2.2.2) r3.1 r3.2.1
  have hA := hf.2.2.2.2.2.2.2.2.1
  obtain ⟨a0, hrun⟩ := h p e R s m args below meth c H locs (mC M - c0) (mS M - s0) D g ad A la hf.1 hf.2.1 hf.2.2.1 hl.1 hf.2.2.2.2.2.1 hf.2.2.2.2.2.2.2.1 g1 g2 (by omega) hs.1 hs.2.1 hs.2.2.2.1 r1 (fun av => pz_pre r1 r2 (fun a ha => hA a (Nat.le_trans r3.1 ha)) r4 r6 hs)
  intro T hT Xs
  obtain ⟨v, st₀, t, T', L, h0, X', hL, e1, e2, hq, stp⟩ := hrun T hT Xs
  obtain ⟨r, M', ad', o1, o2, o3, o4, o5, o6, o7, o8, o9, o10⟩ := hq
  obtain ⟨rfl, hM⟩ := o3 rfl
  have ev : v = r.map (iv ad') := by cases o1; rfl
  subst ev
  have eN : mN M' = mN M := congrArg (fun x => x.1) hM
  have eC : mC M' = mC M := congrArg (fun x => x.2.1) hM
  have eS : mS M' = mS M := congrArg (fun x => x.2.2.1) hM
  have hS' : va_S A s.heap t.heap (locs ++ L) := by
    obtain ⟨z1, z2⟩ := o10
    rw [h0] at z1 z2
    exact ⟨Nat.le_trans r3.1 z1, fun a ha hA' => by rw [z2 a (Nat.lt_of_lt_of_le ha r3.1) hA']; exact r3.2.1 a ha hA', fun x hx => by
      rcases List.mem_append.mp hx with z | z
      · exact r3.2.2 x z
      · exact hL x z⟩
  have hw := hk r M' o2 p e R s m args below meth c Q D g ad0 A n0 S0 c0 s0 ad' t.heap (locs ++ L) la hf g1 g2 g3 g4 (by rw [eC]; exact g5) (by rw [eS]; exact g6) (by rw [eC]; exact g7) (by rw [eS]; exact g8) ⟨o8, o9, hS', o7, by rw [eN]; exact r5, by rw [eN]; exact r6, r7, fun z => ⟨(r8 z).1, hM.trans (r8 z).2⟩⟩ hl hk2
  rw [eC, eS] at hw
  obtain ⟨t2, a1, b1⟩ := hw T' e1 X'
  refine ⟨t2, stp t2 ?_, b1⟩
  have es : (r.toList ++ rest).map (iv ad') = (r.map (iv ad')).toList ++ rest.map (iv ad') := by cases r <;> simp
  rw [es] at a1
  exact a1
/-! the calls -/
def oCv (l : Launch) (X : Nat × (Nat → Int32)) (d pc : Nat) (q' : Md) (c n : Nat) : OP := fun kn _ ls st M => match pn (n + 1) st [] with
  | some (.ref a :: as, rest) => cond (kk M a c && Nat.ble (cs rest) 8) (Ev l X q' d true 0 0 (.ref a :: as) M (fun r M' => kn (pc + 3) ls (r.toList ++ rest) M')) False
  | _ => False
def oCs (l : Launch) (X : Nat × (Nat → Int32)) (d pc : Nat) (q' : Md) (n : Nat) : OP := fun kn _ ls st M => match pn n st [] with
  | some (as, rest) => cond (Nat.ble (cs rest) 8) (Ev l X q' d true 0 0 as M (fun r M' => kn (pc + 3) ls (r.toList ++ rest) M')) False
  | _ => False
theorem ok_cv {q' : Md} {c n idx : Nat} {T : u_T} {N : Nat} (hW : cV q' n) (hc : vwCl[c]? = some (q'.1.cls, T, N)) (h8 : c < 8) (hw : Cond.methodLink q.1.cls idx q'.1 ∈ wB) (hd : decode q.2.1 pc = .ok (.invokevirtual idx, 3)) : OK l X q (d + 1) na b pc (oCv l X d pc q' c n) := by
  intro kn kr ls st M hk h
  simp only [oCv] at h
  split at h
  · rename_i a as rest e0
    obtain ⟨h0, h⟩ := condT h
    obtain ⟨h0, h1⟩ := Bool.and_eq_true_iff.mp h0
    obtain ⟨a0, a1, a2⟩ := kk_of h0
    have h1 := Nat.le_of_ble_eq_true h1
    obtain ⟨n1, n2⟩ := pn_0 e0
    refine Wf.call (rest := rest) (kr' := fun r M' => kn (pc + 3) ls (r.toList ++ rest) M') (fun r M' z => hk _ _ _ _ z) (fun p e R s m args below meth c' H locs cells slots D g ad A la hx hb hml hla hown hts g1 g2 g3 hK hN hks hP hp => ?_)
    have he := wl_at (g := g) (ad := ad) a0 a1
    rw [en_o a2 h8] at he
    have hR : (rz d 0 0).frames + 1 ≤ R.frames ∧ 8 + (q'.2.2.1 + 11) + (rz d 0 0).locals ≤ R.locals := ⟨g1, by have := hW.1.2.2.2; show 8 + (q'.2.2.1 + 11) + 64 * d ≤ _; omega⟩
    refine ⟨_, va_runV (As := as.map (iv ad)) (rest := rest.map (iv ad)) (b := ad a) (C := q'.1.cls) ⟨hx, hb, hml, hown, hts⟩ (h D g ad A) ⟨callB_of n hts (wB_good hW.1.1) rfl rfl rfl (hts _ hW.1.2.1) (hts _ hw) hW.1.2.2.1 hR, hts _ hW.2.1, hts _ hW.2.2⟩ ⟨(hp _).1, va_recv hK hP hc he, fun U hU hW' => ?_⟩ rfl (by rw [List.length_map]; simpa using n1) hla ?_ (lv_room (by rw [cs_of]; exact h1)) hd g3⟩
    · have := (hp (.ref a :: as)).2 U hU hW'
      rw [List.map_cons, iv_ref a0] at this
      exact this
    · show st.map (iv ad) = _
      rw [n2, ← iv_ref a0]
      simp
  · exact h.elim
theorem ok_cs {q' : Md} {n idx : Nat} (hW : cT q' n) (hw : Cond.methodLink q.1.cls idx q'.1 ∈ wB) (hd : decode q.2.1 pc = .ok (.invokestatic idx, 3)) : OK l X q (d + 1) na b pc (oCs l X d pc q' n) := by
  intro kn kr ls st M hk h
  simp only [oCs] at h
  split at h
  · rename_i as rest e0
    obtain ⟨h1, h⟩ := condT h
    have h1 := Nat.le_of_ble_eq_true h1
    obtain ⟨n1, n2⟩ := pn_0 e0
    refine Wf.call (rest := rest) (kr' := fun r M' => kn (pc + 3) ls (r.toList ++ rest) M') (fun r M' z => hk _ _ _ _ z) (fun p e R s m args below meth c' H locs cells slots D g ad A la hx hb hml hla hown hts g1 g2 g3 hK hN hks hP hp => ?_)
    have hR : (rz d 0 0).frames + 1 ≤ R.frames ∧ 8 + (q'.2.2.1 + 11) + (rz d 0 0).locals ≤ R.locals := ⟨g1, by have := hW.1.2.2.2; show 8 + (q'.2.2.1 + 11) + 64 * d ≤ _; omega⟩
    refine ⟨_, va_runS (As := as.map (iv ad)) (rest := rest.map (iv ad)) ⟨hx, hb, hml, hown, hts⟩ (h D g ad A) ⟨callB_of n hts (wB_good hW.1.1) rfl rfl rfl (hts _ hW.1.2.1) (hts _ hw) hW.1.2.2.1 hR, hts _ hW.2⟩ (hp _) rfl (by rw [List.length_map]; exact n1) hla ?_ (lv_room (by rw [cs_of]; exact h1)) hd g3⟩
    show st.map (iv ad) = _
    rw [n2]
    simp
  · exact h.elim
/-- a nest mate's static method -/
theorem ok_csN {q' : Md} {n idx : Nat} (hW : cT q' n) (hw : (q.1.cls, idx, q'.1) ∈ wN) (hd : decode q.2.1 pc = .ok (.invokestatic idx, 3)) : OK l X q (d + 1) na b pc (oCs l X d pc q' n) := by
  intro kn kr ls st M hk h
  simp only [oCs] at h
  split at h
  · rename_i as rest e0
    obtain ⟨h1, h⟩ := condT h
    have h1 := Nat.le_of_ble_eq_true h1
    obtain ⟨n1, n2⟩ := pn_0 e0
    refine Wf.call (rest := rest) (kr' := fun r M' => kn (pc + 3) ls (r.toList ++ rest) M') (fun r M' z => hk _ _ _ _ z) (fun p e R s m args below meth c' H locs cells slots D g ad A la hx hb hml hla hown hts g1 g2 g3 hK hN hks hP hp => ?_)
    have hR : (rz d 0 0).frames + 1 ≤ R.frames ∧ 8 + (q'.2.2.1 + 11) + (rz d 0 0).locals ≤ R.locals := ⟨g1, by have := hW.1.2.2.2; show 8 + (q'.2.2.1 + 11) + 64 * d ≤ _; omega⟩
    refine ⟨_, va_runSN (As := as.map (iv ad)) (rest := rest.map (iv ad)) ⟨hx, hb, hml, hown, hts⟩ (h D g ad A) ⟨va_cnB n hts (wB_good hW.1.1) rfl rfl rfl (hN _ hw) (hts _ hW.1.2.1) hW.1.2.2.1 hR, hts _ hW.2, trivial⟩ (hp _) rfl (by rw [List.length_map]; exact n1) hla ?_ (lv_room (by rw [cs_of]; exact h1)) hd g3⟩
    show st.map (iv ad) = _
    rw [n2]
    simp
  · exact h.elim
/-- a String constant's method -/
def oCq (l : Launch) (X : Nat × (Nat → Int32)) (d pc : Nat) (q' : Md) (n : Nat) : OP := fun kn _ ls st M => match pn (n + 1) st [] with
  | some (.ref a :: as, rest) => cond (Nat.ble (cs rest) 8) (5000 ≤ a ∧ a < 5042 ∧ Ev l X q' d true 0 0 (.ref a :: as) M (fun r M' => kn (pc + 3) ls (r.toList ++ rest) M')) False
  | _ => False
theorem ok_cq {q' : Md} {n idx : Nat} (hW : cV q' n) (hcl : q'.1.cls = "java/lang/String") (hw : Cond.methodLink q.1.cls idx q'.1 ∈ wB) (hd : decode q.2.1 pc = .ok (.invokevirtual idx, 3)) : OK l X q (d + 1) na b pc (oCq l X d pc q' n) := by
  intro kn kr ls st M hk h
  simp only [oCq] at h
  split at h
  · rename_i a as rest e0
    obtain ⟨h1, b1, b2, h⟩ := condT h
    obtain ⟨a', ha⟩ : ∃ z : Nat, z = a := ⟨a, rfl⟩
    subst ha
    have a1 : 5000 ≤ a' := b1
    have a2 : a' < 5042 := b2
    have h1 := Nat.le_of_ble_eq_true h1
    have a0 : 0 < a' := by omega
    obtain ⟨n1, n2⟩ := pn_0 e0
    refine Wf.call (rest := rest) (kr' := fun r M' => kn (pc + 3) ls (r.toList ++ rest) M') (fun r M' z => hk _ _ _ _ z) (fun p e R s m args below meth c' H locs cells slots D g ad A la hx hb hml hla hown hts g1 g2 g3 hK hN hks hP hp => ?_)
    have hR : (rz d 0 0).frames + 1 ≤ R.frames ∧ 8 + (q'.2.2.1 + 11) + (rz d 0 0).locals ≤ R.locals := ⟨g1, by have := hW.1.2.2.2; show 8 + (q'.2.2.1 + 11) + 64 * d ≤ _; omega⟩
    obtain ⟨cell, c1, c2, c3, -⟩ := (hks (a' - 5000) (by omega)).1
    rw [show 5000 + (a' - 5000) = a' by omega] at c1
    refine ⟨_, va_runV (As := as.map (iv ad)) (rest := rest.map (iv ad)) (b := ad a') (C := q'.1.cls) ⟨hx, hb, hml, hown, hts⟩ (h D g ad A) ⟨callB_of n hts (wB_good hW.1.1) rfl rfl rfl (hts _ hW.1.2.1) (hts _ hw) hW.1.2.2.1 hR, hts _ hW.2.1, hts _ hW.2.2⟩ ⟨(hp _).1, ⟨cell, c1, c2, by rw [hcl]; exact c3⟩, fun U hU hW' => ?_⟩ rfl (by rw [List.length_map]; simpa using n1) hla ?_ (lv_room (by rw [cs_of]; exact h1)) hd g3⟩
    · have := (hp (.ref a' :: as)).2 U hU hW'
      rw [List.map_cons, iv_ref a0] at this
      exact this
    · show st.map (iv ad) = _
      rw [n2, ← iv_ref a0]
      simp
  · exact h.elim
end CALLS
end
section
section MORE
variable {l : Launch} {X : Nat × (Nat → Int32)} {q : Md} {d : Nat} {na : Bool} {b : Nat × Nat} {pc : Nat}
/-! String constants -/
def oSc (pc n i : Nat) : OP := fun kn _ ls st M => kn (pc + n) ls (.ref (5000 + i) :: st) M
theorem va_ldcwS {p : Program} {e : Env} {R : Room} {s : State} {m : MethodId} {args : Array Value} {below : List Frame} {meth : Method} {c : Code} {T : State} {locs : List Loc} {cells slots : Nat} (Xs : Stand p l e R s m args below meth c T locs cells slots) (hexec : p.tables.exec = Jvm.exec) {own text : String} {index : Nat} {a : Addr} (hown : s.vm.findClass own = some m.cls)
    (hconst : (Cond.stringRef own index text).before args s = true) (hev : (Term.string own index).eval args s none [] s = some (.ref a)) {g : JFrame} (hg : g.method = m) (hdg : decode c.code g.pc = .ok (.ldc_w index, 3)) :
    ∀ target, Steps p.tables e below (T.setTop { g with pc := g.pc + 3, stack := .ref a :: g.stack }) target → Steps p.tables e below (T.setTop g) target := by
  obtain ⟨k, cf, i, a', hk, hcf, hcp, -, hr, hev'⟩ := Cond.stringRef_spec hown hconst
  cases hev.symm.trans hev'
  obtain ⟨k', hk', he⟩ := Xs.warmed.alike.2.2 _ _ hk
  have hr' : k'.resolved[index]? = some (some (.string a)) := by
    rcases Xs.warmed.entry hk hk' index with h | ⟨h, -⟩
    · rw [h]; exact hr
    · rw [hr] at h; cases h
  intro target hrest
  subst hg
  jvm_step Xs.here [hexec, hdg, ldc_w.wp_string (e := e) (s := T) (f := g) Xs.here.top hk' (by rw [he]; exact hcf) hcp hr']
  exact hrest
theorem ok_sc {i idx : Nat} {tx : String} (hw : (q.1.cls, idx, tx, i) ∈ tQ) (hd : decode q.2.1 pc = .ok (.ldc idx, 2)) : OK l X q d na b pc (oSc pc 2 i) := by
  intro kn kr ls st M hk h p e R s m args below meth c Q D g ad0 A n0 S0 c0 s0 ad H locs la hf g1 g2 g3 g4 g5 g6 g7 g8 hr hl hk2
  have hZ := hf.2.2.2.2.2.2.2.2.2.2.2.2.2.1 _ hw
  have ea : ad (5000 + i) = ad0 (5000 + i) := hr.2.2.2.2.2.2.1 _ (Or.inr (by omega))
  have hW := hk _ _ _ _ h p e R s m args below meth c Q D g ad0 A n0 S0 c0 s0 ad H locs la hf g1 g2 g3 g4 g5 g6 g7 g8 hr hl hk2
  rw [List.map_cons, iv_ref (by omega), ea] at hW
  exact va_ldcS hf.1 hf.2.1 hf.2.2.2.2.2.1 hZ hd hW
theorem ok_scw {i idx : Nat} {tx : String} (hw : (q.1.cls, idx, tx, i) ∈ tQ) (hd : decode q.2.1 pc = .ok (.ldc_w idx, 3)) : OK l X q d na b pc (oSc pc 3 i) := by
  intro kn kr ls st M hk h p e R s m args below meth c Q D g ad0 A n0 S0 c0 s0 ad H locs la hf g1 g2 g3 g4 g5 g6 g7 g8 hr hl hk2
  have hZ := hf.2.2.2.2.2.2.2.2.2.2.2.2.2.1 _ hw
  have ea : ad (5000 + i) = ad0 (5000 + i) := hr.2.2.2.2.2.2.1 _ (Or.inr (by omega))
  have hW := hk _ _ _ _ h p e R s m args below meth c Q D g ad0 A n0 S0 c0 s0 ad H locs la hf g1 g2 g3 g4 g5 g6 g7 g8 hr hl hk2
  rw [List.map_cons, iv_ref (by omega), ea] at hW
  intro T hT Xs
  obtain ⟨t, a1, b1⟩ := hW T hT Xs
  exact ⟨t, va_ldcwS Xs hf.1 hf.2.2.2.2.2.1 (text := tx) hZ.1 hZ.2 (g := F0 m pc la (st.map (iv ad))) rfl (by rw [hf.2.1]; exact hd) t a1, b1⟩
/-! System.arraycopy between rows of ints -/
def oAc (pc : Nat) : OP := fun kn _ ls st M => match st with
  | .int n :: .int dp :: .ref a1 :: .int sp :: .ref a0 :: st => cond (kk M a0 9 && (kk M a1 9 && Nat.ble (cs st) 8)) (∃ x y z : Nat, (sp = nI x ∧ dp = nI y ∧ n = nI z ∧ x < 1000 ∧ y < 1000 ∧ z < 1000 ∧ x + z ≤ (mK M a0).2 ∧ y + z ≤ (mK M a1).2) ∧ kn (pc + 3) ls st (wF M a1 (va_cpy (mI M a0) (mI M a1) x y z))) False
  | _ => False
theorem ok_ac {idx : Nat} (hnat : Cond.native arraycopyName ∈ wB) (hst : Cond.static arraycopyName ∈ wB) (hini : Cond.initialized "java/lang/System" ∈ wB) (hw : Cond.methodLink q.1.cls idx arraycopyName ∈ wB) (hd : decode q.2.1 pc = .ok (.invokestatic idx, 3)) : OK l X q (d + 1) na b pc (oAc pc) := by
  intro kn kr ls st M hk h
  simp only [oAc] at h
  split at h
  · rename_i n9 dp9 a1 sp9 a0 st
    obtain ⟨h0, x, y, z, ⟨rfl, rfl, rfl, x1, y1, z1, h4, h5⟩, h9⟩ := condT h
    clear h
    have h := h9
    clear h9
    have h1 : ¬ nI x < 0 := nI_pos (by omega)
    have h2 : ¬ nI y < 0 := nI_pos (by omega)
    have h3 : ¬ nI z < 0 := nI_pos (by omega)
    have ex : (nI x).toNatClampNeg = x := nI_clamp (by omega)
    have ey : (nI y).toNatClampNeg = y := nI_clamp (by omega)
    have ez : (nI z).toNatClampNeg = z := nI_clamp (by omega)
    rw [← ex, ← ez] at h4
    rw [← ey, ← ez] at h5
    rw [← ex, ← ey, ← ez] at h
    generalize nI x = sp at h h1 h4 ex ⊢
    generalize nI y = dp at h h2 h5 ey ⊢
    generalize nI z = n at h h3 h4 h5 ez ⊢
    obtain ⟨h0, h6⟩ := Bool.and_eq_true_iff.mp h0
    obtain ⟨h6, h7⟩ := Bool.and_eq_true_iff.mp h6
    have h7 := Nat.le_of_ble_eq_true h7
    obtain ⟨p0, p1, p2⟩ := kk_of h0
    obtain ⟨q0, q1, q2⟩ := kk_of h6
    refine Wf.mem (M' := wF M a1 (va_cpy (mI M a0) (mI M a1) sp.toNatClampNeg dp.toNatClampNeg n.toNatClampNeg)) rfl id (fun p e R s m args below meth c' H locs cells slots Q D g ad A la hx hb hown hts hK hnm hml g1 g2 hP hD hS kx => ?_) (hk _ _ _ _ h)
    rw [List.map_cons, List.map_cons, List.map_cons, List.map_cons, List.map_cons, iv_ref p0, iv_ref q0]
    have he0 := wl_at (g := g) (ad := ad) p0 p1
    rw [en_i p2] at he0
    have he1 := wl_at (g := g) (ad := ad) q0 q1
    rw [en_i q2] at he1
    refine va_copyi hx hb hml hown (hts _ hw) (hts _ hnat) (hts _ hst) (hts _ hini) hK hP hD hS (a0 - 1) (a1 - 1) 1 1 he0 he1 rfl rfl rfl h1 h2 h3 h4 h5 (fun _ _ => rfl) (by omega) ?_ hd (fun H1 locs1 r1 r2 r3 => ?_)
    · rw [cs_of]
      have e5 : nativeFrameWords "java/lang/System" "arraycopy" 5 ≤ 40 := by decide +kernel
      omega
    · have hset := ast_wl (g := g) (ad := ad) (M := M) (M' := wF M a1 (va_cpy (mI M a0) (mI M a1) sp.toNatClampNeg dp.toNatClampNeg n.toNatClampNeg)) (e := .inl (g 9, (mK M a1).2, .inl (va_cpy (mI M a0) (mI M a1) sp.toNatClampNeg dp.toNatClampNeg n.toNatClampNeg))) rfl q0 q1 (fun b hb => ⟨funext fun j => wF_o hb, rfl, rfl⟩) (by rw [en_i (M := wF M a1 _) q2, wF_s]; rfl)
      rw [hset] at r1 r2
      exact kx H1 locs1 r1 r2 r3
  · exact h.elim
end MORE
end
section
theorem acN : Cond.native arraycopyName ∈ wB := wB_of 700 (by decide +kernel) (by decide +kernel)
theorem acS : Cond.static arraycopyName ∈ wB := wB_of 699 (by decide +kernel) (by decide +kernel)
theorem acI : Cond.initialized "java/lang/System" ∈ wB := wB_of 141 (by decide +kernel) (by decide +kernel)
theorem maX1_49 : Cond.methodLink RX1 49 arraycopyName ∈ wB := wB_of 911 (by decide +kernel) (by decide +kernel)
theorem maX2_27 : Cond.methodLink RX2 27 arraycopyName ∈ wB := wB_of 698 (by decide +kernel) (by decide +kernel)
end
section
/-! the memory behind the constructors: 1 the close, 2 its reader, 7 and 20 the plans, 33 now, 38 kept, 39 images, 40 the course, 41 ways, 43 matching, 54 wetOn, 55 + 5 i the kept moments, 135 + 5 j the images, 150 the reference, 167 out -/
def K0 (a : Nat) : Nat × Nat := cond (Nat.ble a 83) (cond (Nat.ble a 41) (cond (Nat.ble a 20) (cond (Nat.ble a 10) (cond (Nat.ble a 5) (cond (Nat.ble a 2) (cond (Nat.ble a 1) (cond (Nat.ble a 0) ((0, 0)) ((6, 0))) ((4, 0))) (cond (Nat.ble a 4) (cond (Nat.ble a 3) ((8, 900)) ((10, 15))) ((9, 15)))) (cond (Nat.ble a 8) (cond (Nat.ble a 7) (cond (Nat.ble a 6) ((9, 15)) ((3, 0))) ((9, 6))) (cond (Nat.ble a 9) ((9, 6)) ((9, 6))))) (cond (Nat.ble a 15) (cond (Nat.ble a 13) (cond (Nat.ble a 12) (cond (Nat.ble a 11) ((9, 6)) ((9, 6))) ((9, 5))) (cond (Nat.ble a 14) ((9, 5)) ((9, 5)))) (cond (Nat.ble a 18) (cond (Nat.ble a 17) (cond (Nat.ble a 16) ((9, 4)) ((9, 4))) ((9, 4))) (cond (Nat.ble a 19) ((9, 4)) ((3, 0)))))) (cond (Nat.ble a 31) (cond (Nat.ble a 26) (cond (Nat.ble a 23) (cond (Nat.ble a 22) (cond (Nat.ble a 21) ((9, 6)) ((9, 6))) ((9, 6))) (cond (Nat.ble a 25) (cond (Nat.ble a 24) ((9, 6)) ((9, 6))) ((9, 5)))) (cond (Nat.ble a 29) (cond (Nat.ble a 28) (cond (Nat.ble a 27) ((9, 5)) ((9, 5))) ((9, 4))) (cond (Nat.ble a 30) ((9, 4)) ((9, 4))))) (cond (Nat.ble a 36) (cond (Nat.ble a 34) (cond (Nat.ble a 33) (cond (Nat.ble a 32) ((9, 4)) ((2, 0))) ((9, 6))) (cond (Nat.ble a 35) ((9, 6)) ((9, 6)))) (cond (Nat.ble a 39) (cond (Nat.ble a 38) (cond (Nat.ble a 37) ((9, 5)) ((11, 16))) ((11, 3))) (cond (Nat.ble a 40) ((0, 0)) ((5, 0))))))) (cond (Nat.ble a 62) (cond (Nat.ble a 52) (cond (Nat.ble a 47) (cond (Nat.ble a 44) (cond (Nat.ble a 43) (cond (Nat.ble a 42) ((9, 20)) ((1, 0))) ((12, 6))) (cond (Nat.ble a 46) (cond (Nat.ble a 45) ((9, 5)) ((9, 5))) ((9, 5)))) (cond (Nat.ble a 50) (cond (Nat.ble a 49) (cond (Nat.ble a 48) ((9, 5)) ((9, 5))) ((9, 5))) (cond (Nat.ble a 51) ((9, 6)) ((9, 5))))) (cond (Nat.ble a 57) (cond (Nat.ble a 55) (cond (Nat.ble a 54) (cond (Nat.ble a 53) ((9, 5)) ((9, 61))) ((2, 0))) (cond (Nat.ble a 56) ((9, 6)) ((9, 6)))) (cond (Nat.ble a 60) (cond (Nat.ble a 59) (cond (Nat.ble a 58) ((9, 6)) ((9, 5))) ((2, 0))) (cond (Nat.ble a 61) ((9, 6)) ((9, 6)))))) (cond (Nat.ble a 73) (cond (Nat.ble a 68) (cond (Nat.ble a 65) (cond (Nat.ble a 64) (cond (Nat.ble a 63) ((9, 6)) ((9, 5))) ((2, 0))) (cond (Nat.ble a 67) (cond (Nat.ble a 66) ((9, 6)) ((9, 6))) ((9, 6)))) (cond (Nat.ble a 71) (cond (Nat.ble a 70) (cond (Nat.ble a 69) ((9, 5)) ((2, 0))) ((9, 6))) (cond (Nat.ble a 72) ((9, 6)) ((9, 6))))) (cond (Nat.ble a 78) (cond (Nat.ble a 76) (cond (Nat.ble a 75) (cond (Nat.ble a 74) ((9, 5)) ((2, 0))) ((9, 6))) (cond (Nat.ble a 77) ((9, 6)) ((9, 6)))) (cond (Nat.ble a 81) (cond (Nat.ble a 80) (cond (Nat.ble a 79) ((9, 5)) ((2, 0))) ((9, 6))) (cond (Nat.ble a 82) ((9, 6)) ((9, 6)))))))) (cond (Nat.ble a 125) (cond (Nat.ble a 104) (cond (Nat.ble a 94) (cond (Nat.ble a 89) (cond (Nat.ble a 86) (cond (Nat.ble a 85) (cond (Nat.ble a 84) ((9, 5)) ((2, 0))) ((9, 6))) (cond (Nat.ble a 88) (cond (Nat.ble a 87) ((9, 6)) ((9, 6))) ((9, 5)))) (cond (Nat.ble a 92) (cond (Nat.ble a 91) (cond (Nat.ble a 90) ((2, 0)) ((9, 6))) ((9, 6))) (cond (Nat.ble a 93) ((9, 6)) ((9, 5))))) (cond (Nat.ble a 99) (cond (Nat.ble a 97) (cond (Nat.ble a 96) (cond (Nat.ble a 95) ((2, 0)) ((9, 6))) ((9, 6))) (cond (Nat.ble a 98) ((9, 6)) ((9, 5)))) (cond (Nat.ble a 102) (cond (Nat.ble a 101) (cond (Nat.ble a 100) ((2, 0)) ((9, 6))) ((9, 6))) (cond (Nat.ble a 103) ((9, 6)) ((9, 5)))))) (cond (Nat.ble a 115) (cond (Nat.ble a 110) (cond (Nat.ble a 107) (cond (Nat.ble a 106) (cond (Nat.ble a 105) ((2, 0)) ((9, 6))) ((9, 6))) (cond (Nat.ble a 109) (cond (Nat.ble a 108) ((9, 6)) ((9, 5))) ((2, 0)))) (cond (Nat.ble a 113) (cond (Nat.ble a 112) (cond (Nat.ble a 111) ((9, 6)) ((9, 6))) ((9, 6))) (cond (Nat.ble a 114) ((9, 5)) ((2, 0))))) (cond (Nat.ble a 120) (cond (Nat.ble a 118) (cond (Nat.ble a 117) (cond (Nat.ble a 116) ((9, 6)) ((9, 6))) ((9, 6))) (cond (Nat.ble a 119) ((9, 5)) ((2, 0)))) (cond (Nat.ble a 123) (cond (Nat.ble a 122) (cond (Nat.ble a 121) ((9, 6)) ((9, 6))) ((9, 6))) (cond (Nat.ble a 124) ((9, 5)) ((2, 0))))))) (cond (Nat.ble a 146) (cond (Nat.ble a 136) (cond (Nat.ble a 131) (cond (Nat.ble a 128) (cond (Nat.ble a 127) (cond (Nat.ble a 126) ((9, 6)) ((9, 6))) ((9, 6))) (cond (Nat.ble a 130) (cond (Nat.ble a 129) ((9, 5)) ((2, 0))) ((9, 6)))) (cond (Nat.ble a 134) (cond (Nat.ble a 133) (cond (Nat.ble a 132) ((9, 6)) ((9, 6))) ((9, 5))) (cond (Nat.ble a 135) ((2, 0)) ((9, 6))))) (cond (Nat.ble a 141) (cond (Nat.ble a 139) (cond (Nat.ble a 138) (cond (Nat.ble a 137) ((9, 6)) ((9, 6))) ((9, 5))) (cond (Nat.ble a 140) ((2, 0)) ((9, 6)))) (cond (Nat.ble a 144) (cond (Nat.ble a 143) (cond (Nat.ble a 142) ((9, 6)) ((9, 6))) ((9, 5))) (cond (Nat.ble a 145) ((2, 0)) ((9, 6)))))) (cond (Nat.ble a 157) (cond (Nat.ble a 152) (cond (Nat.ble a 149) (cond (Nat.ble a 148) (cond (Nat.ble a 147) ((9, 6)) ((9, 6))) ((9, 5))) (cond (Nat.ble a 151) (cond (Nat.ble a 150) ((7, 0)) ((9, 900))) ((9, 8)))) (cond (Nat.ble a 155) (cond (Nat.ble a 154) (cond (Nat.ble a 153) ((9, 202)) ((9, 202))) ((9, 25))) (cond (Nat.ble a 156) ((9, 25)) ((9, 25))))) (cond (Nat.ble a 162) (cond (Nat.ble a 160) (cond (Nat.ble a 159) (cond (Nat.ble a 158) ((9, 400)) ((9, 75))) ((9, 5))) (cond (Nat.ble a 161) ((9, 25)) ((9, 5)))) (cond (Nat.ble a 165) (cond (Nat.ble a 164) (cond (Nat.ble a 163) ((9, 5)) ((9, 20))) ((9, 6))) (cond (Nat.ble a 166) ((9, 4)) ((10, 1))))))))
def R0_1 (p r k : Nat) : Nat := cond (Nat.beq k 0) 2 (cond (Nat.beq k 1) p (cond (Nat.beq k 2) (27 - p) (cond (Nat.beq k 3) 33 (cond (Nat.beq k 4) 38 (cond (Nat.beq k 7) 39 (cond (Nat.beq k 9) 40 (cond (Nat.beq k 10) 41 (cond (Nat.beq k 11) 43 (cond (Nat.beq k 12) 54 (0))))))))))
def R0_2 (p r k : Nat) : Nat := cond (Nat.beq k 0) 3 (cond (Nat.beq k 3) r (cond (Nat.beq k 9) 4 (cond (Nat.beq k 10) 5 (cond (Nat.beq k 11) 6 (0)))))
def R0_7 (p r k : Nat) : Nat := cond (Nat.beq k 5) 8 (cond (Nat.beq k 6) 9 (cond (Nat.beq k 7) 10 (cond (Nat.beq k 8) 11 (cond (Nat.beq k 9) 12 (cond (Nat.beq k 11) 13 (cond (Nat.beq k 12) 14 (cond (Nat.beq k 13) 15 (cond (Nat.beq k 15) 16 (cond (Nat.beq k 16) 17 (cond (Nat.beq k 18) 18 (cond (Nat.beq k 19) 19 (0))))))))))))
def R0_20 (p r k : Nat) : Nat := cond (Nat.beq k 5) 21 (cond (Nat.beq k 6) 22 (cond (Nat.beq k 7) 23 (cond (Nat.beq k 8) 24 (cond (Nat.beq k 9) 25 (cond (Nat.beq k 11) 26 (cond (Nat.beq k 12) 27 (cond (Nat.beq k 13) 28 (cond (Nat.beq k 15) 29 (cond (Nat.beq k 16) 30 (cond (Nat.beq k 18) 31 (cond (Nat.beq k 19) 32 (0))))))))))))
def R0_33 (p r k : Nat) : Nat := cond (Nat.beq k 0) 34 (cond (Nat.beq k 1) 35 (cond (Nat.beq k 2) 36 (cond (Nat.beq k 3) 37 (0))))
def R0_38 (p r k : Nat) : Nat := cond (Nat.blt k 16) (55 + 5 * k) 0
def R0_39 (p r k : Nat) : Nat := cond (Nat.blt k 3) (135 + 5 * k) 0
def R0_41 (p r k : Nat) : Nat := cond (Nat.beq k 0) 42 (0)
def R0_43 (p r k : Nat) : Nat := cond (Nat.beq k 0) 44 (cond (Nat.beq k 1) 51 (cond (Nat.beq k 2) 52 (cond (Nat.beq k 3) 53 (0))))
def R0_44 (p r k : Nat) : Nat := cond (Nat.blt k 6) (45 + k) 0
def R0_55 (p r k : Nat) : Nat := cond (Nat.beq k 0) 56 (cond (Nat.beq k 1) 57 (cond (Nat.beq k 2) 58 (cond (Nat.beq k 3) 59 (0))))
def R0_60 (p r k : Nat) : Nat := cond (Nat.beq k 0) 61 (cond (Nat.beq k 1) 62 (cond (Nat.beq k 2) 63 (cond (Nat.beq k 3) 64 (0))))
def R0_65 (p r k : Nat) : Nat := cond (Nat.beq k 0) 66 (cond (Nat.beq k 1) 67 (cond (Nat.beq k 2) 68 (cond (Nat.beq k 3) 69 (0))))
def R0_70 (p r k : Nat) : Nat := cond (Nat.beq k 0) 71 (cond (Nat.beq k 1) 72 (cond (Nat.beq k 2) 73 (cond (Nat.beq k 3) 74 (0))))
def R0_75 (p r k : Nat) : Nat := cond (Nat.beq k 0) 76 (cond (Nat.beq k 1) 77 (cond (Nat.beq k 2) 78 (cond (Nat.beq k 3) 79 (0))))
def R0_80 (p r k : Nat) : Nat := cond (Nat.beq k 0) 81 (cond (Nat.beq k 1) 82 (cond (Nat.beq k 2) 83 (cond (Nat.beq k 3) 84 (0))))
def R0_85 (p r k : Nat) : Nat := cond (Nat.beq k 0) 86 (cond (Nat.beq k 1) 87 (cond (Nat.beq k 2) 88 (cond (Nat.beq k 3) 89 (0))))
def R0_90 (p r k : Nat) : Nat := cond (Nat.beq k 0) 91 (cond (Nat.beq k 1) 92 (cond (Nat.beq k 2) 93 (cond (Nat.beq k 3) 94 (0))))
def R0_95 (p r k : Nat) : Nat := cond (Nat.beq k 0) 96 (cond (Nat.beq k 1) 97 (cond (Nat.beq k 2) 98 (cond (Nat.beq k 3) 99 (0))))
def R0_100 (p r k : Nat) : Nat := cond (Nat.beq k 0) 101 (cond (Nat.beq k 1) 102 (cond (Nat.beq k 2) 103 (cond (Nat.beq k 3) 104 (0))))
def R0_105 (p r k : Nat) : Nat := cond (Nat.beq k 0) 106 (cond (Nat.beq k 1) 107 (cond (Nat.beq k 2) 108 (cond (Nat.beq k 3) 109 (0))))
def R0_110 (p r k : Nat) : Nat := cond (Nat.beq k 0) 111 (cond (Nat.beq k 1) 112 (cond (Nat.beq k 2) 113 (cond (Nat.beq k 3) 114 (0))))
def R0_115 (p r k : Nat) : Nat := cond (Nat.beq k 0) 116 (cond (Nat.beq k 1) 117 (cond (Nat.beq k 2) 118 (cond (Nat.beq k 3) 119 (0))))
def R0_120 (p r k : Nat) : Nat := cond (Nat.beq k 0) 121 (cond (Nat.beq k 1) 122 (cond (Nat.beq k 2) 123 (cond (Nat.beq k 3) 124 (0))))
def R0_125 (p r k : Nat) : Nat := cond (Nat.beq k 0) 126 (cond (Nat.beq k 1) 127 (cond (Nat.beq k 2) 128 (cond (Nat.beq k 3) 129 (0))))
def R0_130 (p r k : Nat) : Nat := cond (Nat.beq k 0) 131 (cond (Nat.beq k 1) 132 (cond (Nat.beq k 2) 133 (cond (Nat.beq k 3) 134 (0))))
def R0_135 (p r k : Nat) : Nat := cond (Nat.beq k 0) 136 (cond (Nat.beq k 1) 137 (cond (Nat.beq k 2) 138 (cond (Nat.beq k 3) 139 (0))))
def R0_140 (p r k : Nat) : Nat := cond (Nat.beq k 0) 141 (cond (Nat.beq k 1) 142 (cond (Nat.beq k 2) 143 (cond (Nat.beq k 3) 144 (0))))
def R0_145 (p r k : Nat) : Nat := cond (Nat.beq k 0) 146 (cond (Nat.beq k 1) 147 (cond (Nat.beq k 2) 148 (cond (Nat.beq k 3) 149 (0))))
def R0_150 (p r k : Nat) : Nat := cond (Nat.beq k 1) 151 (cond (Nat.beq k 12) 152 (cond (Nat.beq k 15) 153 (cond (Nat.beq k 16) 154 (cond (Nat.beq k 17) 155 (cond (Nat.beq k 18) 156 (cond (Nat.beq k 19) 157 (cond (Nat.beq k 20) 158 (cond (Nat.beq k 21) 159 (cond (Nat.beq k 24) 160 (cond (Nat.beq k 25) 161 (cond (Nat.beq k 27) 162 (cond (Nat.beq k 28) 163 (cond (Nat.beq k 33) 164 (cond (Nat.beq k 34) 165 (cond (Nat.beq k 35) 166 (0))))))))))))))))
def R0 (p r a k : Nat) : Nat := cond (Nat.ble a 83) (cond (Nat.ble a 41) (cond (Nat.ble a 20) (cond (Nat.ble a 10) (cond (Nat.ble a 5) (cond (Nat.ble a 2) (cond (Nat.ble a 1) (cond (Nat.ble a 0) (0) (R0_1 p r k)) (R0_2 p r k)) (cond (Nat.ble a 4) (cond (Nat.ble a 3) (0) (0)) (0))) (cond (Nat.ble a 8) (cond (Nat.ble a 7) (cond (Nat.ble a 6) (0) (R0_7 p r k)) (0)) (cond (Nat.ble a 9) (0) (0)))) (cond (Nat.ble a 15) (cond (Nat.ble a 13) (cond (Nat.ble a 12) (cond (Nat.ble a 11) (0) (0)) (0)) (cond (Nat.ble a 14) (0) (0))) (cond (Nat.ble a 18) (cond (Nat.ble a 17) (cond (Nat.ble a 16) (0) (0)) (0)) (cond (Nat.ble a 19) (0) (R0_20 p r k))))) (cond (Nat.ble a 31) (cond (Nat.ble a 26) (cond (Nat.ble a 23) (cond (Nat.ble a 22) (cond (Nat.ble a 21) (0) (0)) (0)) (cond (Nat.ble a 25) (cond (Nat.ble a 24) (0) (0)) (0))) (cond (Nat.ble a 29) (cond (Nat.ble a 28) (cond (Nat.ble a 27) (0) (0)) (0)) (cond (Nat.ble a 30) (0) (0)))) (cond (Nat.ble a 36) (cond (Nat.ble a 34) (cond (Nat.ble a 33) (cond (Nat.ble a 32) (0) (R0_33 p r k)) (0)) (cond (Nat.ble a 35) (0) (0))) (cond (Nat.ble a 39) (cond (Nat.ble a 38) (cond (Nat.ble a 37) (0) (R0_38 p r k)) (R0_39 p r k)) (cond (Nat.ble a 40) (0) (R0_41 p r k)))))) (cond (Nat.ble a 62) (cond (Nat.ble a 52) (cond (Nat.ble a 47) (cond (Nat.ble a 44) (cond (Nat.ble a 43) (cond (Nat.ble a 42) (0) (R0_43 p r k)) (R0_44 p r k)) (cond (Nat.ble a 46) (cond (Nat.ble a 45) (0) (0)) (0))) (cond (Nat.ble a 50) (cond (Nat.ble a 49) (cond (Nat.ble a 48) (0) (0)) (0)) (cond (Nat.ble a 51) (0) (0)))) (cond (Nat.ble a 57) (cond (Nat.ble a 55) (cond (Nat.ble a 54) (cond (Nat.ble a 53) (0) (0)) (R0_55 p r k)) (cond (Nat.ble a 56) (0) (0))) (cond (Nat.ble a 60) (cond (Nat.ble a 59) (cond (Nat.ble a 58) (0) (0)) (R0_60 p r k)) (cond (Nat.ble a 61) (0) (0))))) (cond (Nat.ble a 73) (cond (Nat.ble a 68) (cond (Nat.ble a 65) (cond (Nat.ble a 64) (cond (Nat.ble a 63) (0) (0)) (R0_65 p r k)) (cond (Nat.ble a 67) (cond (Nat.ble a 66) (0) (0)) (0))) (cond (Nat.ble a 71) (cond (Nat.ble a 70) (cond (Nat.ble a 69) (0) (R0_70 p r k)) (0)) (cond (Nat.ble a 72) (0) (0)))) (cond (Nat.ble a 78) (cond (Nat.ble a 76) (cond (Nat.ble a 75) (cond (Nat.ble a 74) (0) (R0_75 p r k)) (0)) (cond (Nat.ble a 77) (0) (0))) (cond (Nat.ble a 81) (cond (Nat.ble a 80) (cond (Nat.ble a 79) (0) (R0_80 p r k)) (0)) (cond (Nat.ble a 82) (0) (0))))))) (cond (Nat.ble a 125) (cond (Nat.ble a 104) (cond (Nat.ble a 94) (cond (Nat.ble a 89) (cond (Nat.ble a 86) (cond (Nat.ble a 85) (cond (Nat.ble a 84) (0) (R0_85 p r k)) (0)) (cond (Nat.ble a 88) (cond (Nat.ble a 87) (0) (0)) (0))) (cond (Nat.ble a 92) (cond (Nat.ble a 91) (cond (Nat.ble a 90) (R0_90 p r k) (0)) (0)) (cond (Nat.ble a 93) (0) (0)))) (cond (Nat.ble a 99) (cond (Nat.ble a 97) (cond (Nat.ble a 96) (cond (Nat.ble a 95) (R0_95 p r k) (0)) (0)) (cond (Nat.ble a 98) (0) (0))) (cond (Nat.ble a 102) (cond (Nat.ble a 101) (cond (Nat.ble a 100) (R0_100 p r k) (0)) (0)) (cond (Nat.ble a 103) (0) (0))))) (cond (Nat.ble a 115) (cond (Nat.ble a 110) (cond (Nat.ble a 107) (cond (Nat.ble a 106) (cond (Nat.ble a 105) (R0_105 p r k) (0)) (0)) (cond (Nat.ble a 109) (cond (Nat.ble a 108) (0) (0)) (R0_110 p r k))) (cond (Nat.ble a 113) (cond (Nat.ble a 112) (cond (Nat.ble a 111) (0) (0)) (0)) (cond (Nat.ble a 114) (0) (R0_115 p r k)))) (cond (Nat.ble a 120) (cond (Nat.ble a 118) (cond (Nat.ble a 117) (cond (Nat.ble a 116) (0) (0)) (0)) (cond (Nat.ble a 119) (0) (R0_120 p r k))) (cond (Nat.ble a 123) (cond (Nat.ble a 122) (cond (Nat.ble a 121) (0) (0)) (0)) (cond (Nat.ble a 124) (0) (R0_125 p r k)))))) (cond (Nat.ble a 146) (cond (Nat.ble a 136) (cond (Nat.ble a 131) (cond (Nat.ble a 128) (cond (Nat.ble a 127) (cond (Nat.ble a 126) (0) (0)) (0)) (cond (Nat.ble a 130) (cond (Nat.ble a 129) (0) (R0_130 p r k)) (0))) (cond (Nat.ble a 134) (cond (Nat.ble a 133) (cond (Nat.ble a 132) (0) (0)) (0)) (cond (Nat.ble a 135) (R0_135 p r k) (0)))) (cond (Nat.ble a 141) (cond (Nat.ble a 139) (cond (Nat.ble a 138) (cond (Nat.ble a 137) (0) (0)) (0)) (cond (Nat.ble a 140) (R0_140 p r k) (0))) (cond (Nat.ble a 144) (cond (Nat.ble a 143) (cond (Nat.ble a 142) (0) (0)) (0)) (cond (Nat.ble a 145) (R0_145 p r k) (0))))) (cond (Nat.ble a 157) (cond (Nat.ble a 152) (cond (Nat.ble a 149) (cond (Nat.ble a 148) (cond (Nat.ble a 147) (0) (0)) (0)) (cond (Nat.ble a 151) (cond (Nat.ble a 150) (R0_150 p r k) (0)) (0))) (cond (Nat.ble a 155) (cond (Nat.ble a 154) (cond (Nat.ble a 153) (0) (0)) (0)) (cond (Nat.ble a 156) (0) (0)))) (cond (Nat.ble a 162) (cond (Nat.ble a 160) (cond (Nat.ble a 159) (cond (Nat.ble a 158) (0) (0)) (0)) (cond (Nat.ble a 161) (0) (0))) (cond (Nat.ble a 165) (cond (Nat.ble a 164) (cond (Nat.ble a 163) (0) (0)) (0)) (cond (Nat.ble a 166) (0) (0)))))))
def mk (w : Nat × Nat) (p r : Nat) (I : Nat → Nat → Int32) (L : Nat → Nat → Int64) : Mm := ((167, w.1, w.2, K0), I, L, R0 p r)
def u2 {α : Type} (I : Nat → Nat → α) (a i : Nat) (v : α) : Nat → Nat → α := fun b j => if b = a ∧ j = i then v else I b j
/-- a whole row -/
def u1 (I : Nat → Nat → Int32) (a : Nat) (f : Nat → Int32) : Nat → Nat → Int32 := fun b j => if b = a then f j else I b j
theorem u2_s {α : Type} {I : Nat → Nat → α} {a i : Nat} {v : α} : u2 I a i v a i = v := if_pos ⟨rfl, rfl⟩
theorem u2_o {α : Type} {I : Nat → Nat → α} {a i b j : Nat} {v : α} (h : ¬ (b = a ∧ j = i)) : u2 I a i v b j = I b j := if_neg h
theorem u2_oa {α : Type} {I : Nat → Nat → α} {a i b : Nat} {v : α} (h : b ≠ a) : u2 I a i v b = I b := funext fun j => if_neg (fun z => h z.1)
theorem u1_s {I : Nat → Nat → Int32} {a : Nat} {f : Nat → Int32} : u1 I a f a = f := funext fun j => if_pos rfl
theorem u1_o {I : Nat → Nat → Int32} {a b : Nat} {f : Nat → Int32} (h : b ≠ a) : u1 I a f b = I b := funext fun j => if_neg h
theorem mI_mk {w : Nat × Nat} {p r : Nat} {I : Nat → Nat → Int32} {L : Nat → Nat → Int64} {a i : Nat} : mI (mk w p r I L) a i = I a i := rfl
theorem mL_mk {w : Nat × Nat} {p r : Nat} {I : Nat → Nat → Int32} {L : Nat → Nat → Int64} {a i : Nat} : mL (mk w p r I L) a i = L a i := rfl
theorem wI_mk {w : Nat × Nat} {p r : Nat} {I : Nat → Nat → Int32} {L : Nat → Nat → Int64} {a i : Nat} {v : Int32} : wI (mk w p r I L) a i v = mk w p r (u2 I a i v) L := rfl
theorem wL_mk {w : Nat × Nat} {p r : Nat} {I : Nat → Nat → Int32} {L : Nat → Nat → Int64} {a i : Nat} {v : Int64} : wL (mk w p r I L) a i v = mk w p r I (u2 L a i v) := rfl
theorem wF_mk {w : Nat × Nat} {p r : Nat} {I : Nat → Nat → Int32} {L : Nat → Nat → Int64} {a : Nat} {f : Nat → Int32} : wF (mk w p r I L) a f = mk w p r (u1 I a f) L := rfl
theorem b1 {P N A B : Prop} (hn : ¬ N) (a : A) : (P → A) ∧ (N → B) := ⟨fun _ => a, fun z => absurd z hn⟩
theorem b2 {P N A B : Prop} (hp : ¬ P) (b : B) : (P → A) ∧ (N → B) := ⟨fun z => absurd z hp, fun _ => b⟩
/-- from the end of a loop back to its beginning -/
theorem down (P : Nat → Prop) (e : Nat) (he : P e) (h : ∀ i, i < e → P (i + 1) → P i) : ∀ i, i ≤ e → P i := by
  intro i hi
  obtain ⟨n, hn⟩ : ∃ n, i + n = e := ⟨e - i, by omega⟩
  induction n generalizing i with
  | zero => rw [show i = e by omega]; exact he
  | succ n ih => exact h i (by omega) (ih (i + 1) (by omega) (by omega))
end
section
/-! ALLOCATION: new names. (The row of multianewarray was written after reading what the library's own shelf does there; nothing of the shelf is used.) -/
section ALLOC
variable {l : Launch} {X : Nat × (Nat → Int32)} {q : Md} {d : Nat} {b : Nat × Nat} {pc : Nat}
/-- a value that is no name beyond n -/
def rk (n : Nat) (v : Value) : Bool := match v with
  | .ref a => Nat.ble a n || Nat.ble 4999 a
  | _ => true
theorem iv_rk {ad ad' : Nat → Nat} {n : Nat} (h : ∀ k, k ≤ n ∨ 4999 ≤ k → ad' k = ad k) : ∀ {v : Value}, rk n v = true → iv ad' v = iv ad v := by
  intro v hv
  cases v with
  | ref a =>
    have ha : a ≤ n ∨ 4999 ≤ a := by
      have hv : (Nat.ble a n || Nat.ble 4999 a) = true := hv
      rcases Bool.or_eq_true_iff.mp hv with z | z
      · exact Or.inl (Nat.le_of_ble_eq_true z)
      · exact Or.inr (Nat.le_of_ble_eq_true z)
    cases a with
    | zero => rfl
    | succ k => show Value.ref (ad' (k + 1)) = Value.ref (ad (k + 1)); rw [h _ ha]
  | _ => rfl
theorem ivs_rk {ad ad' : Nat → Nat} {n : Nat} (h : ∀ k, k ≤ n ∨ 4999 ≤ k → ad' k = ad k) {st : List Value} (hs : st.all (rk n) = true) : st.map (iv ad') = st.map (iv ad) :=
  List.map_congr_left fun v hv => iv_rk h (List.all_eq_true.mp hs v hv)
theorem lm_rk {ad ad' : Nat → Nat} {n : Nat} (h : ∀ k, k ≤ n ∨ 4999 ≤ k → ad' k = ad k) {ls : Ls} (hs : ls.all (fun x => rk n x.2) = true) : lm ad' ls = lm ad ls :=
  List.map_congr_left fun v hv => by rw [iv_rk h (List.all_eq_true.mp hs v hv)]
theorem eo_grow {ad ad' : Nat → Nat} {M M' : Mm} {a : Nat} {ts : List Nat} (hO : kO M) (h : ∀ k, k ≤ mN M ∨ 4999 ≤ k → ad' k = ad k) (h1 : mI M' a = mI M a) (h2 : mL M' a = mL M a) (h3 : mR M' a = mR M a) : eo ad' M' a ts = eo ad M a ts := by
  unfold eo
  refine List.map_congr_left fun k _ => ?_
  have e : sv M' a k (ts.getD k 0) = sv M a k (ts.getD k 0) := by unfold sv; rw [h1, h2, h3]
  rw [e]
  refine iv_rk h ?_
  unfold sv
  split
  · rfl
  · rfl
  · exact Bool.or_eq_true_iff.mpr (Or.inl (Nat.ble_eq_true_of_le (hO a k)))
theorem er_grow {ad ad' : Nat → Nat} {M M' : Mm} {a : Nat} (hO : kO M) (h : ∀ k, k ≤ mN M ∨ 4999 ≤ k → ad' k = ad k) (h3 : mR M' a = mR M a) : er ad' M' a = er ad M a := by
  funext i
  unfold er
  rw [h3]
  have := hO a i
  cases hm : mR M a i with
  | zero => rfl
  | succ n => show some (ad' (n + 1)) = some (ad (n + 1)); rw [h _ (Or.inl (by omega))]
theorem en_grow {g : Nat → ClassId} {ad ad' : Nat → Nat} {M M' : Mm} {a : Nat} (hO : kO M) (h : ∀ k, k ≤ mN M ∨ 4999 ≤ k → ad' k = ad k) (h0 : mK M' a = mK M a) (h1 : mI M' a = mI M a) (h2 : mL M' a = mL M a) (h3 : mR M' a = mR M a) : en g ad' M' a = en g ad M a := by
  unfold en
  rw [h0, h1, h2, eo_grow hO h h1 h2 h3, er_grow hO h h3]
/-- old names are as they were -/
def old (M M' : Mm) : Prop := ∀ a, a ≤ mN M → mK M' a = mK M a ∧ mI M' a = mI M a ∧ mL M' a = mL M a ∧ mR M' a = mR M a
theorem wl_grow {g : Nat → ClassId} {ad ad' : Nat → Nat} {M M' : Mm} {k : Nat} (hO : kO M) (h : ∀ k, k ≤ mN M ∨ 4999 ≤ k → ad' k = ad k) (hn : mN M' = mN M + k) (ho : old M M') : wl g ad' M' = wl g ad M ++ (List.range k).map (fun i => (ad' (mN M + 1 + i), en g ad' M' (mN M + 1 + i))) := by
  unfold wl
  rw [hn, List.range_add, List.map_append, List.map_map]
  congr 1
  · refine List.map_congr_left fun i hi => ?_
    have hi := List.mem_range.mp hi
    obtain ⟨z0, z1, z2, z3⟩ := ho (i + 1) (by omega)
    rw [h (i + 1) (Or.inl (by omega)), en_grow hO h z0 z1 z2 z3]
  · refine List.map_congr_left fun i _ => ?_
    show (ad' (mN M + i + 1), en g ad' M' (mN M + i + 1)) = _
    rw [show mN M + i + 1 = mN M + 1 + i by omega]
/-- a step that makes names -/
theorem Wf.alloc {kr : KR} {ls : Ls} {st st' : List Value} {M M' : Mm} {pc' : Nat} (hN : mN M ≤ mN M') (hN4 : mN M' ≤ 4000) (hC : mC M ≤ mC M') (hS : mS M ≤ mS M') (hCb : mC M' ≤ b.1) (hSb : mS M' ≤ b.2) (hkO : kO M → kO M') (hls : ls.all (fun x => rk (mN M) x.2) = true)
    (h : ∀ (p : Program) (e : Env) (R : Room) (s : State) (m : MethodId) (args : Array Value) (below : List Frame) (meth : Method) (c : Code) (H : Heap) (locs : List Loc) (cells slots : Nat) (Q : State → Prop) (D : va_G) (g : Nat → ClassId) (ad : Nat → Nat) (A : Nat → Prop) (la : Array Slot), p.tables.exec = Jvm.exec → c.code = q.2.1 → s.vm.findClass q.1.cls = some m.cls → (∀ w ∈ wB, w.before args s = true) → va_K D vwCl (tz g) s → ao g A s H → kO M → va_P D vwCl (wl g ad M) H → va_D A (wl g ad M) → va_S A s.heap H locs → (∀ a, s.heap.size ≤ a → A a) → cells + (mC M' - mC M) ≤ R.cells → slots + (mS M' - mS M) ≤ R.slots →
      (∀ (ad' : Nat → Nat) (H1 : Heap) (locs1 : List Loc), (∀ k, k ≤ mN M ∨ 4999 ≤ k → ad' k = ad k) → va_P D vwCl (wl g ad' M') H1 → va_D A (wl g ad' M') → va_S A s.heap H1 locs1 → W p l e R s m args below meth c H1 locs1 (cells + (mC M' - mC M)) (slots + (mS M' - mS M)) Q (F0 m pc' la (st'.map (iv ad')))) → W p l e R s m args below meth c H locs cells slots Q (F0 m pc la (st.map (iv ad))))
    (k : Wf l X q d false b pc' ls st' M' kr) : Wf l X q d false b pc ls st M kr := by
  intro p e R s m args below meth c Q D g ad0 A n0 S0 c0 s0 ad H locs la hf g1 g2 g3 g4 g5 g6 g7 g8 hr hl hk
  obtain ⟨r1, r2, r3, r4, r5, r6, r7, r8⟩ := hr
  refine h p e R s m args below meth c H locs (mC M - c0) (mS M - s0) Q D g ad A la hf.1 hf.2.1 hf.2.2.2.2.2.1 hf.2.2.2.2.2.2.2.1 hf.2.2.2.2.2.2.2.2.2.1 (hf.2.2.2.2.2.2.2.2.2.2.2.1.kept r3.2.1) r4 r1 r2 r3 hf.2.2.2.2.2.2.2.2.1 (by omega) (by omega) (fun ad' H1 locs1 ha p1 p2 p3 => ?_)
  have hl' : lv_has la q.2.2.1 (lm ad' ls) := by rw [lm_rk ha hls]; exact hl
  have := k p e R s m args below meth c Q D g ad0 A n0 S0 c0 s0 ad' H1 locs1 la hf g1 g2 g3 g4 (Nat.le_trans g5 hC) (Nat.le_trans g6 hS) hCb hSb ⟨p1, p2, p3, hkO r4, Nat.le_trans r5 hN, hN4, fun n hn => by
    rcases hn with hn | hn
    · rw [ha n (Or.inl (Nat.le_trans hn r5))]; exact r7 n (Or.inl hn)
    · rw [ha n (Or.inr hn)]; exact r7 n (Or.inr hn), fun z => by cases z⟩ hl' hk
  rw [show mC M' - c0 = mC M - c0 + (mC M' - mC M) by omega, show mS M' - s0 = mS M - s0 + (mS M' - mS M) by omega] at this
  exact this
/-- room for n slots, k names; nothing at hand is a new name -/
def ro (b : Nat × Nat) (M : Mm) (ls : Ls) (st : List Value) (k n : Nat) : Bool := Nat.ble (mN M + k) 4000 && (ls.all (fun x => rk (mN M) x.2) && (st.all (rk (mN M)) && (Nat.ble (mC M + k) b.1 && Nat.ble (mS M + n) b.2)))
theorem ro_of {b : Nat × Nat} {M : Mm} {ls : Ls} {st : List Value} {k n : Nat} (h : ro b M ls st k n = true) : mN M + k ≤ 4000 ∧ ls.all (fun x => rk (mN M) x.2) = true ∧ st.all (rk (mN M)) = true ∧ mC M + k ≤ b.1 ∧ mS M + n ≤ b.2 := by
  obtain ⟨h1, h⟩ := Bool.and_eq_true_iff.mp h
  obtain ⟨h2, h⟩ := Bool.and_eq_true_iff.mp h
  obtain ⟨h3, h⟩ := Bool.and_eq_true_iff.mp h
  obtain ⟨h4, h⟩ := Bool.and_eq_true_iff.mp h
  exact ⟨Nat.le_of_ble_eq_true h1, h2, h3, Nat.le_of_ble_eq_true h4, Nat.le_of_ble_eq_true h⟩
theorem wA_N {M : Mm} {k : Nat × Nat} {n : Nat} : mN (wA M k n) = mN M + 1 := rfl
theorem wA_C {M : Mm} {k : Nat × Nat} {n : Nat} : mC (wA M k n) = mC M + 1 := rfl
theorem wA_S {M : Mm} {k : Nat × Nat} {n : Nat} : mS (wA M k n) = mS M + n := rfl
theorem wA_old {M : Mm} {k : Nat × Nat} {n : Nat} : old M (wA M k n) := by
  intro a ha
  have hne : ¬ a = mN M + 1 := by omega
  refine ⟨if_neg hne, funext fun j => if_neg hne, funext fun j => if_neg hne, funext fun j => if_neg hne⟩
theorem wA_kO {M : Mm} {k : Nat × Nat} {n : Nat} (h : kO M) : kO (wA M k n) := by
  intro a i
  show (if a = mN M + 1 then 0 else M.2.2.2 a i) ≤ mN M + 1
  split
  · exact Nat.zero_le _
  · exact Nat.le_succ_of_le (h a i)
theorem wA_K {M : Mm} {k : Nat × Nat} {n : Nat} : mK (wA M k n) (mN M + 1) = k := if_pos rfl
theorem wA_I {M : Mm} {k : Nat × Nat} {n : Nat} : mI (wA M k n) (mN M + 1) = fun _ => 0 := funext fun _ => if_pos rfl
theorem wA_L {M : Mm} {k : Nat × Nat} {n : Nat} : mL (wA M k n) (mN M + 1) = fun _ => 0 := funext fun _ => if_pos rfl
theorem wA_R {M : Mm} {k : Nat × Nat} {n : Nat} : mR (wA M k n) (mN M + 1) = fun _ => 0 := funext fun _ => if_pos rfl
/-- the names and one more -/
def adn (ad : Nat → Nat) (n a : Nat) : Nat → Nat := fun k => if k = n then a else ad k
theorem adn_o {ad : Nat → Nat} {n a : Nat} (hn : n + 1 ≤ 4000) : ∀ k, k ≤ n ∨ 4999 ≤ k → adn ad (n + 1) a k = ad k := fun k hk => if_neg (by omega)
theorem adn_s {ad : Nat → Nat} {n a : Nat} : adn ad n a n = a := if_pos rfl
/-- one new name: the world of the new memory -/
theorem wl_1 {g : Nat → ClassId} {ad : Nat → Nat} {M : Mm} {k : Nat × Nat} {n a : Nat} {en0 : va_E} (hO : kO M) (hn : mN M + 1 ≤ 4000) (he : en g (adn ad (mN M + 1) a) (wA M k n) (mN M + 1) = en0) : wl g (adn ad (mN M + 1) a) (wA M k n) = wl g ad M ++ [(a, en0)] := by
  rw [wl_grow (k := 1) hO (adn_o hn) rfl wA_old]
  show _ ++ [(adn ad (mN M + 1) a (mN M + 1 + 0), en g (adn ad (mN M + 1) a) (wA M k n) (mN M + 1 + 0))] = _
  rw [Nat.add_zero, adn_s, he]
def oNew (b : Nat × Nat) (pc c n : Nat) : OP := fun kn _ ls st M => cond (ro b M ls st 1 n) (kn (pc + 3) ls (.ref (mN M + 1) :: st) (wA M (c, 0) n)) False
/-- a class's fields at the start -/
def z0 (c : Nat) : List Value := (tf c).map (fun t => match t with
  | 0 => .int 0
  | 1 => .long 0
  | _ => .null)
theorem eo_0 {ad : Nat → Nat} {M : Mm} {a c : Nat} (h1 : mI M a = fun _ => 0) (h2 : mL M a = fun _ => 0) (h3 : mR M a = fun _ => 0) : eo ad M a (tf c) = z0 c := by
  apply List.ext_getElem?
  intro i
  unfold eo z0
  rw [List.getElem?_map, List.getElem?_map]
  by_cases hl : i < (tf c).length
  · rw [List.getElem?_range hl, List.getElem?_eq_getElem hl]
    simp only [Option.map_some]
    have e : (tf c).getD i 0 = (tf c)[i] := by simp [List.getD, hl]
    rw [e]
    unfold sv
    rw [h1, h2, h3]
    generalize (tf c)[i] = t
    match t with
    | 0 => rfl
    | 1 => rfl
    | t + 2 => rfl
  · rw [List.getElem?_eq_none (by simp; omega), List.getElem?_eq_none (by omega)]
    rfl
theorem ok_new {c idx : Nat} {Cn : String} {T : u_T} {N : Nat} (ty0 : Nat → FieldType) (hty : ∀ k, k < N → parseFieldDescriptor (T k).2.2.1 = some (ty0 k)) (hc : vwCl[c]? = some (Cn, T, N)) (hin : ∀ w ∈ u_ws Cn T N, w ∈ wB) (h8 : c < 8) (hfs : ∀ j, j < N → defaultValue (ty0 j) = vp_V (z0 c) j) (hw : Cond.classLink q.1.cls idx Cn ∈ wB) (hi : Cond.instantiable Cn N ∈ wB) (hini : Cond.initialized Cn ∈ wB) (hd : decode q.2.1 pc = .ok (.new idx, 3)) : OK l X q d false b pc (oNew b pc c N) := by
  intro kn kr ls st M hk h
  obtain ⟨h0, h⟩ := condT h
  obtain ⟨n1, n2, n3, n4, n5⟩ := ro_of h0
  refine Wf.alloc (M' := wA M (c, 0) N) (by rw [wA_N]; omega) (by rw [wA_N]; omega) (by rw [wA_C]; omega) (by rw [wA_S]; omega) (by rw [wA_C]; omega) (by rw [wA_S]; omega) wA_kO n2 (fun p e R s m args below meth c' H locs cells slots Q D g ad A la hx hb hown hts hK hAO hO hP hD hS hA g1 g2 kx => ?_) (hk _ _ _ _ h)
  have eC : mC (wA M (c, 0) N) - mC M = 1 := by rw [wA_C]; omega
  have eS : mS (wA M (c, 0) N) - mS M = N := by rw [wA_S]; omega
  rw [eC] at g1 kx
  rw [eS] at g2 kx
  refine va_new (ci := c) (fs := z0 c) hx hb hts hin ty0 hty hown (hts _ hw) (hts _ hi) (hts _ hini) hK hP hD hS hA hc hfs g1 g2 hd (fun a H1 p1 d1 s1 => ?_)
  have ew := wl_1 (g := g) (ad := ad) (a := a) (k := (c, 0)) (n := N) hO n1 (en0 := .inr (c, z0 c)) (by rw [en_o (c := c) (by rw [wA_K]) h8, eo_0 wA_I wA_L wA_R])
  have := kx (adn ad (mN M + 1) a) H1 locs (adn_o n1) (by rw [ew]; exact p1) (by rw [ew]; exact d1) s1
  rw [List.map_cons, iv_ref (Nat.succ_pos _), adn_s, ivs_rk (adn_o n1) n3] at this
  exact this
def oNa (b : Nat × Nat) (pc k n : Nat) (v0 : Int32) : OP := fun kn _ ls st M => match st with
  | .int v :: st => cond (ro b M ls st 1 n) (v = v0 ∧ kn (pc + 2) ls (.ref (mN M + 1) :: st) (wA M (k, n) n)) False
  | _ => False
theorem ok_na {at0 : ArrayType} {k n : Nat} {v0 : Int32} {ty : FieldType} {a0 : vp_A} (hty : newarray.typeOf at0 = ty) (hk3 : k = 8 ∧ ty = .byte ∧ a0 = (n, .inl (fun _ => 0)) ∨ k = 9 ∧ ty = .int ∧ a0 = (n, .inl (fun _ => 0)) ∨ k = 10 ∧ ty = .long ∧ a0 = (n, .inr (.inl (fun _ => 0)))) (hv : ¬ v0 < 0 ∧ v0.toNatClampNeg = n ∧ n ≤ 1000) (hw : Cond.arrayClass (newarray.typeOf at0) ∈ wB) (hd : decode q.2.1 pc = .ok (.newarray at0, 2)) : OK l X q d false b pc (oNa b pc k n v0) := by
  intro kn kr ls st M hk h
  simp only [oNa] at h
  split at h
  · rename_i v st
    obtain ⟨h0, ev, hh⟩ := condT h
    subst ev
    obtain ⟨n1, n2, n3, n4, n5⟩ := ro_of h0
    refine Wf.alloc (M' := wA M (k, n) n) (by rw [wA_N]; omega) (by rw [wA_N]; omega) (by rw [wA_C]; omega) (by rw [wA_S]; omega) (by rw [wA_C]; omega) (by rw [wA_S]; omega) wA_kO n2 (fun p e R s m args below meth c' H locs cells slots Q D g ad A la hx hb hown hts hK hAO hO hP hD hS hA g1 g2 kx => ?_) (hk _ _ _ _ hh)
    have eC : mC (wA M (k, n) n) - mC M = 1 := by rw [wA_C]; omega
    have eS : mS (wA M (k, n) n) - mS M = n := by rw [wA_S]; omega
    rw [eC] at g1 kx
    rw [eS] at g2 kx
    have hcb : componentBytes ty ≤ 8 := by rcases hk3 with ⟨-, rfl, -⟩ | ⟨-, rfl, -⟩ | ⟨-, rfl, -⟩ <;> decide
    have hby : n * componentBytes ty ≤ 536870912 := Nat.le_trans (Nat.mul_le_mul hv.2.2 hcb) (by decide)
    refine va_newa (a0 := a0) hx hb (hts _ hw) hty hK hP hD hS hA (fun cA => ?_) hv.1 hv.2.1 hby g1 g2 hd (fun a cA H1 k1 p1 d1 s1 => ?_)
    · rcases hk3 with ⟨-, rfl, rfl⟩ | ⟨-, rfl, rfl⟩ | ⟨-, rfl, rfl⟩
      · exact vp_cell_i cA n _
      · exact vp_cell_i cA n _
      · exact vp_cell_l cA n _
    · have ecA : cA = g k := by
        have z := (k1.2 5 (cA, ty) rfl).2
        rcases hk3 with ⟨rfl, rfl, -⟩ | ⟨rfl, rfl, -⟩ | ⟨rfl, rfl, -⟩
        · exact Option.some.inj (z.symm.trans (hK.2 0 _ rfl).2)
        · exact Option.some.inj (z.symm.trans (hK.2 1 _ rfl).2)
        · exact Option.some.inj (z.symm.trans (hK.2 2 _ rfl).2)
      have ew := wl_1 (g := g) (ad := ad) (a := a) (k := (k, n)) (n := n) hO n1 (en0 := .inl (cA, a0)) (by
        rw [ecA]
        rcases hk3 with ⟨rfl, rfl, rfl⟩ | ⟨rfl, rfl, rfl⟩ | ⟨rfl, rfl, rfl⟩
        · rw [en_b (by rw [wA_K]), wA_K, wA_I]
        · rw [en_i (by rw [wA_K]), wA_K, wA_I]
        · rw [en_j (by rw [wA_K]), wA_K, wA_L])
      have := kx (adn ad (mN M + 1) a) H1 locs (adn_o n1) (by rw [ew]; exact p1) (by rw [ew]; exact d1) s1
      rw [List.map_cons, iv_ref (Nat.succ_pos _), adn_s, ivs_rk (adn_o n1) n3] at this
      exact this
  · exact h.elim
def oNq (b : Nat × Nat) (pc n : Nat) (v0 : Int32) : OP := fun kn _ ls st M => match st with
  | .int v :: st => cond (ro b M ls st 1 n) (v = v0 ∧ kn (pc + 3) ls (.ref (mN M + 1) :: st) (wA M (11, n) n)) False
  | _ => False
theorem ok_nq {idx n : Nat} {v0 : Int32} (hv : ¬ v0 < 0 ∧ v0.toNatClampNeg = n ∧ n ≤ 1000) (hw : Cond.classLink q.1.cls idx RX2 ∈ wB) (hd : decode q.2.1 pc = .ok (.anewarray idx, 3)) : OK l X q d false b pc (oNq b pc n v0) := by
  intro kn kr ls st M hk h
  simp only [oNq] at h
  split at h
  · rename_i v st
    obtain ⟨h0, ev, hh⟩ := condT h
    subst ev
    obtain ⟨n1, n2, n3, n4, n5⟩ := ro_of h0
    refine Wf.alloc (M' := wA M (11, n) n) (by rw [wA_N]; omega) (by rw [wA_N]; omega) (by rw [wA_C]; omega) (by rw [wA_S]; omega) (by rw [wA_C]; omega) (by rw [wA_S]; omega) wA_kO n2 (fun p e R s m args below meth c' H locs cells slots Q D g ad A la hx hb hown hts hK hAO hO hP hD hS hA g1 g2 kx => ?_) (hk _ _ _ _ hh)
    have eC : mC (wA M (11, n) n) - mC M = 1 := by rw [wA_C]; omega
    have eS : mS (wA M (11, n) n) - mS M = n := by rw [wA_S]; omega
    rw [eC] at g1 kx
    rw [eS] at g2 kx
    refine va_newq (C := RX2) hx hb hown (hts _ hw) hAO.1 hK hP hD hS hA hv.1 hv.2.1 (by omega) g1 g2 hd (fun a cA H1 k1 p1 d1 s1 => ?_)
    have ecA : cA = g 11 := by
      obtain ⟨kA, comp, f2, f3, f4, f1⟩ := (k1.2 5 (cA, .object RX2) rfl).2
      obtain ⟨kA', comp', f2', f3', f4', f1'⟩ := (hK.2 3 _ rfl).2
      exact Option.some.inj (f1.symm.trans f1')
    have ew := wl_1 (g := g) (ad := ad) (a := a) (k := (11, n)) (n := n) hO n1 (en0 := .inl (cA, n, .inr (.inr (.inr (.inr (fun _ => none)))))) (by
      have eer : er (adn ad (mN M + 1) a) (wA M (11, n) n) (mN M + 1) = fun _ => none := by
        funext i
        unfold er
        rw [wA_R]
      rw [ecA, en_q (c := 11) (by rw [wA_K]) (by decide), wA_K, eer])
    have := kx (adn ad (mN M + 1) a) H1 locs (adn_o n1) (by rw [ew]; exact p1) (by rw [ew]; exact d1) s1
    rw [List.map_cons, iv_ref (Nat.succ_pos _), adn_s, ivs_rk (adn_o n1) n3] at this
    exact this
  · exact h.elim
end ALLOC
end
section
section CTOR
variable {l : Launch} {X : Nat × (Nat → Int32)} {q : Md} {d : Nat} {b : Nat × Nat} {pc : Nat}
/-- a call that may make names -/
theorem Wf.callA {kr kr' : KR} {ls : Ls} {st rest : List Value} {M : Mm} {mc ms : Nat} (hls : ls.all (fun x => rk (mN M) x.2) = true) (hrs : rest.all (rk (mN M)) = true) (hC : mC M + mc ≤ b.1) (hS : mS M + ms ≤ b.2) (hCS : ∀ r M', kr' r M' → mC M' = mC M + mc ∧ mS M' = mS M + ms) (hk : ∀ r M', kr' r M' → Wf l X q (d + 1) false b (pc + 3) ls (r.toList ++ rest) M' kr)
    (h : ∀ (p : Program) (e : Env) (R : Room) (s : State) (m : MethodId) (args : Array Value) (below : List Frame) (meth : Method) (c : Code) (H : Heap) (locs : List Loc) (cells slots : Nat) (D : va_G) (g : Nat → ClassId) (ad : Nat → Nat) (A : Nat → Prop) (la : Array Slot), p.tables.exec = Jvm.exec → c.code = q.2.1 → c.maxLocals = q.2.2.1 → la.size = q.2.2.1 → s.vm.findClass q.1.cls = some m.cls → (∀ w ∈ wB, w.before args s = true) → d + 1 ≤ R.frames → 64 * (d + 1) ≤ R.locals → cells + mc ≤ R.cells ∧ slots + ms ≤ R.slots → va_K D vwCl (tz g) s → (∀ x ∈ wN, va_Nw (.methodLinkNest x.1 x.2.1 x.2.2 RX6) s) → va_P D vwCl (wl g ad M) H → (∀ av, FrameBlind (pz D g ad X A av M) ∧ ∀ U : State, U.heap = H → s.WarmedH U.vm → pz D g ad X A av M (av.map (iv ad)).toArray U) →
      ∃ a0 : Array Value, va_Run p l e R s m args below meth c H locs cells slots mc ms (F0 m pc la (st.map (iv ad))) (rest.map (iv ad)) (qz D g ad A false M kr' a0) A) :
    Wf l X q (d + 1) false b pc ls st M kr := by
  intro p e R s m args below meth c Q D g ad0 A n0 S0 c0 s0 ad H locs la hf g1 g2 g3 g4 g5 g6 g7 g8 hr hl hk2
  obtain ⟨r1, r2, r3, r4, r5, r6, r7, r8⟩ := hr
  have hs := sx_kept (sx_ad (ad' := ad) (fun n hn => r7 n (Or.inr hn)) hf.2.2.2.2.2.2.2.2.2) r3.1 r3.2.1
  have hA := hf.2.2.2.2.2.2.2.2.1
  obtain ⟨a0, hrun⟩ := h p e R s m args below meth c H locs (mC M - c0) (mS M - s0) D g ad A la hf.1 hf.2.1 hf.2.2.1 hl.1 hf.2.2.2.2.2.1 hf.2.2.2.2.2.2.2.1 g1 g2 (by omega) hs.1 hs.2.1 r1 (fun av => pz_pre r1 r2 (fun a ha => hA a (Nat.le_trans r3.1 ha)) r4 r6 hs)
  intro T hT Xs
  obtain ⟨v, st₀, t, T', L, h0, X', hL, e1, e2, hq, stp⟩ := hrun T hT Xs
  obtain ⟨r, M', ad', o1, o2, o3, o4, o5, o6, o7, o8, o9, o10⟩ := hq
  have ev : v = r.map (iv ad') := by cases o1; rfl
  subst ev
  obtain ⟨w1, w2⟩ := hCS r M' o2
  have hS' : va_S A s.heap t.heap (locs ++ L) := by
    obtain ⟨z1, z2⟩ := o10
    rw [h0] at z1 z2
    exact ⟨Nat.le_trans r3.1 z1, fun a ha hA' => by rw [z2 a (Nat.lt_of_lt_of_le ha r3.1) hA']; exact r3.2.1 a ha hA', fun x hx => by
      rcases List.mem_append.mp hx with z | z
      · exact r3.2.2 x z
      · exact hL x z⟩
  have hl' : lv_has la q.2.2.1 (lm ad' ls) := by rw [lm_rk o4 hls]; exact hl
  have hw := hk r M' o2 p e R s m args below meth c Q D g ad0 A n0 S0 c0 s0 ad' t.heap (locs ++ L) la hf g1 g2 g3 g4 (by omega) (by omega) (by omega) (by omega) ⟨o8, o9, hS', o7, by omega, o6, fun n hn => by
    rcases hn with hn | hn
    · rw [o4 n (Or.inl (Nat.le_trans hn r5))]; exact r7 n (Or.inl hn)
    · rw [o4 n (Or.inr hn)]; exact r7 n (Or.inr hn), fun z => by cases z⟩ hl' hk2
  rw [w1, w2, show mC M + mc - c0 = mC M - c0 + mc by omega, show mS M + ms - s0 = mS M - s0 + ms by omega] at hw
  obtain ⟨t2, a1, b1⟩ := hw T' e1 X'
  refine ⟨t2, stp t2 ?_, b1⟩
  have es : (r.toList ++ rest).map (iv ad') = (r.map (iv ad')).toList ++ rest.map (iv ad) := by rw [List.map_append, ivs_rk o4 hrs]; cases r <;> simp
  rw [es] at a1
  exact a1
/-- a constructor's words -/
def cI (q' : Md) : Prop := cW q' 0 ∧ q'.1.name = "<init>" ∧ Cond.instanceMethod q'.1 ∈ wB ∧ q'.2.2.2 = none
def ri (b : Nat × Nat) (M : Mm) (ls : Ls) (rest : List Value) (a c mc ms : Nat) : Bool := (kk M a c && Nat.ble (cs rest) 8) && (ls.all (fun x => rk (mN M) x.2) && (rest.all (rk (mN M)) && (Nat.ble (mC M + mc) b.1 && Nat.ble (mS M + ms) b.2)))
theorem ri_of {b : Nat × Nat} {M : Mm} {ls : Ls} {rest : List Value} {a c mc ms : Nat} (h : ri b M ls rest a c mc ms = true) : kk M a c = true ∧ cs rest ≤ 8 ∧ ls.all (fun x => rk (mN M) x.2) = true ∧ rest.all (rk (mN M)) = true ∧ mC M + mc ≤ b.1 ∧ mS M + ms ≤ b.2 := by
  obtain ⟨h1, h⟩ := Bool.and_eq_true_iff.mp h
  obtain ⟨h0, h1⟩ := Bool.and_eq_true_iff.mp h1
  obtain ⟨h2, h⟩ := Bool.and_eq_true_iff.mp h
  obtain ⟨h3, h⟩ := Bool.and_eq_true_iff.mp h
  obtain ⟨h4, h⟩ := Bool.and_eq_true_iff.mp h
  exact ⟨h0, Nat.le_of_ble_eq_true h1, h2, h3, Nat.le_of_ble_eq_true h4, Nat.le_of_ble_eq_true h⟩
/-- a constructor without arguments, by a nest mate's link or an open one -/
def oCi (l : Launch) (X : Nat × (Nat → Int32)) (d : Nat) (b : Nat × Nat) (pc : Nat) (q' : Md) (c mc ms : Nat) : OP := fun kn _ ls st M => match st with
  | .ref a :: rest => cond (ri b M ls rest a c mc ms) (Ev l X q' d false mc ms [.ref a] M (fun r M' => (mC M' = mC M + mc ∧ mS M' = mS M + ms) ∧ kn (pc + 3) ls (r.toList ++ rest) M')) False
  | _ => False
theorem ok_ciN {q' : Md} {c mc ms idx : Nat} (hW : cI q') (hw : (q.1.cls, idx, q'.1) ∈ wN) (hd : decode q.2.1 pc = .ok (.invokespecial idx, 3)) : OK l X q (d + 1) false b pc (oCi l X d b pc q' c mc ms) := by
  intro kn kr ls st M hk h
  simp only [oCi] at h
  split at h
  · rename_i a rest
    obtain ⟨h0, h⟩ := condT h
    obtain ⟨i0, i1, i2, i3, i4, i5⟩ := ri_of h0
    obtain ⟨a0, a1, a2⟩ := kk_of i0
    refine Wf.callA (rest := rest) (kr' := fun r M' => (mC M' = mC M + mc ∧ mS M' = mS M + ms) ∧ kn (pc + 3) ls (r.toList ++ rest) M') i2 i3 i4 i5 (fun r M' z => z.1) (fun r M' z => hk _ _ _ _ z.2) (fun p e R s m args below meth c' H locs cells slots D g ad A la hx hb hml hla hown hts g1 g2 g3 hK hN hP hp => ?_)
    have hR : (rz d mc ms).frames + 1 ≤ R.frames ∧ 8 + (q'.2.2.1 + 11) + (rz d mc ms).locals ≤ R.locals := ⟨g1, by have := hW.1.2.2.2; show 8 + (q'.2.2.1 + 11) + 64 * d ≤ _; omega⟩
    refine ⟨_, va_runIN (host := RX6) (bytes := q'.2.1) (maxL := q'.2.2.1) (As := []) (n := 0) (rest := rest.map (iv ad)) (b := ad a) ⟨hx, hb, hml, hown, hts⟩ (h D g ad A) ⟨va_cnB 0 hts (wB_good hW.1.1) (by rw [← hW.2.2.2]; rfl) rfl rfl (hN _ hw) (hts _ hW.1.2.1) hW.1.2.2.1 hR, hW.2.1, hts _ hW.2.2.1⟩ ⟨(hp _).1, fun U hU hW' => ?_⟩ rfl rfl hla ?_ (lv_room (by rw [cs_of]; exact i1)) hd g3⟩
    · have := (hp [.ref a]).2 U hU hW'
      rw [List.map_cons, iv_ref a0] at this
      exact this
    · show (Value.ref a :: rest).map (iv ad) = _
      rw [List.map_cons, iv_ref a0]
      rfl
  · exact h.elim
theorem ok_ci {q' : Md} {c mc ms idx : Nat} (hW : cI q') (hw : Cond.methodLink q.1.cls idx q'.1 ∈ wB) (hd : decode q.2.1 pc = .ok (.invokespecial idx, 3)) : OK l X q (d + 1) false b pc (oCi l X d b pc q' c mc ms) := by
  intro kn kr ls st M hk h
  simp only [oCi] at h
  split at h
  · rename_i a rest
    obtain ⟨h0, h⟩ := condT h
    obtain ⟨i0, i1, i2, i3, i4, i5⟩ := ri_of h0
    obtain ⟨a0, a1, a2⟩ := kk_of i0
    refine Wf.callA (rest := rest) (kr' := fun r M' => (mC M' = mC M + mc ∧ mS M' = mS M + ms) ∧ kn (pc + 3) ls (r.toList ++ rest) M') i2 i3 i4 i5 (fun r M' z => z.1) (fun r M' z => hk _ _ _ _ z.2) (fun p e R s m args below meth c' H locs cells slots D g ad A la hx hb hml hla hown hts g1 g2 g3 hK hN hP hp => ?_)
    have hR : (rz d mc ms).frames + 1 ≤ R.frames ∧ 8 + (q'.2.2.1 + 11) + (rz d mc ms).locals ≤ R.locals := ⟨g1, by have := hW.1.2.2.2; show 8 + (q'.2.2.1 + 11) + 64 * d ≤ _; omega⟩
    refine ⟨_, va_runI (bytes := q'.2.1) (maxL := q'.2.2.1) (As := []) (n := 0) (rest := rest.map (iv ad)) (b := ad a) ⟨hx, hb, hml, hown, hts⟩ (h D g ad A) ⟨callB_of 0 hts (wB_good hW.1.1) (by rw [← hW.2.2.2]; rfl) rfl rfl (hts _ hW.1.2.1) (hts _ hw) hW.1.2.2.1 hR, hW.2.1, hts _ hW.2.2.1⟩ ⟨(hp _).1, fun U hU hW' => ?_⟩ rfl rfl hla ?_ (lv_room (by rw [cs_of]; exact i1)) hd g3⟩
    · have := (hp [.ref a]).2 U hU hW'
      rw [List.map_cons, iv_ref a0] at this
      exact this
    · show (Value.ref a :: rest).map (iv ad) = _
      rw [List.map_cons, iv_ref a0]
      rfl
  · exact h.elim
/-- Object's constructor -/
def oOi (pc : Nat) : OP := fun kn _ ls st M => match st with
  | .ref a :: rest => cond (Nat.blt 0 a && Nat.ble (cs rest) 8) (kn (pc + 3) ls rest M) False
  | _ => False
theorem ok_oi {na : Bool} {idx : Nat} (hi : Cond.instanceMethod Lib.objectInit ∈ wB) (hc : Cond.code Lib.objectInit ⟨#[0xb1]⟩ 1 none ∈ wB) (hw : Cond.methodLink q.1.cls idx Lib.objectInit ∈ wB) (hd : decode q.2.1 pc = .ok (.invokespecial idx, 3)) : OK l X q (d + 1) na b pc (oOi pc) := by
  intro kn kr ls st M hk h
  simp only [oOi] at h
  split at h
  · rename_i a rest
    obtain ⟨h0, h⟩ := condT h
    obtain ⟨h0, h1⟩ := Bool.and_eq_true_iff.mp h0
    have a0 : 0 < a := Nat.le_of_ble_eq_true h0
    have h1 := Nat.le_of_ble_eq_true h1
    refine Wf.mem rfl id (fun p e R s m args below meth c' H locs cells slots Q D g ad A la hx hb hown hts hK hnm hml g1 g2 hP hD hS kx => ?_) (hk _ _ _ _ h)
    rw [List.map_cons, iv_ref a0]
    have hr : 2 * (F0 m pc la (Value.ref (ad a) :: rest.map (iv ad))).monitorRoom + ((rest.map (iv ad)).map fun v => v.category).sum ≤ 8 := lv_room (by rw [cs_of]; exact h1)
    exact W.objInit hx hb hown (hts _ hw) (hts _ hi) (hts _ hc) rfl hml.symm rfl hd (by omega) (by omega) (kx H locs hP hD hS)
  · exact h.elim
end CTOR
end
section
/-! an array of 6 rows of 5 ints (multianewarray) -/
section MULTI
theorem nw_array {E : CtlPost} {e : Env} {d : Bool} {acts : List Action} {s : State} {cA comp : ClassId} {k : Class} {ty : FieldType} {n : Nat} {v : Value} (hk : s.vm.classes[cA]? = some k) (hkind : k.kind = .array comp ty) (hlim : n ≤ e.platform.arrayLengthLimit) (hby : n * componentBytes ty ≤ e.platform.maxHeapBytes) (hf : fits ty v = true) (hdf : v.isDefault = true) (h1 : s.heap.size < e.platform.maxCells) (h2 : s.slotsUsed + n ≤ e.platform.maxSlots)
    {Q : Addr → Pre} (hq : Q s.heap.size d acts (s.pushCell { cls := cA, slots := Array.replicate n v, vm := .none })) : wp (Jvm.newArray cA n v) Q E e d acts s := by
  have g1 : ¬ n > e.platform.arrayLengthLimit := Nat.not_lt.mpr hlim
  have g2 : ¬ n * componentBytes ty > e.platform.maxHeapBytes := Nat.not_lt.mpr hby
  have g3 : allocActs (Array.replicate n v) s.heap.size acts = acts := by
    unfold allocActs
    rw [if_pos]
    rw [Array.all_replicate]
    split
    · rfl
    · exact hdf
  have g4 : ∀ i w, (Array.replicate n v)[i]? = some w → s.fitsSlot cA .none i w = true := fun i w hw => by
    rw [Array.getElem?_replicate] at hw
    split at hw
    · cases hw
      simp [State.fitsSlot, State.slotType?, hk, hkind, hf]
    · cases hw
  simp only [Jvm.newArray, Jvm.arrayFits, wp_bind', W.ask, W.ite, g1, if_false, wp_pure', W.theClass, hk, hkind, g2, W.alloc, W.stop, Option.some.injEq, exists_eq_left', Array.size_replicate, g3]
  split
  · omega
  · exact ⟨h1, h2, g4, hq⟩
/-- the outer row, i places of it filled -/
def mo (cA : ClassId) (h i : Nat) : Cell := arrV cA 6 (fun j => if j < i then .ref (h + 1 + j) else .null)
def mi (comp : ClassId) : Cell := arrV comp 5 (fun _ => .int 0)
theorem mo_0 (cA : ClassId) (h : Nat) : ({ cls := cA, slots := Array.replicate 6 .null, vm := .none } : Cell) = mo cA h 0 := arrV_new cA 6 .null
theorem mi_0 (comp : ClassId) : ({ cls := comp, slots := Array.replicate 5 (.int 0), vm := .none } : Cell) = mi comp := arrV_new comp 5 (.int 0)
theorem mo_s (cA : ClassId) (h i : Nat) : (mo cA h i).setSlot i (.ref (h + 1 + i)) = mo cA h (i + 1) := by
  unfold mo
  rw [arrV_store]
  congr 1
  funext j
  unfold updV
  by_cases hj : j = i
  · subst hj; simp
  · by_cases hl : j < i
    · simp [hj, hl, Nat.lt_succ_of_lt hl]
    · simp [hj, hl, show ¬ j < i + 1 by omega]
end MULTI
section MULTIW
variable {p : Program} {l : Launch} {e : Env} {R : Room} {s : State} {m : MethodId} {args : Array Value} {below : List Frame} {meth : Method} {c : Code} {locs : List Loc} {cells slots : Nat} {Q : State → Prop}
/-- behind i rows -/
def mJ (p : Program) (l : Launch) (e : Env) (R : Room) (s : State) (m : MethodId) (args : Array Value) (below : List Frame) (meth : Method) (c : Code) (locs : List Loc) (cells slots : Nat) (H : Heap) (vm1 : Vm) (cA comp : ClassId) (i : Nat) (U : State) : Prop :=
  Stand p l e R s m args below meth c U locs (cells + 1 + i) (slots + 6 + 5 * i) ∧ U.vm = vm1 ∧ U.heap.size = H.size + 1 + i ∧ (∀ a, a < H.size → U.heap[a]? = H[a]?) ∧ U.heap[H.size]? = some (mo cA H.size i) ∧ ∀ j, j < i → U.heap[H.size + 1 + j]? = some (mi comp)
theorem mJ_0 {H : Heap} {U : State} {cA comp : ClassId} (X : Stand p l e R s m args below meth c U locs cells slots) (hU : U.heap = H) : mJ p l e R s m args below meth c locs cells slots H U.vm cA comp 0 (U.pushCell (mo cA H.size 0)) := by
  subst hU
  have h := X.pushed (mo cA U.heap.size 0)
  rw [show (mo cA U.heap.size 0).slots.size = 6 from arrV_size _ _ _] at h
  refine ⟨h, rfl, ?_, fun a ha => State.heap_pushCell_of_lt _ _ ha, State.heap_pushCell_size _ _, fun j hj => absurd hj (Nat.not_lt_zero _)⟩
  show (U.heap.push _).size = _
  rw [Array.size_push]
theorem mJ_s {H : Heap} {U : State} {vm1 : Vm} {cA comp : ClassId} {i : Nat} (hn : s.heap.size ≤ H.size) (h : mJ p l e R s m args below meth c locs cells slots H vm1 cA comp i U) : mJ p l e R s m args below meth c locs cells slots H vm1 cA comp (i + 1) ((U.pushCell (mi comp)).setCell H.size ((mo cA H.size i).setSlot i (.ref U.heap.size))) := by
  obtain ⟨X, h1, h2, h3, h4, h5⟩ := h
  have hlt : H.size < U.heap.size := by omega
  have hc : (U.pushCell (mi comp)).heap[H.size]? = some (mo cA H.size i) := by rw [State.heap_pushCell_of_lt (h := hlt)]; exact h4
  have hX := ((X.pushed (mi comp)).stored hc i (.ref U.heap.size)).forget (fun y hy => by rw [List.mem_singleton.mp hy]; exact hn)
  rw [show (mi comp).slots.size = 5 from arrV_size _ _ _] at hX
  have hsz : ((U.pushCell (mi comp)).setCell H.size ((mo cA H.size i).setSlot i (.ref U.heap.size))).heap.size = H.size + 1 + (i + 1) := by
    simp [State.setCell, State.pushCell, h2]
    omega
  refine ⟨by rw [show cells + 1 + (i + 1) = cells + 1 + i + 1 by omega, show slots + 6 + 5 * (i + 1) = slots + 6 + 5 * i + 5 by omega]; exact hX, h1, hsz, fun a ha => ?_, ?_, fun j hj => ?_⟩
  · rw [State.heap_setCell_other (show H.size ≠ a by omega), State.heap_pushCell_of_lt (h := show a < U.heap.size by omega)]
    exact h3 a ha
  · rw [State.heap_setCell_self hc, h2, ← mo_s]
  · rw [State.heap_setCell_other (show H.size ≠ H.size + 1 + j by omega)]
    by_cases hji : j < i
    · rw [State.heap_pushCell_of_lt (h := show H.size + 1 + j < U.heap.size by omega)]
      exact h5 j hji
    · rw [show H.size + 1 + j = U.heap.size by omega]
      exact State.heap_pushCell_size _ _
/-- the states behind the rows -/
def mU (cA comp : ClassId) (h : Nat) (U : State) : Nat → State
  | 0 => U.pushCell (mo cA h 0)
  | i + 1 => ((mU cA comp h U i).pushCell (mi comp)).setCell h ((mo cA h i).setSlot i (.ref (mU cA comp h U i).heap.size))
theorem mU_top (cA comp : ClassId) (h : Nat) (U : State) (f : JFrame) : ∀ i, mU cA comp h (U.setTop f) i = (mU cA comp h U i).setTop f
  | 0 => by simp only [mU, State.pushCell_setTop]
  | i + 1 => by simp only [mU, mU_top cA comp h U f i, State.heap_setTop, State.pushCell_setTop, State.setCell_setTop]
theorem mU_J {H : Heap} {U : State} {vm1 : Vm} {cA comp : ClassId} (hn : s.heap.size ≤ H.size) (h0 : mJ p l e R s m args below meth c locs cells slots H vm1 cA comp 0 (mU cA comp H.size U 0)) : ∀ i, mJ p l e R s m args below meth c locs cells slots H vm1 cA comp i (mU cA comp H.size U i)
  | 0 => h0
  | i + 1 => mJ_s hn (mU_J hn h0 i)
theorem wp_make65 {E : CtlPost} {d : Bool} {acts : List Action} {S : State} {cA comp c3 : ClassId} {k kc : Class} (hk : S.vm.classes[cA]? = some k) (hkind : k.kind = .array comp (.array .int)) (hkc : S.vm.classes[comp]? = some kc) (hkindc : kc.kind = .array c3 .int) (hlim : 100 ≤ e.platform.arrayLengthLimit) (hby : 1000 ≤ e.platform.maxHeapBytes)
    (hrow : ∀ i, (mU cA comp S.heap.size S i).heap.size = S.heap.size + 1 + i ∧ (mU cA comp S.heap.size S i).vm = S.vm ∧ (mU cA comp S.heap.size S i).heap[S.heap.size]? = some (mo cA S.heap.size i)) (r1 : S.heap.size < e.platform.maxCells) (r2 : S.slotsUsed + 6 ≤ e.platform.maxSlots) (r3 : ∀ i, i < 6 → (mU cA comp S.heap.size S i).heap.size < e.platform.maxCells ∧ (mU cA comp S.heap.size S i).slotsUsed + 5 ≤ e.platform.maxSlots)
    {Q : Addr → Pre} (hq : ∀ d' acts', Q S.heap.size d' acts' (mU cA comp S.heap.size S 6)) : wp (multianewarray.make cA [6, 5]) Q E e d acts S := by
  have n6 : ¬ (6 : Int32) < 0 := by decide
  have n5 : ¬ (5 : Int32) < 0 := by decide
  have t6 : (6 : Int32).toNatClampNeg = 6 := by decide
  have t5 : (5 : Int32).toNatClampNeg = 5 := by decide
  have z6 : ((6 : Int32) == 0) = false := by decide
  rw [multianewarray.make]
  simp only [wp_bind', W.ite, n6, if_false, wp_pure', W.theClass, hk, hkind, Option.some.injEq, exists_eq_left', t6, z6]
  refine nw_array hk hkind (by omega) (by show 6 * 4 ≤ _; omega) rfl rfl r1 r2 ?_
  rw [mo_0 cA S.heap.size]
  simp only [Bool.false_eq_true, if_false, wp_pure', wp_bind']
  rw [Std.Legacy.Range.forIn_eq_forIn_range']
  show wp (forIn (List.range' 0 6 1) PUnit.unit _) _ E e d acts _
  refine wp_forIn_inv (fun rest s' => ∃ i, rest = List.range' i (6 - i) ∧ i ≤ 6 ∧ s' = mU cA comp S.heap.size S i) _ _ ⟨0, rfl, by decide, rfl⟩ ?_ ?_
  · rintro x rest s' d' acts' Q' ⟨i, h1, h2, rfl⟩ hnext
    have hi : i < 6 := by
      rcases Nat.lt_or_ge i 6 with z | z
      · exact z
      · rw [show 6 - i = 0 by omega] at h1; cases h1
    rw [show 6 - i = (6 - (i + 1)) + 1 by omega, List.range'_succ] at h1
    obtain ⟨rfl, rfl⟩ := List.cons.inj h1
    obtain ⟨f1, f2, f3⟩ := hrow x
    obtain ⟨g1, g2⟩ := r3 x hi
    have hkc' : (mU cA comp S.heap.size S x).vm.classes[comp]? = some kc := by rw [f2]; exact hkc
    have hk' : (mU cA comp S.heap.size S x).vm.classes[cA]? = some k := by rw [f2]; exact hk
    simp only [wp_bind']
    rw [multianewarray.make]
    simp only [wp_bind', W.ite, n5, if_false, wp_pure', W.theClass, hkc', hkindc, Option.some.injEq, exists_eq_left', t5]
    refine nw_array hkc' hkindc (by omega) (by show 5 * 4 ≤ _; omega) rfl rfl g1 g2 ?_
    rw [show defaultValue .int = .int 0 from rfl, mi_0]
    have hlt : S.heap.size < (mU cA comp S.heap.size S x).heap.size := by omega
    simp only [wp_bind', W.writeLoc, wp_pure']
    refine ⟨mo cA S.heap.size x, by rw [State.heap_pushCell_of_lt (h := hlt)]; exact f3, fun z => (by cases z), by rw [show (mo cA S.heap.size x).slots.size = 6 from arrV_size _ _ _]; exact hi, ?_, hnext _ _ _ ⟨x + 1, rfl, by omega, rfl⟩⟩
    show State.fitsSlot _ cA .none x _ = true
    simp [State.fitsSlot, State.slotType?, hk', hkind]
    rfl
  · rintro s' d' acts' ⟨i, h1, h2, rfl⟩
    have hi : i = 6 := by
      rcases Nat.lt_or_ge i 6 with z | z
      · rw [show 6 - i = (6 - (i + 1)) + 1 by omega, List.range'_succ] at h1; cases h1
      · omega
    subst hi
    simp only [wp_pure']
    exact hq _ _
theorem W_multi {H : Heap} {cc : ByteArray} (hexec : p.tables.exec = Jvm.exec) (hb : c.code = cc) {own : String} {idx : Nat} (hown : s.vm.findClass own = some m.cls) (hcl : (Cond.classLink own idx "[[I").before args s = true) {cA comp c3 : ClassId} {kA kC : Class} (hA : s.vm.findClass "[[I" = some cA) (hkA : s.vm.classes[cA]? = some kA) (hkindA : kA.kind = .array comp (.array .int)) (hkC : s.vm.classes[comp]? = some kC) (hkindC : kC.kind = .array c3 .int) {pc : Nat} {ls : Array Slot} {rest : List Value} (hdg : decode cc pc = .ok (.multianewarray idx 2, 4)) (hcells : cells + 7 ≤ R.cells) (hslots : slots + 36 ≤ R.slots) (hn : s.heap.size ≤ H.size)
    (kk : ∀ H1 : Heap, H1.size = H.size + 7 → (∀ a, a < H.size → H1[a]? = H[a]?) → H1[H.size]? = some (mo cA H.size 6) → (∀ j, j < 6 → H1[H.size + 1 + j]? = some (mi comp)) → W p l e R s m args below meth c H1 locs (cells + 7) (slots + 36) Q (F0 m (pc + 4) ls (.ref H.size :: rest))) : W p l e R s m args below meth c H locs cells slots Q (F0 m pc ls (.int 5 :: .int 6 :: rest)) := by
  intro T hT X
  subst hb
  have hpl : e.platform.magicAccessors = ({} : Platform).magicAccessors := by rw [X.admits.platform]
  obtain ⟨c0, hfc0, hlk⟩ := Cond.classLink_spec hown hcl e.platform hpl
  cases hA.symm.trans hfc0
  obtain ⟨hg₁, hwarm₁, -⟩ := State.classEntry (e := e) X.warmed hlk
  generalize T.vm.noted m.cls idx (.cls cA) = vm₁ at hg₁ hwarm₁
  obtain ⟨kA₁, hkA₁, heA⟩ := hwarm₁.alike.2.2 _ _ hkA
  obtain ⟨kC₁, hkC₁, heC⟩ := hwarm₁.alike.2.2 _ _ hkC
  have hkindA₁ : kA₁.kind = .array comp (.array .int) := by rw [heA]; exact hkindA
  have hkindC₁ : kC₁.kind = .array c3 .int := by rw [heC]; exact hkindC
  have X₁ := X.noted hwarm₁
  have J0 : mJ p l e R s m args below meth c locs cells slots H vm₁ cA comp 0 ((T.setVm vm₁).pushCell (mo cA H.size 0)) := mJ_0 X₁ hT
  have hll : e.platform.arrayLengthLimit = 2147483645 := Launch.admits_arrayLengthLimit X.admits
  have hhb : e.platform.maxHeapBytes = 536870912 := Launch.admits_maxHeapBytes X.admits
  have J := mU_J (U := T.setVm vm₁) hn J0
  obtain ⟨t, ht, hq⟩ := kk (mU cA comp H.size (T.setVm vm₁) 6).heap (J 6).2.2.1 (J 6).2.2.2.1 (J 6).2.2.2.2.1 (J 6).2.2.2.2.2 _ rfl (J 6).1
  refine ⟨t, ?_, hq⟩
  have eh : (T.setVm vm₁).heap.size = H.size := by rw [← hT]; rfl
  have r0 := X₁.roomAbove hcells hslots
  jvm_step X.here [hexec, hdg]
  simp only [multianewarray.sem, wp_bind', W.resolveClassAt_links (State.method?_setTop (F0 m pc ls (.int 5 :: .int 6 :: rest)) X.here.top) hg₁]
  rw [W.popN, if_neg (by decide)]
  refine ⟨F0 m pc ls (.int 5 :: .int 6 :: rest), State.topJava?_setTop' (s := T.setVm vm₁) _ X.here.top, [.int 6, .int 5], rest, rfl, rfl, ?_⟩
  simp only [List.mapM_cons, List.mapM_nil, wp_bind', wp_pure']
  have eS : ((T.setTop (F0 m pc ls (.int 5 :: .int 6 :: rest))).setVm vm₁).setTop (F0 m pc ls rest) = (T.setVm vm₁).setTop (F0 m pc ls rest) := by
    show ((T.setVm vm₁).setTop (F0 m pc ls (.int 5 :: .int 6 :: rest))).setTop _ = _
    rw [State.setTop_setTop]
  rw [eS]
  have eT : ∀ i, mU cA comp H.size ((T.setVm vm₁).setTop (F0 m pc ls rest)) i = (mU cA comp H.size (T.setVm vm₁) i).setTop (F0 m pc ls rest) := mU_top cA comp H.size (T.setVm vm₁) (F0 m pc ls rest)
  have eh2 : ((T.setVm vm₁).setTop (F0 m pc ls rest)).heap.size = H.size := by rw [State.heap_setTop]; exact eh
  refine wp_make65 (k := kA₁) (kc := kC₁) (comp := comp) (c3 := c3) hkA₁ hkindA₁ hkC₁ hkindC₁ (by omega) (by omega) (fun i => ?_) ?_ ?_ (fun i hi => ?_) (fun d' acts' => ?_)
  · rw [eh2, eT]
    obtain ⟨j0, j1, j2, j3, j4, j5⟩ := J i
    exact ⟨by rw [State.heap_setTop]; exact j2, j1, by rw [State.heap_setTop]; exact j4⟩
  · rw [eh2]
    have := r0.1
    omega
  · have := r0.2
    show (T.setVm vm₁).slotsUsed + 6 ≤ _
    omega
  · rw [eh2, eT]
    obtain ⟨j0, j1, j2, j3, j4, j5⟩ := J i
    have z := j0.roomAbove (a := 1) (b := 5) (by omega) (by omega)
    exact ⟨by rw [State.heap_setTop]; omega, z.2⟩
  · rw [eh2, eT]
    have XF := (J 6).1
    simp only [wp_bind', W.mark, W.pushRef, State.topJava?_setTop' _ XF.here.top, Option.some.injEq, exists_eq_left', State.setTop_setTop, State.heap_setTop]
    intro acts
    simp [jvm, XF.here.top]
    exact ht
end MULTIW
section MULTIO
variable {l : Launch} {X : Nat × (Nat → Int32)} {q : Md} {d : Nat} {b : Nat × Nat} {pc : Nat}
def wM (M : Mm) : Mm := ((mN M + 7, mC M + 7, mS M + 36, fun a => if a = mN M + 1 then (12, 6) else if mN M < a ∧ a ≤ mN M + 7 then (9, 5) else mK M a), (fun a j => if mN M < a ∧ a ≤ mN M + 7 then 0 else M.2.1 a j), (fun a j => if mN M < a ∧ a ≤ mN M + 7 then 0 else M.2.2.1 a j), fun a j => if a = mN M + 1 then (if j < 6 then mN M + 2 + j else 0) else if mN M < a ∧ a ≤ mN M + 7 then 0 else M.2.2.2 a j)
theorem wM_old {M : Mm} : old M (wM M) := by
  intro a ha
  have h1 : ¬ a = mN M + 1 := by omega
  have h2 : ¬ (mN M < a ∧ a ≤ mN M + 7) := by omega
  refine ⟨?_, ?_, ?_, ?_⟩
  · show (if a = mN M + 1 then (12, 6) else if mN M < a ∧ a ≤ mN M + 7 then (9, 5) else mK M a) = _
    rw [if_neg h1, if_neg h2]
  · funext j; exact if_neg h2
  · funext j; exact if_neg h2
  · funext j
    show (if a = mN M + 1 then _ else if mN M < a ∧ a ≤ mN M + 7 then 0 else M.2.2.2 a j) = _
    rw [if_neg h1, if_neg h2]
    rfl
theorem wM_kO {M : Mm} (h : kO M) : kO (wM M) := by
  intro a j
  show (if a = mN M + 1 then (if j < 6 then mN M + 2 + j else 0) else if mN M < a ∧ a ≤ mN M + 7 then 0 else M.2.2.2 a j) ≤ mN M + 7
  have := h a j
  have h2 : M.2.2.2 a j ≤ mN M := h a j
  split
  · split <;> omega
  · split <;> omega
def adm (ad : Nat → Nat) (n h : Nat) : Nat → Nat := fun k => if n < k ∧ k ≤ n + 7 then h + (k - (n + 1)) else ad k
theorem adm_o {ad : Nat → Nat} {n h : Nat} (hn : n + 7 ≤ 4000) : ∀ k, k ≤ n ∨ 4999 ≤ k → adm ad n h k = ad k := fun k hk => if_neg (by omega)
theorem adm_s {ad : Nat → Nat} {n h i : Nat} (hi : i < 7) : adm ad n h (n + 1 + i) = h + i := by
  unfold adm
  rw [if_pos (by omega)]
  omega
def oN2 (b : Nat × Nat) (pc : Nat) : OP := fun kn _ ls st M => match st with
  | .int v :: .int w :: st => cond (ro b M ls st 7 36) ((v = 5 ∧ w = 6) ∧ kn (pc + 4) ls (.ref (mN M + 1) :: st) (wM M)) False
  | _ => False
theorem ok_n2 {idx : Nat} (hw : Cond.classLink q.1.cls idx "[[I" ∈ wB) (hd : decode q.2.1 pc = .ok (.multianewarray idx 2, 4)) : OK l X q d false b pc (oN2 b pc) := by
  intro kn kr ls st M hk h
  simp only [oN2] at h
  split at h
  · rename_i v w st
    obtain ⟨h0, ⟨ev, ew⟩, hh⟩ := condT h
    subst ev
    subst ew
    obtain ⟨n1, n2, n3, n4, n5⟩ := ro_of h0
    have eN : mN (wM M) = mN M + 7 := rfl
    have eC : mC (wM M) = mC M + 7 := rfl
    have eS : mS (wM M) = mS M + 36 := rfl
    refine Wf.alloc (M' := wM M) (by omega) (by omega) (by omega) (by omega) (by omega) (by omega) wM_kO n2 (fun p e R s m args below meth c' H locs cells slots Q D g ad A la hx hb hown hts hK hAO hO hP hD hS hA g1 g2 kx => ?_) (hk _ _ _ _ hh)
    rw [show mC (wM M) - mC M = 7 by omega] at g1 kx
    rw [show mS (wM M) - mS M = 36 by omega] at g2 kx
    obtain ⟨kA, hkA, hkindA⟩ := hAO.2.1
    obtain ⟨-, kC, hkC, c3, hkindC⟩ := (hK.2 1 _ rfl).1 5 (fun _ => .int 0)
    have hnA : s.vm.findClass "[[I" = some (g 12) := (hK.2 4 _ rfl).2
    refine W_multi hx hb hown (hts _ hw) hnA hkA hkindA hkC hkindC hd g1 g2 hS.1 (fun H1 z1 z2 z3 z4 => ?_)
    have hold : ∀ (k : Nat) (x : Nat × va_E), (wl g ad M)[k]? = some x → H1[x.1]? = H[x.1]? := fun k x hx => z2 x.1 ((hP k x hx).lt)
    have ew := wl_grow (g := g) (ad := ad) (ad' := adm ad (mN M) H.size) (M := M) (M' := wM M) (k := 7) hO (adm_o n1) rfl wM_old
    have e0 : er (adm ad (mN M) H.size) (wM M) (mN M + 1) = fun j => if j < 6 then some (H.size + 1 + j) else none := by
      funext j
      have hR : mR (wM M) (mN M + 1) j = if j < 6 then mN M + 2 + j else 0 := if_pos rfl
      unfold er
      rw [hR]
      by_cases hj : j < 6
      · rw [if_pos hj, if_pos hj, show mN M + 2 + j = mN M + 1 + j + 1 by omega]
        show some (adm ad (mN M) H.size (mN M + 1 + j + 1)) = _
        rw [show mN M + 1 + j + 1 = mN M + 1 + (j + 1) by omega, adm_s (by omega)]
        congr 1
        omega
      · rw [if_neg hj, if_neg hj]
    have en0 : en g (adm ad (mN M) H.size) (wM M) (mN M + 1) = .inl (g 12, 6, .inr (.inr (.inr (.inr (fun j => if j < 6 then some (H.size + 1 + j) else none))))) := by
      have hK1 : mK (wM M) (mN M + 1) = (12, 6) := if_pos rfl
      rw [en_q (c := 12) (by rw [hK1]) (by decide), hK1, e0]
    have en1 : ∀ i, i < 6 → en g (adm ad (mN M) H.size) (wM M) (mN M + 1 + (i + 1)) = .inl (g 9, 5, .inl (fun _ => 0)) := by
      intro i hi
      have hK1 : mK (wM M) (mN M + 1 + (i + 1)) = (9, 5) := by
        show (if mN M + 1 + (i + 1) = mN M + 1 then (12, 6) else if mN M < mN M + 1 + (i + 1) ∧ mN M + 1 + (i + 1) ≤ mN M + 7 then (9, 5) else mK M _) = _
        rw [if_neg (by omega), if_pos (by omega)]
      have hI1 : mI (wM M) (mN M + 1 + (i + 1)) = fun _ => 0 := funext fun j => if_pos (by omega)
      rw [en_i (by rw [hK1]), hK1, hI1]
    have hat : ∀ i x, ((List.range 7).map (fun i => (adm ad (mN M) H.size (mN M + 1 + i), en g (adm ad (mN M) H.size) (wM M) (mN M + 1 + i))))[i]? = some x → x.1 = H.size + i ∧ va_at D vwCl x H1 := by
      intro i x hx
      rw [List.getElem?_map] at hx
      by_cases hi : i < 7
      · rw [List.getElem?_range hi] at hx
        cases hx
        refine ⟨adm_s hi, ?_⟩
        cases i with
        | zero =>
          show va_at D vwCl (adm ad (mN M) H.size (mN M + 1 + 0), en g (adm ad (mN M) H.size) (wM M) (mN M + 1)) H1
          rw [en0]
          show H1[adm ad (mN M) H.size (mN M + 1 + 0)]? = some (vp_cell _ _)
          rw [adm_s (by omega), vp_cell_q, Nat.add_zero, z3]
          unfold mo
          congr 2
          funext j
          by_cases hj : j < 6
          · rw [if_pos hj, if_pos hj]; rfl
          · rw [if_neg hj, if_neg hj]; rfl
        | succ i =>
          show va_at D vwCl (adm ad (mN M) H.size (mN M + 1 + (i + 1)), en g (adm ad (mN M) H.size) (wM M) (mN M + 1 + (i + 1))) H1
          rw [en1 i (by omega)]
          show H1[adm ad (mN M) H.size (mN M + 1 + (i + 1))]? = some (vp_cell _ _)
          rw [adm_s hi, vp_cell_i, show H.size + (i + 1) = H.size + 1 + i by omega]
          exact z4 i (by omega)
      · rw [List.getElem?_eq_none (by simp; omega)] at hx
        cases hx
    have := kx (adm ad (mN M) H.size) H1 locs (adm_o n1) (by rw [ew]; exact (hP.kept hold).app (fun i x hx => (hat i x hx).2)) (by
      rw [ew]
      refine va_D.app hD ⟨fun i j x y hx hy hxy => ?_, fun k x hx => ?_⟩ (fun i j x y hx hy hxy => ?_)
      · have := (hat i x hx).1
        have := (hat j y hy).1
        omega
      · rw [(hat k x hx).1]
        exact hA _ (Nat.le_trans hS.1 (Nat.le_add_right _ _))
      · have h1 := (hat j y hy).1
        have h2 : x.1 < H.size := (hP i x hx).lt
        omega) ⟨Nat.le_trans hS.1 (by omega), fun a h1 h2 => (z2 a (Nat.lt_of_lt_of_le h1 hS.1)).trans (hS.2.1 a h1 h2), hS.2.2⟩
    have ea : adm ad (mN M) H.size (mN M + 1) = H.size := adm_s (i := 0) (by decide)
    rw [List.map_cons, iv_ref (show 0 < mN M + 1 from Nat.succ_pos _), ea, ivs_rk (adm_o n1) n3] at this
    exact this
  · exact h.elim
end MULTIO
end
section
/-! memories by lists: the names' kinds, lengths, references; all numbers 0 -/
abbrev Dl : Type := List (Nat × Nat × List Nat)
def kd (D : Dl) : Nat → Nat × Nat
  | 0 => (0, 0)
  | a + 1 => ((D.getD a (0, 0, [])).1, (D.getD a (0, 0, [])).2.1)
def rd (D : Dl) (a i : Nat) : Nat := match a with
  | 0 => 0
  | a + 1 => (D.getD a (0, 0, [])).2.2.getD i 0
def mkD (D : Dl) (s : Nat) (I : Nat → Nat → Int32) : Mm := ((D.length, D.length, s, kd D), I, (fun _ _ => 0), rd D)
def I00 : Nat → Nat → Int32 := fun _ _ => 0
def dA (D : Dl) (k n m : Nat) : Dl := D ++ [(k, n, List.replicate m 0)]
def dR (D : Dl) (a i v : Nat) : Dl := D.modify (a - 1) (fun x => (x.1, x.2.1, x.2.2.set i v))
def rln (D : Dl) (a : Nat) : Nat := (D.getD (a - 1) (0, 0, [])).2.2.length
theorem gd_none {D : Dl} {a : Nat} (h : D.length ≤ a) : D.getD a (0, 0, []) = (0, 0, []) := by
  rw [List.getD_eq_getElem?_getD, List.getElem?_eq_none h]
  rfl
theorem dA_len {D : Dl} {k n m : Nat} : (dA D k n m).length = D.length + 1 := by simp [dA]
theorem dR_len {D : Dl} {a i v : Nat} : (dR D a i v).length = D.length := by simp [dR]
theorem dA_o {D : Dl} {k n m a : Nat} (h : a < D.length) : (dA D k n m).getD a (0, 0, []) = D.getD a (0, 0, []) := by
  unfold dA
  rw [List.getD_eq_getElem?_getD, List.getD_eq_getElem?_getD, List.getElem?_append_left h]
theorem dA_s {D : Dl} {k n m : Nat} : (dA D k n m).getD D.length (0, 0, []) = (k, n, List.replicate m 0) := by
  unfold dA
  rw [List.getD_eq_getElem?_getD, List.getElem?_append_right (Nat.le_refl _), Nat.sub_self]
  rfl
theorem dR_o {D : Dl} {a i v b : Nat} (h : b ≠ a - 1) : (dR D a i v).getD b (0, 0, []) = D.getD b (0, 0, []) := by
  unfold dR
  have e : ¬ a - 1 = b := fun z => h z.symm
  rw [List.getD_eq_getElem?_getD, List.getD_eq_getElem?_getD, List.getElem?_modify]
  simp [e]
theorem dR_s {D : Dl} {a i v : Nat} (h : a - 1 < D.length) : (dR D a i v).getD (a - 1) (0, 0, []) = ((D.getD (a - 1) (0, 0, [])).1, (D.getD (a - 1) (0, 0, [])).2.1, (D.getD (a - 1) (0, 0, [])).2.2.set i v) := by
  unfold dR
  rw [List.getD_eq_getElem?_getD, List.getD_eq_getElem?_getD, List.getElem?_modify, List.getElem?_eq_getElem h]
  simp
/-- the self of a constructor -/
def slf (D : Dl) (a c n : Nat) : Prop := 0 < a ∧ a ≤ D.length ∧ kd D a = (c, 0) ∧ rln D a = n
theorem kd_dA {D : Dl} {k n m a : Nat} (h : a ≤ D.length) : kd (dA D k n m) a = kd D a := by
  cases a with
  | zero => rfl
  | succ a => show (_, _) = (_, _); rw [dA_o h]
theorem kd_dAs {D : Dl} {k n m : Nat} : kd (dA D k n m) (D.length + 1) = (k, n) := by
  show (_, _) = (_, _); rw [dA_s]
theorem kd_dR {D : Dl} {a i v b : Nat} : kd (dR D a i v) b = kd D b := by
  cases b with
  | zero => rfl
  | succ b =>
    by_cases h : b = a - 1
    · by_cases hl : a - 1 < D.length
      · subst h
        show (_, _) = (_, _)
        rw [dR_s hl]
      · have h1 : (dR D a i v).getD b (0, 0, []) = D.getD b (0, 0, []) := by
          rw [List.getD_eq_getElem?_getD, List.getD_eq_getElem?_getD, List.getElem?_eq_none (by rw [dR_len]; omega), List.getElem?_eq_none (by omega)]
        show (_, _) = (_, _); rw [h1]
    · show (_, _) = (_, _); rw [dR_o h]
theorem slf_dA {D : Dl} {a c n k m z : Nat} (h : slf D a c n) : slf (dA D k m z) a c n := by
  obtain ⟨h0, h1, h2, h3⟩ := h
  refine ⟨h0, by rw [dA_len]; omega, by rw [kd_dA h1]; exact h2, ?_⟩
  unfold rln at h3 ⊢
  rw [dA_o (by omega)]
  exact h3
theorem slf_dR {D : Dl} {a c n b i v : Nat} (h : slf D a c n) : slf (dR D b i v) a c n := by
  obtain ⟨h0, h1, h2, h3⟩ := h
  refine ⟨h0, by rw [dR_len]; exact h1, by rw [kd_dR]; exact h2, ?_⟩
  unfold rln at h3 ⊢
  by_cases e : a - 1 = b - 1
  · rw [e, dR_s (by omega), List.length_set, ← e]
    exact h3
  · rw [dR_o e]
    exact h3
theorem slf_new {D : Dl} {c n : Nat} : slf (dA D c 0 n) (D.length + 1) c n := by
  refine ⟨Nat.succ_pos _, by rw [dA_len]; exact Nat.le_refl _, kd_dAs, ?_⟩
  unfold rln
  rw [Nat.add_sub_cancel, dA_s, List.length_replicate]
theorem wA_D {D : Dl} {s k n m z : Nat} {I : Nat → Nat → Int32} (hI : ∀ j, I (D.length + 1) j = 0) : wA (mkD D s I) (k, n) m = mkD (dA D k n z) (s + m) I := by
  have hl := dA_len (D := D) (k := k) (n := n) (m := z)
  have hi : ∀ b : Nat, (if b = D.length + 1 then (k, n) else kd D b) = kd (dA D k n z) b := by
    intro b
    by_cases h : b = D.length + 1
    · rw [if_pos h, h, kd_dAs]
    · rw [if_neg h]
      by_cases h2 : b ≤ D.length
      · rw [kd_dA h2]
      · cases b with
        | zero => rfl
        | succ b =>
          show (_, _) = (_, _)
          rw [List.getD_eq_getElem?_getD, List.getD_eq_getElem?_getD, List.getElem?_eq_none (by omega), List.getElem?_eq_none (by rw [hl]; omega)]
  have hr : ∀ b j : Nat, (if b = D.length + 1 then 0 else rd D b j) = rd (dA D k n z) b j := by
    intro b j
    by_cases h : b = D.length + 1
    · rw [if_pos h, h]
      show 0 = ((dA D k n z).getD D.length (0, 0, [])).2.2.getD j 0
      rw [dA_s]
      show 0 = (List.replicate z 0).getD j 0
      rw [List.getD_eq_getElem?_getD, List.getElem?_replicate]
      split <;> rfl
    · rw [if_neg h]
      cases b with
      | zero => rfl
      | succ b =>
        show ((D.getD b (0, 0, [])).2.2.getD j 0) = ((dA D k n z).getD b (0, 0, [])).2.2.getD j 0
        by_cases h2 : b < D.length
        · rw [dA_o h2]
        · rw [gd_none (D := D) (by omega), gd_none (D := dA D k n z) (by rw [hl]; omega)]
  show ((D.length + 1, D.length + 1, s + m, fun b => if b = D.length + 1 then (k, n) else kd D b), (fun b j => if b = D.length + 1 then 0 else I b j), (fun b j => if b = D.length + 1 then 0 else (0 : Int64)), (fun b j => if b = D.length + 1 then 0 else rd D b j)) = (((dA D k n z).length, (dA D k n z).length, s + m, kd (dA D k n z)), I, (fun _ _ => (0 : Int64)), rd (dA D k n z))
  rw [hl, show (fun b => if b = D.length + 1 then (k, n) else kd D b) = kd (dA D k n z) from funext hi, show (fun b j => if b = D.length + 1 then 0 else rd D b j) = rd (dA D k n z) from funext fun b => funext fun j => hr b j]
  have hII : (fun b j => if b = D.length + 1 then 0 else I b j) = I := by
    funext b j
    by_cases h : b = D.length + 1
    · rw [if_pos h, h, hI j]
    · rw [if_neg h]
  rw [hII]
  simp only [ite_self]
theorem wR_D {D : Dl} {s a i v : Nat} {I : Nat → Nat → Int32} (h0 : 0 < a) (h1 : a ≤ D.length) (h2 : i < rln D a) : wR (mkD D s I) a i v = mkD (dR D a i v) s I := by
  have hl := dR_len (D := D) (a := a) (i := i) (v := v)
  have hr : ∀ b j : Nat, (if b = a ∧ j = i then v else rd D b j) = rd (dR D a i v) b j := by
    intro b j
    cases b with
    | zero => rw [if_neg (by omega)]; rfl
    | succ b =>
      show _ = ((dR D a i v).getD b (0, 0, [])).2.2.getD j 0
      by_cases e : b = a - 1
      · subst e
        rw [dR_s (by omega)]
        show _ = ((D.getD (a - 1) (0, 0, [])).2.2.set i v).getD j 0
        rw [List.getD_eq_getElem?_getD, List.getElem?_set]
        by_cases ej : i = j
        · rw [if_pos ⟨by omega, ej.symm⟩, if_pos ej, if_pos (show i < (D.getD (a - 1) (0, 0, [])).2.2.length from h2)]
          rfl
        · rw [if_neg (fun z => ej z.2.symm), if_neg ej, ← List.getD_eq_getElem?_getD]
          rfl
      · rw [if_neg (by omega), dR_o e]
        rfl
  show ((D.length, D.length, s, kd D), I, (fun _ _ => (0 : Int64)), (fun b j => if b = a ∧ j = i then v else rd D b j)) = (((dR D a i v).length, (dR D a i v).length, s, kd (dR D a i v)), I, (fun _ _ => (0 : Int64)), rd (dR D a i v))
  rw [hl, show kd (dR D a i v) = kd D from funext fun b => kd_dR, show (fun b j => if b = a ∧ j = i then v else rd D b j) = rd (dR D a i v) from funext fun b => funext fun j => hr b j]
theorem wI_D {D : Dl} {s a i : Nat} : wI (mkD D s I00) a i 0 = mkD D s I00 := by
  show ((D.length, D.length, s, kd D), (fun b j => if b = a ∧ j = i then (0 : Int32) else 0), _, _) = _
  simp only [ite_self]
  rfl
end
section
/-! constructors, piece by piece -/
section CHUNK
variable {l : Launch} {X : Nat × (Nat → Int32)} {q : Md} {d : Nat} {na : Bool} {b : Nat × Nat} {pc : Nat} {kr : KR} {ls : Ls} {st : List Value} {M : Mm}
theorem OK.go {o : OP} (h : OK l X q d na b pc o) (k : o (fun pc' ls' st' M' => Wf l X q d na b pc' ls' st' M' kr) kr ls st M) : Wf l X q d na b pc ls st M kr := h _ _ _ _ _ (fun _ _ _ _ z => z) k
theorem kk_D {D : Dl} {s : Nat} {I : Nat → Nat → Int32} {a c n : Nat} (h : 0 < a ∧ a ≤ D.length ∧ kd D a = (c, n)) : kk (mkD D s I) a c = true := by
  unfold kk
  rw [Bool.and_eq_true_iff, Bool.and_eq_true_iff]
  refine ⟨Nat.ble_eq_true_of_le h.1, Nat.ble_eq_true_of_le h.2.1, ?_⟩
  show Nat.beq (kd D a).1 c = true
  rw [h.2.2]
  exact Nat.beq_refl c
theorem rk_le {n a : Nat} (h : a ≤ n) : rk n (.ref a) = true := by
  unfold rk
  show (Nat.ble a n || Nat.ble 4999 a) = true
  rw [Nat.ble_eq_true_of_le h]
  rfl
theorem ro_D {D : Dl} {s : Nat} {I : Nat → Nat → Int32} {k n : Nat} (h1 : D.length + k ≤ 4000) (h2 : ls.all (fun x => rk D.length x.2) = true) (h3 : st.all (rk D.length) = true) (h4 : D.length + k ≤ b.1) (h5 : s + n ≤ b.2) : ro b (mkD D s I) ls st k n = true := by
  unfold ro
  rw [Bool.and_eq_true_iff, Bool.and_eq_true_iff, Bool.and_eq_true_iff, Bool.and_eq_true_iff]
  exact ⟨Nat.ble_eq_true_of_le h1, h2, h3, Nat.ble_eq_true_of_le h4, Nat.ble_eq_true_of_le h5⟩
theorem blt0 {a : Nat} (h : 0 < a) : Nat.blt 0 a = true := Nat.ble_eq_true_of_le h
/-- aload_0 -/
theorem go_a0 {a : Nat} (h : OK l X q d na b pc (oAl pc 1 0)) (h0 : lg ls 0 = some (.ref a)) (ha : 0 < a) (k : Wf l X q d na b (pc + 1) ls (.ref a :: st) M kr) : Wf l X q d na b pc ls st M kr := by
  refine h.go ?_
  show (match lg ls 0 with
    | some (.ref a) => cond (Nat.blt 0 a) (Wf l X q d na b (pc + 1) ls (.ref a :: st) M kr) False
    | _ => False)
  rw [h0]
  show cond (Nat.blt 0 a) _ False
  rw [blt0 ha]
  exact k
/-- a new array in a field -/
def fa (D : Dl) (a k n f : Nat) : Dl := dR (dA D k n 0) a f (D.length + 1)
theorem fa_len {D : Dl} {a k n f : Nat} : (fa D a k n f).length = D.length + 1 := by unfold fa; rw [dR_len, dA_len]
theorem slf_fa {D : Dl} {a k n f b c N : Nat} (h : slf D b c N) : slf (fa D a k n f) b c N := slf_dR (slf_dA h)
theorem als {a n : Nat} (h : a ≤ n) : ([(0, .ref a)] : Ls).all (fun x => rk n x.2) = true := by rw [List.all_cons, rk_le h]; rfl
/-- field := new array -/
theorem ch_arr {D : Dl} {I : Nat → Nat → Int32} {s a c N k n w f p1 p2 p3 p4 : Nat} {v : Int32} (h1 : OK l X q d false b pc (oAl pc 1 0)) (h2 : OK l X q d false b p1 (oIc p1 w v)) (h3 : OK l X q d false b p2 (oNa b p2 k n v)) (h4 : OK l X q d false b p3 (oPR p3 c f)) (e1 : pc + 1 = p1) (e2 : p1 + w = p2) (e3 : p2 + 2 = p3) (e4 : p3 + 3 = p4)
    (hI : ∀ j, I (D.length + 1) j = 0) (hs : slf D a c N) (hf : f < N) (h0 : lg ls 0 = some (.ref a)) (hls : ls.all (fun x => rk D.length x.2) = true) (hn : D.length + 1 ≤ 4000) (hb : D.length + 1 ≤ b.1 ∧ s + n ≤ b.2) (kk0 : Wf l X q d false b p4 ls [] (mkD (fa D a k n f) (s + n) I) kr) : Wf l X q d false b pc ls [] (mkD D s I) kr := by
  subst e1 e2 e3 e4
  refine go_a0 h1 h0 hs.1 ?_
  refine h2.go ?_
  show Wf l X q d false b (pc + 1 + w) ls (.int v :: [.ref a]) (mkD D s I) kr
  refine h3.go ?_
  show cond (ro b (mkD D s I) ls [.ref a] 1 n) (v = v ∧ Wf l X q d false b (pc + 1 + w + 2) ls (.ref (D.length + 1) :: [.ref a]) (wA (mkD D s I) (k, n) n) kr) False
  rw [ro_D hn hls (by rw [List.all_cons, rk_le hs.2.1]; rfl) hb.1 hb.2]
  refine ⟨rfl, ?_⟩
  rw [wA_D (z := 0) hI]
  refine h4.go ?_
  have hs' := slf_dA (k := k) (m := n) (z := 0) hs
  show cond (kk (mkD (dA D k n 0) (s + n) I) a c && (Nat.blt 0 (D.length + 1) && Nat.ble (D.length + 1) (dA D k n 0).length)) (Wf l X q d false b (pc + 1 + w + 2 + 3) ls [] (wR (mkD (dA D k n 0) (s + n) I) a f (D.length + 1)) kr) False
  rw [kk_D ⟨hs'.1, hs'.2.1, hs'.2.2.1⟩, blt0 (Nat.succ_pos _), dA_len, Nat.ble_eq_true_of_le (Nat.le_refl _), wR_D hs'.1 hs'.2.1 (by rw [hs'.2.2.2]; exact hf)]
  exact kk0
/-- field := 0 -/
theorem ch_i0 {D : Dl} {s a c N f p1 p2 p3 : Nat} (h1 : OK l X q d na b pc (oAl pc 1 0)) (h2 : OK l X q d na b p1 (oIc p1 1 0)) (h3 : OK l X q d na b p2 (oPI p2 c f)) (e1 : pc + 1 = p1) (e2 : p1 + 1 = p2) (e3 : p2 + 3 = p3) (hs : slf D a c N) (h0 : lg ls 0 = some (.ref a)) (k : Wf l X q d na b p3 ls [] (mkD D s I00) kr) : Wf l X q d na b pc ls [] (mkD D s I00) kr := by
  subst e1 e2 e3
  refine go_a0 h1 h0 hs.1 ?_
  refine h2.go ?_
  show Wf l X q d na b (pc + 1 + 1) ls (.int 0 :: [.ref a]) (mkD D s I00) kr
  refine h3.go ?_
  show cond (kk (mkD D s I00) a c) (Wf l X q d na b (pc + 1 + 1 + 3) ls [] (wI (mkD D s I00) a f 0) kr) False
  rw [kk_D ⟨hs.1, hs.2.1, hs.2.2.1⟩, wI_D]
  exact k
/-- Object's constructor -/
theorem ch_oi {D : Dl} {s a c N p1 p2 : Nat} (h1 : OK l X q (d + 1) na b pc (oAl pc 1 0)) (h2 : OK l X q (d + 1) na b p1 (oOi p1)) (e1 : pc + 1 = p1) (e2 : p1 + 3 = p2) (hs : slf D a c N) (h0 : lg ls 0 = some (.ref a)) (k : Wf l X q (d + 1) na b p2 ls [] (mkD D s I00) kr) : Wf l X q (d + 1) na b pc ls [] (mkD D s I00) kr := by
  subst e1 e2
  refine go_a0 h1 h0 hs.1 ?_
  refine h2.go ?_
  show cond (Nat.blt 0 a && Nat.ble (cs []) 8) (Wf l X q (d + 1) na b (pc + 1 + 3) ls [] (mkD D s I00) kr) False
  rw [blt0 hs.1]
  exact k
/-- field := new Moment[n] -/
theorem ch_mar {D : Dl} {s a c N n w f p1 p2 p3 p4 : Nat} {v : Int32} (h1 : OK l X q d false b pc (oAl pc 1 0)) (h2 : OK l X q d false b p1 (oIc p1 w v)) (h3 : OK l X q d false b p2 (oNq b p2 n v)) (h4 : OK l X q d false b p3 (oPR p3 c f)) (e1 : pc + 1 = p1) (e2 : p1 + w = p2) (e3 : p2 + 3 = p3) (e4 : p3 + 3 = p4)
    (hs : slf D a c N) (hf : f < N) (h0 : lg ls 0 = some (.ref a)) (hls : ls.all (fun x => rk D.length x.2) = true) (hn : D.length + 1 ≤ 4000) (hb : D.length + 1 ≤ b.1 ∧ s + n ≤ b.2) (kk0 : Wf l X q d false b p4 ls [] (mkD (dR (dA D 11 n n) a f (D.length + 1)) (s + n) I00) kr) : Wf l X q d false b pc ls [] (mkD D s I00) kr := by
  subst e1 e2 e3 e4
  refine go_a0 h1 h0 hs.1 ?_
  refine h2.go ?_
  show Wf l X q d false b (pc + 1 + w) ls (.int v :: [.ref a]) (mkD D s I00) kr
  refine h3.go ?_
  show cond (ro b (mkD D s I00) ls [.ref a] 1 n) (v = v ∧ Wf l X q d false b (pc + 1 + w + 3) ls (.ref (D.length + 1) :: [.ref a]) (wA (mkD D s I00) (11, n) n) kr) False
  rw [ro_D hn hls (by rw [List.all_cons, rk_le hs.2.1]; rfl) hb.1 hb.2]
  refine ⟨rfl, ?_⟩
  rw [wA_D (z := n) (fun _ => rfl)]
  refine h4.go ?_
  have hs' := slf_dA (k := 11) (m := n) (z := n) hs
  show cond (kk (mkD (dA D 11 n n) (s + n) I00) a c && (Nat.blt 0 (D.length + 1) && Nat.ble (D.length + 1) (dA D 11 n n).length)) (Wf l X q d false b (pc + 1 + w + 3 + 3) ls [] (wR (mkD (dA D 11 n n) (s + n) I00) a f (D.length + 1)) kr) False
  rw [kk_D ⟨hs'.1, hs'.2.1, hs'.2.2.1⟩, blt0 (Nat.succ_pos _), dA_len, Nat.ble_eq_true_of_le (Nat.le_refl _), wR_D hs'.1 hs'.2.1 (by rw [hs'.2.2.2]; exact hf)]
  exact kk0
end CHUNK
end
section
theorem oiI : Cond.instanceMethod Lib.objectInit ∈ wB := wB_of 152 (by decide +kernel) (by decide +kernel)
theorem oiC : Cond.code Lib.objectInit ⟨#[0xb1]⟩ 1 none ∈ wB := wB_of 153 (by decide +kernel) (by decide +kernel)
theorem moX6_1 : Cond.methodLink RX6 1 Lib.objectInit ∈ wB := wB_of 151 (by decide +kernel) (by decide +kernel)
theorem moX0_3 : Cond.methodLink RX0 3 Lib.objectInit ∈ wB := wB_of 359 (by decide +kernel) (by decide +kernel)
theorem moX1_3 : Cond.methodLink RX1 3 Lib.objectInit ∈ wB := wB_of 408 (by decide +kernel) (by decide +kernel)
theorem moX2_3 : Cond.methodLink RX2 3 Lib.objectInit ∈ wB := wB_of 327 (by decide +kernel) (by decide +kernel)
theorem moX3_3 : Cond.methodLink RX3 3 Lib.objectInit ∈ wB := wB_of 217 (by decide +kernel) (by decide +kernel)
theorem moX4_3 : Cond.methodLink RX4 3 Lib.objectInit ∈ wB := wB_of 159 (by decide +kernel) (by decide +kernel)
theorem moX5_3 : Cond.methodLink RX5 3 Lib.objectInit ∈ wB := wB_of 394 (by decide +kernel) (by decide +kernel)
theorem moX7_1 : Cond.methodLink RX7 1 Lib.objectInit ∈ wB := wB_of 1245 (by decide +kernel) (by decide +kernel)
theorem clX6_7 : Cond.classLink RX6 7 RX4 ∈ wB := wB_of 154 (by decide +kernel) (by decide +kernel)
theorem clX6_16 : Cond.classLink RX6 16 RX3 ∈ wB := wB_of 212 (by decide +kernel) (by decide +kernel)
theorem clX6_26 : Cond.classLink RX6 26 RX2 ∈ wB := wB_of 322 (by decide +kernel) (by decide +kernel)
theorem clX6_50 : Cond.classLink RX6 50 RX0 ∈ wB := wB_of 354 (by decide +kernel) (by decide +kernel)
theorem clX6_57 : Cond.classLink RX6 57 RX5 ∈ wB := wB_of 389 (by decide +kernel) (by decide +kernel)
theorem clX6_64 : Cond.classLink RX6 64 RX1 ∈ wB := wB_of 403 (by decide +kernel) (by decide +kernel)
theorem clX1_9 : Cond.classLink RX1 9 "[[I" ∈ wB := wB_of 409 (by decide +kernel) (by decide +kernel)
theorem nwi_0 : Cond.instantiable RX0 8 ∈ wB := wB_of 355 (by decide +kernel) (by decide +kernel)
theorem nwj_0 : Cond.initialized RX0 ∈ wB := wB_of 131 (by decide +kernel) (by decide +kernel)
theorem df_0 : ∀ j, j < 8 → defaultValue (tyX0 j) = vp_V (z0 0) j := by
  intro j hj
  rcases (show j = 0 ∨ j = 1 ∨ j = 2 ∨ j = 3 ∨ j = 4 ∨ j = 5 ∨ j = 6 ∨ j = 7 by omega) with rfl | rfl | rfl | rfl | rfl | rfl | rfl | rfl <;> rfl
theorem nwi_1 : Cond.instantiable RX1 9 ∈ wB := wB_of 404 (by decide +kernel) (by decide +kernel)
theorem nwj_1 : Cond.initialized RX1 ∈ wB := wB_of 133 (by decide +kernel) (by decide +kernel)
theorem df_1 : ∀ j, j < 9 → defaultValue (tyX1 j) = vp_V (z0 1) j := by
  intro j hj
  rcases (show j = 0 ∨ j = 1 ∨ j = 2 ∨ j = 3 ∨ j = 4 ∨ j = 5 ∨ j = 6 ∨ j = 7 ∨ j = 8 by omega) with rfl | rfl | rfl | rfl | rfl | rfl | rfl | rfl | rfl <;> rfl
theorem nwi_2 : Cond.instantiable RX2 6 ∈ wB := wB_of 323 (by decide +kernel) (by decide +kernel)
theorem nwj_2 : Cond.initialized RX2 ∈ wB := wB_of 130 (by decide +kernel) (by decide +kernel)
theorem df_2 : ∀ j, j < 6 → defaultValue (tyX2 j) = vp_V (z0 2) j := by
  intro j hj
  rcases (show j = 0 ∨ j = 1 ∨ j = 2 ∨ j = 3 ∨ j = 4 ∨ j = 5 by omega) with rfl | rfl | rfl | rfl | rfl | rfl <;> rfl
theorem nwi_3 : Cond.instantiable RX3 20 ∈ wB := wB_of 213 (by decide +kernel) (by decide +kernel)
theorem nwj_3 : Cond.initialized RX3 ∈ wB := wB_of 129 (by decide +kernel) (by decide +kernel)
theorem df_3 : ∀ j, j < 20 → defaultValue (tyX3 j) = vp_V (z0 3) j := by
  intro j hj
  rcases (show j = 0 ∨ j = 1 ∨ j = 2 ∨ j = 3 ∨ j = 4 ∨ j = 5 ∨ j = 6 ∨ j = 7 ∨ j = 8 ∨ j = 9 ∨ j = 10 ∨ j = 11 ∨ j = 12 ∨ j = 13 ∨ j = 14 ∨ j = 15 ∨ j = 16 ∨ j = 17 ∨ j = 18 ∨ j = 19 by omega) with rfl | rfl | rfl | rfl | rfl | rfl | rfl | rfl | rfl | rfl | rfl | rfl | rfl | rfl | rfl | rfl | rfl | rfl | rfl | rfl <;> rfl
theorem nwi_4 : Cond.instantiable RX4 15 ∈ wB := wB_of 155 (by decide +kernel) (by decide +kernel)
theorem nwj_4 : Cond.initialized RX4 ∈ wB := wB_of 128 (by decide +kernel) (by decide +kernel)
theorem df_4 : ∀ j, j < 15 → defaultValue (tyX4 j) = vp_V (z0 4) j := by
  intro j hj
  rcases (show j = 0 ∨ j = 1 ∨ j = 2 ∨ j = 3 ∨ j = 4 ∨ j = 5 ∨ j = 6 ∨ j = 7 ∨ j = 8 ∨ j = 9 ∨ j = 10 ∨ j = 11 ∨ j = 12 ∨ j = 13 ∨ j = 14 by omega) with rfl | rfl | rfl | rfl | rfl | rfl | rfl | rfl | rfl | rfl | rfl | rfl | rfl | rfl | rfl <;> rfl
theorem nwi_5 : Cond.instantiable RX5 2 ∈ wB := wB_of 390 (by decide +kernel) (by decide +kernel)
theorem nwj_5 : Cond.initialized RX5 ∈ wB := wB_of 132 (by decide +kernel) (by decide +kernel)
theorem df_5 : ∀ j, j < 2 → defaultValue (tyX5 j) = vp_V (z0 5) j := by
  intro j hj
  rcases (show j = 0 ∨ j = 1 by omega) with rfl | rfl <;> rfl
theorem nwi_6 : Cond.instantiable RX6 14 ∈ wB := wB_of 147 (by decide +kernel) (by decide +kernel)
theorem nwj_6 : Cond.initialized RX6 ∈ wB := wB_of 127 (by decide +kernel) (by decide +kernel)
theorem df_6 : ∀ j, j < 14 → defaultValue (tyX6 j) = vp_V (z0 6) j := by
  intro j hj
  rcases (show j = 0 ∨ j = 1 ∨ j = 2 ∨ j = 3 ∨ j = 4 ∨ j = 5 ∨ j = 6 ∨ j = 7 ∨ j = 8 ∨ j = 9 ∨ j = 10 ∨ j = 11 ∨ j = 12 ∨ j = 13 by omega) with rfl | rfl | rfl | rfl | rfl | rfl | rfl | rfl | rfl | rfl | rfl | rfl | rfl | rfl <;> rfl
theorem nwi_7 : Cond.instantiable RX7 44 ∈ wB := wB_of 1241 (by decide +kernel) (by decide +kernel)
theorem nwj_7 : Cond.initialized RX7 ∈ wB := wB_of 134 (by decide +kernel) (by decide +kernel)
theorem df_7 : ∀ j, j < 44 → defaultValue (tyX7 j) = vp_V (z0 7) j := by
  intro j hj
  rcases (show j = 0 ∨ j = 1 ∨ j = 2 ∨ j = 3 ∨ j = 4 ∨ j = 5 ∨ j = 6 ∨ j = 7 ∨ j = 8 ∨ j = 9 ∨ j = 10 ∨ j = 11 ∨ j = 12 ∨ j = 13 ∨ j = 14 ∨ j = 15 ∨ j = 16 ∨ j = 17 ∨ j = 18 ∨ j = 19 ∨ j = 20 ∨ j = 21 ∨ j = 22 ∨ j = 23 ∨ j = 24 ∨ j = 25 ∨ j = 26 ∨ j = 27 ∨ j = 28 ∨ j = 29 ∨ j = 30 ∨ j = 31 ∨ j = 32 ∨ j = 33 ∨ j = 34 ∨ j = 35 ∨ j = 36 ∨ j = 37 ∨ j = 38 ∨ j = 39 ∨ j = 40 ∨ j = 41 ∨ j = 42 ∨ j = 43 by omega) with rfl | rfl | rfl | rfl | rfl | rfl | rfl | rfl | rfl | rfl | rfl | rfl | rfl | rfl | rfl | rfl | rfl | rfl | rfl | rfl | rfl | rfl | rfl | rfl | rfl | rfl | rfl | rfl | rfl | rfl | rfl | rfl | rfl | rfl | rfl | rfl | rfl | rfl | rfl | rfl | rfl | rfl | rfl | rfl <;> rfl
theorem ar_byte : Cond.arrayClass (newarray.typeOf .byte) ∈ wB := wB_of 209 (by decide +kernel) (by decide +kernel)
theorem ar_int : Cond.arrayClass (newarray.typeOf .int) ∈ wB := wB_of 211 (by decide +kernel) (by decide +kernel)
theorem ar_long : Cond.arrayClass (newarray.typeOf .long) ∈ wB := wB_of 210 (by decide +kernel) (by decide +kernel)
theorem ci_X0 : cI uX0_init := ⟨⟨wB_of 358 (by decide +kernel) (by decide +kernel), wB_of 131 (by decide +kernel) (by decide +kernel), by decide +kernel, by decide⟩, rfl, wB_of 357 (by decide +kernel) (by decide +kernel), rfl⟩
theorem ci_X1 : cI uX1_init := ⟨⟨wB_of 407 (by decide +kernel) (by decide +kernel), wB_of 133 (by decide +kernel) (by decide +kernel), by decide +kernel, by decide⟩, rfl, wB_of 406 (by decide +kernel) (by decide +kernel), rfl⟩
theorem ci_X2 : cI uX2_init := ⟨⟨wB_of 326 (by decide +kernel) (by decide +kernel), wB_of 130 (by decide +kernel) (by decide +kernel), by decide +kernel, by decide⟩, rfl, wB_of 325 (by decide +kernel) (by decide +kernel), rfl⟩
theorem ci_X3 : cI uX3_init := ⟨⟨wB_of 216 (by decide +kernel) (by decide +kernel), wB_of 129 (by decide +kernel) (by decide +kernel), by decide +kernel, by decide⟩, rfl, wB_of 215 (by decide +kernel) (by decide +kernel), rfl⟩
theorem ci_X4 : cI uX4_init := ⟨⟨wB_of 158 (by decide +kernel) (by decide +kernel), wB_of 128 (by decide +kernel) (by decide +kernel), by decide +kernel, by decide⟩, rfl, wB_of 157 (by decide +kernel) (by decide +kernel), rfl⟩
theorem ci_X5 : cI uX5_init := ⟨⟨wB_of 393 (by decide +kernel) (by decide +kernel), wB_of 132 (by decide +kernel) (by decide +kernel), by decide +kernel, by decide⟩, rfl, wB_of 392 (by decide +kernel) (by decide +kernel), rfl⟩
theorem ci_X6 : cI uX6_init := ⟨⟨wB_of 150 (by decide +kernel) (by decide +kernel), wB_of 127 (by decide +kernel) (by decide +kernel), by decide +kernel, by decide⟩, rfl, wB_of 149 (by decide +kernel) (by decide +kernel), rfl⟩
theorem ci_X7 : cI uX7_init := ⟨⟨wB_of 1244 (by decide +kernel) (by decide +kernel), wB_of 134 (by decide +kernel) (by decide +kernel), by decide +kernel, by decide⟩, rfl, wB_of 1243 (by decide +kernel) (by decide +kernel), rfl⟩
def ilX0_init : List (Nat × Instr × Nat) := [(0, .aload_n 0, 1), (1, .invokespecial 3, 3), (4, .return_, 1)]
theorem idX0_init : ∀ x ∈ ilX0_init, decode cX0_init x.1 = .ok x.2 := by decide +kernel
def tbX0_init (l : Launch) (X : Nat × (Nat → Int32)) (d : Nat) (b : Nat × Nat) : List (Nat × OP) := [(0, oAl 0 1 0), (1, oOi 1), (4, oVr)]
set_option maxRecDepth 20000 in
theorem tkX0_init {l : Launch} {X : Nat × (Nat → Int32)} {d : Nat} {b : Nat × Nat} : ∀ x ∈ tbX0_init l X d b, OK l X uX0_init (d + 1) false b x.1 x.2 :=
  List.forall_mem_cons.mpr ⟨ok_aload_n (i := 0) (k := 0) rfl (idX0_init (0, .aload_n 0, 1) (List.mem_of_getElem? (i := 0) rfl)), List.forall_mem_cons.mpr ⟨ok_oi oiI oiC moX0_3 (idX0_init (1, .invokespecial 3, 3) (List.mem_of_getElem? (i := 1) rfl)), List.forall_mem_cons.mpr ⟨ok_vr rfl (idX0_init (4, .return_, 1) (List.mem_of_getElem? (i := 2) rfl)), fun _ h => absurd h List.not_mem_nil⟩⟩⟩
def ilX1_init : List (Nat × Instr × Nat) := [(0, .aload_n 0, 1), (1, .invokespecial 3, 3), (4, .aload_n 0, 1), (5, .bipush 6, 2), (7, .iconst 5, 1), (8, .multianewarray 9 2, 4), (12, .putfield 11, 3), (15, .aload_n 0, 1), (16, .bipush 6, 2), (18, .newarray .int, 2), (20, .putfield 16, 3), (23, .aload_n 0, 1), (24, .iconst 5, 1), (25, .newarray .int, 2), (27, .putfield 20, 3), (30, .aload_n 0, 1), (31, .iconst 5, 1), (32, .newarray .int, 2), (34, .putfield 23, 3), (37, .return_, 1)]
theorem idX1_init : ∀ x ∈ ilX1_init, decode cX1_init x.1 = .ok x.2 := by decide +kernel
def tbX1_init (l : Launch) (X : Nat × (Nat → Int32)) (d : Nat) (b : Nat × Nat) : List (Nat × OP) := [(0, oAl 0 1 0), (1, oOi 1), (4, oAl 4 1 0), (5, oIc 5 2 6), (7, oIc 7 1 5), (8, oN2 b 8), (12, oPR 12 1 0), (15, oAl 15 1 0), (16, oIc 16 2 6), (18, oNa b 18 9 6 6), (20, oPR 20 1 1), (23, oAl 23 1 0), (24, oIc 24 1 5), (25, oNa b 25 9 5 5), (27, oPR 27 1 2), (30, oAl 30 1 0), (31, oIc 31 1 5), (32, oNa b 32 9 5 5), (34, oPR 34 1 3), (37, oVr)]
set_option maxRecDepth 20000 in
theorem tkX1_init {l : Launch} {X : Nat × (Nat → Int32)} {d : Nat} {b : Nat × Nat} : ∀ x ∈ tbX1_init l X d b, OK l X uX1_init (d + 1) false b x.1 x.2 :=
  List.forall_mem_cons.mpr ⟨ok_aload_n (i := 0) (k := 0) rfl (idX1_init (0, .aload_n 0, 1) (List.mem_of_getElem? (i := 0) rfl)), List.forall_mem_cons.mpr ⟨ok_oi oiI oiC moX1_3 (idX1_init (1, .invokespecial 3, 3) (List.mem_of_getElem? (i := 1) rfl)), List.forall_mem_cons.mpr ⟨ok_aload_n (i := 0) (k := 0) rfl (idX1_init (4, .aload_n 0, 1) (List.mem_of_getElem? (i := 2) rfl)), List.forall_mem_cons.mpr ⟨ok_bipush (n := 6) (v := 6) (by decide) (idX1_init (5, .bipush 6, 2) (List.mem_of_getElem? (i := 3) rfl)), List.forall_mem_cons.mpr ⟨ok_iconst (n := 5) (v := 5) (by decide) (idX1_init (7, .iconst 5, 1) (List.mem_of_getElem? (i := 4) rfl)), List.forall_mem_cons.mpr ⟨ok_n2 clX1_9 (idX1_init (8, .multianewarray 9 2, 4) (List.mem_of_getElem? (i := 5) rfl)), List.forall_mem_cons.mpr ⟨ok_putRFA (c := 1) (k := 0) (T := TX1) (N := 9) tyX1 tyX1_ok nmX1 rfl inB1 (by decide) rfl rfl rfl (tyX1_ok 0 (by decide)) flX1_11 (idX1_init (12, .putfield 11, 3) (List.mem_of_getElem? (i := 6) rfl)), List.forall_mem_cons.mpr ⟨ok_aload_n (i := 0) (k := 0) rfl (idX1_init (15, .aload_n 0, 1) (List.mem_of_getElem? (i := 7) rfl)), List.forall_mem_cons.mpr ⟨ok_bipush (n := 6) (v := 6) (by decide) (idX1_init (16, .bipush 6, 2) (List.mem_of_getElem? (i := 8) rfl)), List.forall_mem_cons.mpr ⟨ok_na (k := 9) (n := 6) (v0 := 6) rfl (Or.inr (Or.inl ⟨rfl, rfl, rfl⟩)) ⟨by decide, by decide, by decide⟩ ar_int (idX1_init (18, .newarray .int, 2) (List.mem_of_getElem? (i := 9) rfl)), List.forall_mem_cons.mpr ⟨ok_putRFA (c := 1) (k := 1) (T := TX1) (N := 9) tyX1 tyX1_ok nmX1 rfl inB1 (by decide) rfl rfl rfl (tyX1_ok 1 (by decide)) flX1_16 (idX1_init (20, .putfield 16, 3) (List.mem_of_getElem? (i := 10) rfl)), List.forall_mem_cons.mpr ⟨ok_aload_n (i := 0) (k := 0) rfl (idX1_init (23, .aload_n 0, 1) (List.mem_of_getElem? (i := 11) rfl)), List.forall_mem_cons.mpr ⟨ok_iconst (n := 5) (v := 5) (by decide) (idX1_init (24, .iconst 5, 1) (List.mem_of_getElem? (i := 12) rfl)), List.forall_mem_cons.mpr ⟨ok_na (k := 9) (n := 5) (v0 := 5) rfl (Or.inr (Or.inl ⟨rfl, rfl, rfl⟩)) ⟨by decide, by decide, by decide⟩ ar_int (idX1_init (25, .newarray .int, 2) (List.mem_of_getElem? (i := 13) rfl)), List.forall_mem_cons.mpr ⟨ok_putRFA (c := 1) (k := 2) (T := TX1) (N := 9) tyX1 tyX1_ok nmX1 rfl inB1 (by decide) rfl rfl rfl (tyX1_ok 2 (by decide)) flX1_20 (idX1_init (27, .putfield 20, 3) (List.mem_of_getElem? (i := 14) rfl)), List.forall_mem_cons.mpr ⟨ok_aload_n (i := 0) (k := 0) rfl (idX1_init (30, .aload_n 0, 1) (List.mem_of_getElem? (i := 15) rfl)), List.forall_mem_cons.mpr ⟨ok_iconst (n := 5) (v := 5) (by decide) (idX1_init (31, .iconst 5, 1) (List.mem_of_getElem? (i := 16) rfl)), List.forall_mem_cons.mpr ⟨ok_na (k := 9) (n := 5) (v0 := 5) rfl (Or.inr (Or.inl ⟨rfl, rfl, rfl⟩)) ⟨by decide, by decide, by decide⟩ ar_int (idX1_init (32, .newarray .int, 2) (List.mem_of_getElem? (i := 17) rfl)), List.forall_mem_cons.mpr ⟨ok_putRFA (c := 1) (k := 3) (T := TX1) (N := 9) tyX1 tyX1_ok nmX1 rfl inB1 (by decide) rfl rfl rfl (tyX1_ok 3 (by decide)) flX1_23 (idX1_init (34, .putfield 23, 3) (List.mem_of_getElem? (i := 18) rfl)), List.forall_mem_cons.mpr ⟨ok_vr rfl (idX1_init (37, .return_, 1) (List.mem_of_getElem? (i := 19) rfl)), fun _ h => absurd h List.not_mem_nil⟩⟩⟩⟩⟩⟩⟩⟩⟩⟩⟩⟩⟩⟩⟩⟩⟩⟩⟩⟩
def ilX2_init : List (Nat × Instr × Nat) := [(0, .aload_n 0, 1), (1, .invokespecial 3, 3), (4, .aload_n 0, 1), (5, .bipush 6, 2), (7, .newarray .int, 2), (9, .putfield 9, 3), (12, .aload_n 0, 1), (13, .bipush 6, 2), (15, .newarray .int, 2), (17, .putfield 15, 3), (20, .aload_n 0, 1), (21, .bipush 6, 2), (23, .newarray .int, 2), (25, .putfield 18, 3), (28, .aload_n 0, 1), (29, .iconst 5, 1), (30, .newarray .int, 2), (32, .putfield 21, 3), (35, .return_, 1)]
theorem idX2_init : ∀ x ∈ ilX2_init, decode cX2_init x.1 = .ok x.2 := by decide +kernel
def tbX2_init (l : Launch) (X : Nat × (Nat → Int32)) (d : Nat) (b : Nat × Nat) : List (Nat × OP) := [(0, oAl 0 1 0), (1, oOi 1), (4, oAl 4 1 0), (5, oIc 5 2 6), (7, oNa b 7 9 6 6), (9, oPR 9 2 0), (12, oAl 12 1 0), (13, oIc 13 2 6), (15, oNa b 15 9 6 6), (17, oPR 17 2 1), (20, oAl 20 1 0), (21, oIc 21 2 6), (23, oNa b 23 9 6 6), (25, oPR 25 2 2), (28, oAl 28 1 0), (29, oIc 29 1 5), (30, oNa b 30 9 5 5), (32, oPR 32 2 3), (35, oVr)]
set_option maxRecDepth 20000 in
theorem tkX2_init {l : Launch} {X : Nat × (Nat → Int32)} {d : Nat} {b : Nat × Nat} : ∀ x ∈ tbX2_init l X d b, OK l X uX2_init (d + 1) false b x.1 x.2 :=
  List.forall_mem_cons.mpr ⟨ok_aload_n (i := 0) (k := 0) rfl (idX2_init (0, .aload_n 0, 1) (List.mem_of_getElem? (i := 0) rfl)), List.forall_mem_cons.mpr ⟨ok_oi oiI oiC moX2_3 (idX2_init (1, .invokespecial 3, 3) (List.mem_of_getElem? (i := 1) rfl)), List.forall_mem_cons.mpr ⟨ok_aload_n (i := 0) (k := 0) rfl (idX2_init (4, .aload_n 0, 1) (List.mem_of_getElem? (i := 2) rfl)), List.forall_mem_cons.mpr ⟨ok_bipush (n := 6) (v := 6) (by decide) (idX2_init (5, .bipush 6, 2) (List.mem_of_getElem? (i := 3) rfl)), List.forall_mem_cons.mpr ⟨ok_na (k := 9) (n := 6) (v0 := 6) rfl (Or.inr (Or.inl ⟨rfl, rfl, rfl⟩)) ⟨by decide, by decide, by decide⟩ ar_int (idX2_init (7, .newarray .int, 2) (List.mem_of_getElem? (i := 4) rfl)), List.forall_mem_cons.mpr ⟨ok_putRFA (c := 2) (k := 0) (T := TX2) (N := 6) tyX2 tyX2_ok nmX2 rfl inB2 (by decide) rfl rfl rfl (tyX2_ok 0 (by decide)) flX2_9 (idX2_init (9, .putfield 9, 3) (List.mem_of_getElem? (i := 5) rfl)), List.forall_mem_cons.mpr ⟨ok_aload_n (i := 0) (k := 0) rfl (idX2_init (12, .aload_n 0, 1) (List.mem_of_getElem? (i := 6) rfl)), List.forall_mem_cons.mpr ⟨ok_bipush (n := 6) (v := 6) (by decide) (idX2_init (13, .bipush 6, 2) (List.mem_of_getElem? (i := 7) rfl)), List.forall_mem_cons.mpr ⟨ok_na (k := 9) (n := 6) (v0 := 6) rfl (Or.inr (Or.inl ⟨rfl, rfl, rfl⟩)) ⟨by decide, by decide, by decide⟩ ar_int (idX2_init (15, .newarray .int, 2) (List.mem_of_getElem? (i := 8) rfl)), List.forall_mem_cons.mpr ⟨ok_putRFA (c := 2) (k := 1) (T := TX2) (N := 6) tyX2 tyX2_ok nmX2 rfl inB2 (by decide) rfl rfl rfl (tyX2_ok 1 (by decide)) flX2_15 (idX2_init (17, .putfield 15, 3) (List.mem_of_getElem? (i := 9) rfl)), List.forall_mem_cons.mpr ⟨ok_aload_n (i := 0) (k := 0) rfl (idX2_init (20, .aload_n 0, 1) (List.mem_of_getElem? (i := 10) rfl)), List.forall_mem_cons.mpr ⟨ok_bipush (n := 6) (v := 6) (by decide) (idX2_init (21, .bipush 6, 2) (List.mem_of_getElem? (i := 11) rfl)), List.forall_mem_cons.mpr ⟨ok_na (k := 9) (n := 6) (v0 := 6) rfl (Or.inr (Or.inl ⟨rfl, rfl, rfl⟩)) ⟨by decide, by decide, by decide⟩ ar_int (idX2_init (23, .newarray .int, 2) (List.mem_of_getElem? (i := 12) rfl)), List.forall_mem_cons.mpr ⟨ok_putRFA (c := 2) (k := 2) (T := TX2) (N := 6) tyX2 tyX2_ok nmX2 rfl inB2 (by decide) rfl rfl rfl (tyX2_ok 2 (by decide)) flX2_18 (idX2_init (25, .putfield 18, 3) (List.mem_of_getElem? (i := 13) rfl)), List.forall_mem_cons.mpr ⟨ok_aload_n (i := 0) (k := 0) rfl (idX2_init (28, .aload_n 0, 1) (List.mem_of_getElem? (i := 14) rfl)), List.forall_mem_cons.mpr ⟨ok_iconst (n := 5) (v := 5) (by decide) (idX2_init (29, .iconst 5, 1) (List.mem_of_getElem? (i := 15) rfl)), List.forall_mem_cons.mpr ⟨ok_na (k := 9) (n := 5) (v0 := 5) rfl (Or.inr (Or.inl ⟨rfl, rfl, rfl⟩)) ⟨by decide, by decide, by decide⟩ ar_int (idX2_init (30, .newarray .int, 2) (List.mem_of_getElem? (i := 16) rfl)), List.forall_mem_cons.mpr ⟨ok_putRFA (c := 2) (k := 3) (T := TX2) (N := 6) tyX2 tyX2_ok nmX2 rfl inB2 (by decide) rfl rfl rfl (tyX2_ok 3 (by decide)) flX2_21 (idX2_init (32, .putfield 21, 3) (List.mem_of_getElem? (i := 17) rfl)), List.forall_mem_cons.mpr ⟨ok_vr rfl (idX2_init (35, .return_, 1) (List.mem_of_getElem? (i := 18) rfl)), fun _ h => absurd h List.not_mem_nil⟩⟩⟩⟩⟩⟩⟩⟩⟩⟩⟩⟩⟩⟩⟩⟩⟩⟩⟩
def ilX3_init : List (Nat × Instr × Nat) := [(0, .aload_n 0, 1), (1, .invokespecial 3, 3), (4, .aload_n 0, 1), (5, .bipush 6, 2), (7, .newarray .int, 2), (9, .putfield 9, 3), (12, .aload_n 0, 1), (13, .bipush 6, 2), (15, .newarray .int, 2), (17, .putfield 15, 3), (20, .aload_n 0, 1), (21, .bipush 6, 2), (23, .newarray .int, 2), (25, .putfield 18, 3), (28, .aload_n 0, 1), (29, .bipush 6, 2), (31, .newarray .int, 2), (33, .putfield 21, 3), (36, .aload_n 0, 1), (37, .bipush 6, 2), (39, .newarray .int, 2), (41, .putfield 24, 3), (44, .aload_n 0, 1), (45, .iconst 5, 1), (46, .newarray .int, 2), (48, .putfield 27, 3), (51, .aload_n 0, 1), (52, .iconst 5, 1), (53, .newarray .int, 2), (55, .putfield 30, 3), (58, .aload_n 0, 1), (59, .iconst 5, 1), (60, .newarray .int, 2), (62, .putfield 33, 3), (65, .aload_n 0, 1), (66, .iconst 4, 1), (67, .newarray .int, 2), (69, .putfield 36, 3), (72, .aload_n 0, 1), (73, .iconst 4, 1), (74, .newarray .int, 2), (76, .putfield 39, 3), (79, .aload_n 0, 1), (80, .iconst 4, 1), (81, .newarray .int, 2), (83, .putfield 42, 3), (86, .aload_n 0, 1), (87, .iconst 4, 1), (88, .newarray .int, 2), (90, .putfield 45, 3), (93, .return_, 1)]
theorem idX3_init : ∀ x ∈ ilX3_init, decode cX3_init x.1 = .ok x.2 := by decide +kernel
def tbX3_init (l : Launch) (X : Nat × (Nat → Int32)) (d : Nat) (b : Nat × Nat) : List (Nat × OP) := [(0, oAl 0 1 0), (1, oOi 1), (4, oAl 4 1 0), (5, oIc 5 2 6), (7, oNa b 7 9 6 6), (9, oPR 9 3 5), (12, oAl 12 1 0), (13, oIc 13 2 6), (15, oNa b 15 9 6 6), (17, oPR 17 3 6), (20, oAl 20 1 0), (21, oIc 21 2 6), (23, oNa b 23 9 6 6), (25, oPR 25 3 7), (28, oAl 28 1 0), (29, oIc 29 2 6), (31, oNa b 31 9 6 6), (33, oPR 33 3 8), (36, oAl 36 1 0), (37, oIc 37 2 6), (39, oNa b 39 9 6 6), (41, oPR 41 3 9), (44, oAl 44 1 0), (45, oIc 45 1 5), (46, oNa b 46 9 5 5), (48, oPR 48 3 11), (51, oAl 51 1 0), (52, oIc 52 1 5), (53, oNa b 53 9 5 5), (55, oPR 55 3 12), (58, oAl 58 1 0), (59, oIc 59 1 5), (60, oNa b 60 9 5 5), (62, oPR 62 3 13), (65, oAl 65 1 0), (66, oIc 66 1 4), (67, oNa b 67 9 4 4), (69, oPR 69 3 15), (72, oAl 72 1 0), (73, oIc 73 1 4), (74, oNa b 74 9 4 4), (76, oPR 76 3 16), (79, oAl 79 1 0), (80, oIc 80 1 4), (81, oNa b 81 9 4 4), (83, oPR 83 3 18), (86, oAl 86 1 0), (87, oIc 87 1 4), (88, oNa b 88 9 4 4), (90, oPR 90 3 19), (93, oVr)]
set_option maxRecDepth 20000 in
theorem tkX3_init {l : Launch} {X : Nat × (Nat → Int32)} {d : Nat} {b : Nat × Nat} : ∀ x ∈ tbX3_init l X d b, OK l X uX3_init (d + 1) false b x.1 x.2 :=
  List.forall_mem_cons.mpr ⟨ok_aload_n (i := 0) (k := 0) rfl (idX3_init (0, .aload_n 0, 1) (List.mem_of_getElem? (i := 0) rfl)), List.forall_mem_cons.mpr ⟨ok_oi oiI oiC moX3_3 (idX3_init (1, .invokespecial 3, 3) (List.mem_of_getElem? (i := 1) rfl)), List.forall_mem_cons.mpr ⟨ok_aload_n (i := 0) (k := 0) rfl (idX3_init (4, .aload_n 0, 1) (List.mem_of_getElem? (i := 2) rfl)), List.forall_mem_cons.mpr ⟨ok_bipush (n := 6) (v := 6) (by decide) (idX3_init (5, .bipush 6, 2) (List.mem_of_getElem? (i := 3) rfl)), List.forall_mem_cons.mpr ⟨ok_na (k := 9) (n := 6) (v0 := 6) rfl (Or.inr (Or.inl ⟨rfl, rfl, rfl⟩)) ⟨by decide, by decide, by decide⟩ ar_int (idX3_init (7, .newarray .int, 2) (List.mem_of_getElem? (i := 4) rfl)), List.forall_mem_cons.mpr ⟨ok_putRFA (c := 3) (k := 5) (T := TX3) (N := 20) tyX3 tyX3_ok nmX3 rfl inB3 (by decide) rfl rfl rfl (tyX3_ok 5 (by decide)) flX3_9 (idX3_init (9, .putfield 9, 3) (List.mem_of_getElem? (i := 5) rfl)), List.forall_mem_cons.mpr ⟨ok_aload_n (i := 0) (k := 0) rfl (idX3_init (12, .aload_n 0, 1) (List.mem_of_getElem? (i := 6) rfl)), List.forall_mem_cons.mpr ⟨ok_bipush (n := 6) (v := 6) (by decide) (idX3_init (13, .bipush 6, 2) (List.mem_of_getElem? (i := 7) rfl)), List.forall_mem_cons.mpr ⟨ok_na (k := 9) (n := 6) (v0 := 6) rfl (Or.inr (Or.inl ⟨rfl, rfl, rfl⟩)) ⟨by decide, by decide, by decide⟩ ar_int (idX3_init (15, .newarray .int, 2) (List.mem_of_getElem? (i := 8) rfl)), List.forall_mem_cons.mpr ⟨ok_putRFA (c := 3) (k := 6) (T := TX3) (N := 20) tyX3 tyX3_ok nmX3 rfl inB3 (by decide) rfl rfl rfl (tyX3_ok 6 (by decide)) flX3_15 (idX3_init (17, .putfield 15, 3) (List.mem_of_getElem? (i := 9) rfl)), List.forall_mem_cons.mpr ⟨ok_aload_n (i := 0) (k := 0) rfl (idX3_init (20, .aload_n 0, 1) (List.mem_of_getElem? (i := 10) rfl)), List.forall_mem_cons.mpr ⟨ok_bipush (n := 6) (v := 6) (by decide) (idX3_init (21, .bipush 6, 2) (List.mem_of_getElem? (i := 11) rfl)), List.forall_mem_cons.mpr ⟨ok_na (k := 9) (n := 6) (v0 := 6) rfl (Or.inr (Or.inl ⟨rfl, rfl, rfl⟩)) ⟨by decide, by decide, by decide⟩ ar_int (idX3_init (23, .newarray .int, 2) (List.mem_of_getElem? (i := 12) rfl)), List.forall_mem_cons.mpr ⟨ok_putRFA (c := 3) (k := 7) (T := TX3) (N := 20) tyX3 tyX3_ok nmX3 rfl inB3 (by decide) rfl rfl rfl (tyX3_ok 7 (by decide)) flX3_18 (idX3_init (25, .putfield 18, 3) (List.mem_of_getElem? (i := 13) rfl)), List.forall_mem_cons.mpr ⟨ok_aload_n (i := 0) (k := 0) rfl (idX3_init (28, .aload_n 0, 1) (List.mem_of_getElem? (i := 14) rfl)), List.forall_mem_cons.mpr ⟨ok_bipush (n := 6) (v := 6) (by decide) (idX3_init (29, .bipush 6, 2) (List.mem_of_getElem? (i := 15) rfl)), List.forall_mem_cons.mpr ⟨ok_na (k := 9) (n := 6) (v0 := 6) rfl (Or.inr (Or.inl ⟨rfl, rfl, rfl⟩)) ⟨by decide, by decide, by decide⟩ ar_int (idX3_init (31, .newarray .int, 2) (List.mem_of_getElem? (i := 16) rfl)), List.forall_mem_cons.mpr ⟨ok_putRFA (c := 3) (k := 8) (T := TX3) (N := 20) tyX3 tyX3_ok nmX3 rfl inB3 (by decide) rfl rfl rfl (tyX3_ok 8 (by decide)) flX3_21 (idX3_init (33, .putfield 21, 3) (List.mem_of_getElem? (i := 17) rfl)), List.forall_mem_cons.mpr ⟨ok_aload_n (i := 0) (k := 0) rfl (idX3_init (36, .aload_n 0, 1) (List.mem_of_getElem? (i := 18) rfl)), List.forall_mem_cons.mpr ⟨ok_bipush (n := 6) (v := 6) (by decide) (idX3_init (37, .bipush 6, 2) (List.mem_of_getElem? (i := 19) rfl)), List.forall_mem_cons.mpr ⟨ok_na (k := 9) (n := 6) (v0 := 6) rfl (Or.inr (Or.inl ⟨rfl, rfl, rfl⟩)) ⟨by decide, by decide, by decide⟩ ar_int (idX3_init (39, .newarray .int, 2) (List.mem_of_getElem? (i := 20) rfl)), List.forall_mem_cons.mpr ⟨ok_putRFA (c := 3) (k := 9) (T := TX3) (N := 20) tyX3 tyX3_ok nmX3 rfl inB3 (by decide) rfl rfl rfl (tyX3_ok 9 (by decide)) flX3_24 (idX3_init (41, .putfield 24, 3) (List.mem_of_getElem? (i := 21) rfl)), List.forall_mem_cons.mpr ⟨ok_aload_n (i := 0) (k := 0) rfl (idX3_init (44, .aload_n 0, 1) (List.mem_of_getElem? (i := 22) rfl)), List.forall_mem_cons.mpr ⟨ok_iconst (n := 5) (v := 5) (by decide) (idX3_init (45, .iconst 5, 1) (List.mem_of_getElem? (i := 23) rfl)), List.forall_mem_cons.mpr ⟨ok_na (k := 9) (n := 5) (v0 := 5) rfl (Or.inr (Or.inl ⟨rfl, rfl, rfl⟩)) ⟨by decide, by decide, by decide⟩ ar_int (idX3_init (46, .newarray .int, 2) (List.mem_of_getElem? (i := 24) rfl)), List.forall_mem_cons.mpr ⟨ok_putRFA (c := 3) (k := 11) (T := TX3) (N := 20) tyX3 tyX3_ok nmX3 rfl inB3 (by decide) rfl rfl rfl (tyX3_ok 11 (by decide)) flX3_27 (idX3_init (48, .putfield 27, 3) (List.mem_of_getElem? (i := 25) rfl)), List.forall_mem_cons.mpr ⟨ok_aload_n (i := 0) (k := 0) rfl (idX3_init (51, .aload_n 0, 1) (List.mem_of_getElem? (i := 26) rfl)), List.forall_mem_cons.mpr ⟨ok_iconst (n := 5) (v := 5) (by decide) (idX3_init (52, .iconst 5, 1) (List.mem_of_getElem? (i := 27) rfl)), List.forall_mem_cons.mpr ⟨ok_na (k := 9) (n := 5) (v0 := 5) rfl (Or.inr (Or.inl ⟨rfl, rfl, rfl⟩)) ⟨by decide, by decide, by decide⟩ ar_int (idX3_init (53, .newarray .int, 2) (List.mem_of_getElem? (i := 28) rfl)), List.forall_mem_cons.mpr ⟨ok_putRFA (c := 3) (k := 12) (T := TX3) (N := 20) tyX3 tyX3_ok nmX3 rfl inB3 (by decide) rfl rfl rfl (tyX3_ok 12 (by decide)) flX3_30 (idX3_init (55, .putfield 30, 3) (List.mem_of_getElem? (i := 29) rfl)), List.forall_mem_cons.mpr ⟨ok_aload_n (i := 0) (k := 0) rfl (idX3_init (58, .aload_n 0, 1) (List.mem_of_getElem? (i := 30) rfl)), List.forall_mem_cons.mpr ⟨ok_iconst (n := 5) (v := 5) (by decide) (idX3_init (59, .iconst 5, 1) (List.mem_of_getElem? (i := 31) rfl)), List.forall_mem_cons.mpr ⟨ok_na (k := 9) (n := 5) (v0 := 5) rfl (Or.inr (Or.inl ⟨rfl, rfl, rfl⟩)) ⟨by decide, by decide, by decide⟩ ar_int (idX3_init (60, .newarray .int, 2) (List.mem_of_getElem? (i := 32) rfl)), List.forall_mem_cons.mpr ⟨ok_putRFA (c := 3) (k := 13) (T := TX3) (N := 20) tyX3 tyX3_ok nmX3 rfl inB3 (by decide) rfl rfl rfl (tyX3_ok 13 (by decide)) flX3_33 (idX3_init (62, .putfield 33, 3) (List.mem_of_getElem? (i := 33) rfl)), List.forall_mem_cons.mpr ⟨ok_aload_n (i := 0) (k := 0) rfl (idX3_init (65, .aload_n 0, 1) (List.mem_of_getElem? (i := 34) rfl)), List.forall_mem_cons.mpr ⟨ok_iconst (n := 4) (v := 4) (by decide) (idX3_init (66, .iconst 4, 1) (List.mem_of_getElem? (i := 35) rfl)), List.forall_mem_cons.mpr ⟨ok_na (k := 9) (n := 4) (v0 := 4) rfl (Or.inr (Or.inl ⟨rfl, rfl, rfl⟩)) ⟨by decide, by decide, by decide⟩ ar_int (idX3_init (67, .newarray .int, 2) (List.mem_of_getElem? (i := 36) rfl)), List.forall_mem_cons.mpr ⟨ok_putRFA (c := 3) (k := 15) (T := TX3) (N := 20) tyX3 tyX3_ok nmX3 rfl inB3 (by decide) rfl rfl rfl (tyX3_ok 15 (by decide)) flX3_36 (idX3_init (69, .putfield 36, 3) (List.mem_of_getElem? (i := 37) rfl)), List.forall_mem_cons.mpr ⟨ok_aload_n (i := 0) (k := 0) rfl (idX3_init (72, .aload_n 0, 1) (List.mem_of_getElem? (i := 38) rfl)), List.forall_mem_cons.mpr ⟨ok_iconst (n := 4) (v := 4) (by decide) (idX3_init (73, .iconst 4, 1) (List.mem_of_getElem? (i := 39) rfl)), List.forall_mem_cons.mpr ⟨ok_na (k := 9) (n := 4) (v0 := 4) rfl (Or.inr (Or.inl ⟨rfl, rfl, rfl⟩)) ⟨by decide, by decide, by decide⟩ ar_int (idX3_init (74, .newarray .int, 2) (List.mem_of_getElem? (i := 40) rfl)), List.forall_mem_cons.mpr ⟨ok_putRFA (c := 3) (k := 16) (T := TX3) (N := 20) tyX3 tyX3_ok nmX3 rfl inB3 (by decide) rfl rfl rfl (tyX3_ok 16 (by decide)) flX3_39 (idX3_init (76, .putfield 39, 3) (List.mem_of_getElem? (i := 41) rfl)), List.forall_mem_cons.mpr ⟨ok_aload_n (i := 0) (k := 0) rfl (idX3_init (79, .aload_n 0, 1) (List.mem_of_getElem? (i := 42) rfl)), List.forall_mem_cons.mpr ⟨ok_iconst (n := 4) (v := 4) (by decide) (idX3_init (80, .iconst 4, 1) (List.mem_of_getElem? (i := 43) rfl)), List.forall_mem_cons.mpr ⟨ok_na (k := 9) (n := 4) (v0 := 4) rfl (Or.inr (Or.inl ⟨rfl, rfl, rfl⟩)) ⟨by decide, by decide, by decide⟩ ar_int (idX3_init (81, .newarray .int, 2) (List.mem_of_getElem? (i := 44) rfl)), List.forall_mem_cons.mpr ⟨ok_putRFA (c := 3) (k := 18) (T := TX3) (N := 20) tyX3 tyX3_ok nmX3 rfl inB3 (by decide) rfl rfl rfl (tyX3_ok 18 (by decide)) flX3_42 (idX3_init (83, .putfield 42, 3) (List.mem_of_getElem? (i := 45) rfl)), List.forall_mem_cons.mpr ⟨ok_aload_n (i := 0) (k := 0) rfl (idX3_init (86, .aload_n 0, 1) (List.mem_of_getElem? (i := 46) rfl)), List.forall_mem_cons.mpr ⟨ok_iconst (n := 4) (v := 4) (by decide) (idX3_init (87, .iconst 4, 1) (List.mem_of_getElem? (i := 47) rfl)), List.forall_mem_cons.mpr ⟨ok_na (k := 9) (n := 4) (v0 := 4) rfl (Or.inr (Or.inl ⟨rfl, rfl, rfl⟩)) ⟨by decide, by decide, by decide⟩ ar_int (idX3_init (88, .newarray .int, 2) (List.mem_of_getElem? (i := 48) rfl)), List.forall_mem_cons.mpr ⟨ok_putRFA (c := 3) (k := 19) (T := TX3) (N := 20) tyX3 tyX3_ok nmX3 rfl inB3 (by decide) rfl rfl rfl (tyX3_ok 19 (by decide)) flX3_45 (idX3_init (90, .putfield 45, 3) (List.mem_of_getElem? (i := 49) rfl)), List.forall_mem_cons.mpr ⟨ok_vr rfl (idX3_init (93, .return_, 1) (List.mem_of_getElem? (i := 50) rfl)), fun _ h => absurd h List.not_mem_nil⟩⟩⟩⟩⟩⟩⟩⟩⟩⟩⟩⟩⟩⟩⟩⟩⟩⟩⟩⟩⟩⟩⟩⟩⟩⟩⟩⟩⟩⟩⟩⟩⟩⟩⟩⟩⟩⟩⟩⟩⟩⟩⟩⟩⟩⟩⟩⟩⟩⟩⟩
def ilX4_init : List (Nat × Instr × Nat) := [(0, .aload_n 0, 1), (1, .invokespecial 3, 3), (4, .aload_n 0, 1), (5, .sipush 900, 3), (8, .newarray .byte, 2), (10, .putfield 9, 3), (13, .aload_n 0, 1), (14, .bipush 15, 2), (16, .newarray .long, 2), (18, .putfield 15, 3), (21, .aload_n 0, 1), (22, .bipush 15, 2), (24, .newarray .int, 2), (26, .putfield 19, 3), (29, .aload_n 0, 1), (30, .bipush 15, 2), (32, .newarray .int, 2), (34, .putfield 23, 3), (37, .return_, 1)]
theorem idX4_init : ∀ x ∈ ilX4_init, decode cX4_init x.1 = .ok x.2 := by decide +kernel
def tbX4_init (l : Launch) (X : Nat × (Nat → Int32)) (d : Nat) (b : Nat × Nat) : List (Nat × OP) := [(0, oAl 0 1 0), (1, oOi 1), (4, oAl 4 1 0), (5, oIc 5 3 900), (8, oNa b 8 8 900 900), (10, oPR 10 4 0), (13, oAl 13 1 0), (14, oIc 14 2 15), (16, oNa b 16 10 15 15), (18, oPR 18 4 9), (21, oAl 21 1 0), (22, oIc 22 2 15), (24, oNa b 24 9 15 15), (26, oPR 26 4 10), (29, oAl 29 1 0), (30, oIc 30 2 15), (32, oNa b 32 9 15 15), (34, oPR 34 4 11), (37, oVr)]
set_option maxRecDepth 20000 in
theorem tkX4_init {l : Launch} {X : Nat × (Nat → Int32)} {d : Nat} {b : Nat × Nat} : ∀ x ∈ tbX4_init l X d b, OK l X uX4_init (d + 1) false b x.1 x.2 :=
  List.forall_mem_cons.mpr ⟨ok_aload_n (i := 0) (k := 0) rfl (idX4_init (0, .aload_n 0, 1) (List.mem_of_getElem? (i := 0) rfl)), List.forall_mem_cons.mpr ⟨ok_oi oiI oiC moX4_3 (idX4_init (1, .invokespecial 3, 3) (List.mem_of_getElem? (i := 1) rfl)), List.forall_mem_cons.mpr ⟨ok_aload_n (i := 0) (k := 0) rfl (idX4_init (4, .aload_n 0, 1) (List.mem_of_getElem? (i := 2) rfl)), List.forall_mem_cons.mpr ⟨ok_sipush (n := 900) (v := 900) (by decide) (idX4_init (5, .sipush 900, 3) (List.mem_of_getElem? (i := 3) rfl)), List.forall_mem_cons.mpr ⟨ok_na (k := 8) (n := 900) (v0 := 900) rfl (Or.inl ⟨rfl, rfl, rfl⟩) ⟨by decide, by decide, by decide⟩ ar_byte (idX4_init (8, .newarray .byte, 2) (List.mem_of_getElem? (i := 4) rfl)), List.forall_mem_cons.mpr ⟨ok_putRFA (c := 4) (k := 0) (T := TX4) (N := 15) tyX4 tyX4_ok nmX4 rfl inB4 (by decide) rfl rfl rfl (tyX4_ok 0 (by decide)) flX4_9 (idX4_init (10, .putfield 9, 3) (List.mem_of_getElem? (i := 5) rfl)), List.forall_mem_cons.mpr ⟨ok_aload_n (i := 0) (k := 0) rfl (idX4_init (13, .aload_n 0, 1) (List.mem_of_getElem? (i := 6) rfl)), List.forall_mem_cons.mpr ⟨ok_bipush (n := 15) (v := 15) (by decide) (idX4_init (14, .bipush 15, 2) (List.mem_of_getElem? (i := 7) rfl)), List.forall_mem_cons.mpr ⟨ok_na (k := 10) (n := 15) (v0 := 15) rfl (Or.inr (Or.inr ⟨rfl, rfl, rfl⟩)) ⟨by decide, by decide, by decide⟩ ar_long (idX4_init (16, .newarray .long, 2) (List.mem_of_getElem? (i := 8) rfl)), List.forall_mem_cons.mpr ⟨ok_putRFA (c := 4) (k := 9) (T := TX4) (N := 15) tyX4 tyX4_ok nmX4 rfl inB4 (by decide) rfl rfl rfl (tyX4_ok 9 (by decide)) flX4_15 (idX4_init (18, .putfield 15, 3) (List.mem_of_getElem? (i := 9) rfl)), List.forall_mem_cons.mpr ⟨ok_aload_n (i := 0) (k := 0) rfl (idX4_init (21, .aload_n 0, 1) (List.mem_of_getElem? (i := 10) rfl)), List.forall_mem_cons.mpr ⟨ok_bipush (n := 15) (v := 15) (by decide) (idX4_init (22, .bipush 15, 2) (List.mem_of_getElem? (i := 11) rfl)), List.forall_mem_cons.mpr ⟨ok_na (k := 9) (n := 15) (v0 := 15) rfl (Or.inr (Or.inl ⟨rfl, rfl, rfl⟩)) ⟨by decide, by decide, by decide⟩ ar_int (idX4_init (24, .newarray .int, 2) (List.mem_of_getElem? (i := 12) rfl)), List.forall_mem_cons.mpr ⟨ok_putRFA (c := 4) (k := 10) (T := TX4) (N := 15) tyX4 tyX4_ok nmX4 rfl inB4 (by decide) rfl rfl rfl (tyX4_ok 10 (by decide)) flX4_19 (idX4_init (26, .putfield 19, 3) (List.mem_of_getElem? (i := 13) rfl)), List.forall_mem_cons.mpr ⟨ok_aload_n (i := 0) (k := 0) rfl (idX4_init (29, .aload_n 0, 1) (List.mem_of_getElem? (i := 14) rfl)), List.forall_mem_cons.mpr ⟨ok_bipush (n := 15) (v := 15) (by decide) (idX4_init (30, .bipush 15, 2) (List.mem_of_getElem? (i := 15) rfl)), List.forall_mem_cons.mpr ⟨ok_na (k := 9) (n := 15) (v0 := 15) rfl (Or.inr (Or.inl ⟨rfl, rfl, rfl⟩)) ⟨by decide, by decide, by decide⟩ ar_int (idX4_init (32, .newarray .int, 2) (List.mem_of_getElem? (i := 16) rfl)), List.forall_mem_cons.mpr ⟨ok_putRFA (c := 4) (k := 11) (T := TX4) (N := 15) tyX4 tyX4_ok nmX4 rfl inB4 (by decide) rfl rfl rfl (tyX4_ok 11 (by decide)) flX4_23 (idX4_init (34, .putfield 23, 3) (List.mem_of_getElem? (i := 17) rfl)), List.forall_mem_cons.mpr ⟨ok_vr rfl (idX4_init (37, .return_, 1) (List.mem_of_getElem? (i := 18) rfl)), fun _ h => absurd h List.not_mem_nil⟩⟩⟩⟩⟩⟩⟩⟩⟩⟩⟩⟩⟩⟩⟩⟩⟩⟩⟩
def ilX5_init : List (Nat × Instr × Nat) := [(0, .aload_n 0, 1), (1, .invokespecial 3, 3), (4, .aload_n 0, 1), (5, .bipush 20, 2), (7, .newarray .int, 2), (9, .putfield 9, 3), (12, .return_, 1)]
theorem idX5_init : ∀ x ∈ ilX5_init, decode cX5_init x.1 = .ok x.2 := by decide +kernel
def tbX5_init (l : Launch) (X : Nat × (Nat → Int32)) (d : Nat) (b : Nat × Nat) : List (Nat × OP) := [(0, oAl 0 1 0), (1, oOi 1), (4, oAl 4 1 0), (5, oIc 5 2 20), (7, oNa b 7 9 20 20), (9, oPR 9 5 0), (12, oVr)]
set_option maxRecDepth 20000 in
theorem tkX5_init {l : Launch} {X : Nat × (Nat → Int32)} {d : Nat} {b : Nat × Nat} : ∀ x ∈ tbX5_init l X d b, OK l X uX5_init (d + 1) false b x.1 x.2 :=
  List.forall_mem_cons.mpr ⟨ok_aload_n (i := 0) (k := 0) rfl (idX5_init (0, .aload_n 0, 1) (List.mem_of_getElem? (i := 0) rfl)), List.forall_mem_cons.mpr ⟨ok_oi oiI oiC moX5_3 (idX5_init (1, .invokespecial 3, 3) (List.mem_of_getElem? (i := 1) rfl)), List.forall_mem_cons.mpr ⟨ok_aload_n (i := 0) (k := 0) rfl (idX5_init (4, .aload_n 0, 1) (List.mem_of_getElem? (i := 2) rfl)), List.forall_mem_cons.mpr ⟨ok_bipush (n := 20) (v := 20) (by decide) (idX5_init (5, .bipush 20, 2) (List.mem_of_getElem? (i := 3) rfl)), List.forall_mem_cons.mpr ⟨ok_na (k := 9) (n := 20) (v0 := 20) rfl (Or.inr (Or.inl ⟨rfl, rfl, rfl⟩)) ⟨by decide, by decide, by decide⟩ ar_int (idX5_init (7, .newarray .int, 2) (List.mem_of_getElem? (i := 4) rfl)), List.forall_mem_cons.mpr ⟨ok_putRFA (c := 5) (k := 0) (T := TX5) (N := 2) tyX5 tyX5_ok nmX5 rfl inB5 (by decide) rfl rfl rfl (tyX5_ok 0 (by decide)) flX5_9 (idX5_init (9, .putfield 9, 3) (List.mem_of_getElem? (i := 5) rfl)), List.forall_mem_cons.mpr ⟨ok_vr rfl (idX5_init (12, .return_, 1) (List.mem_of_getElem? (i := 6) rfl)), fun _ h => absurd h List.not_mem_nil⟩⟩⟩⟩⟩⟩⟩
def ilX6_init : List (Nat × Instr × Nat) := [(0, .aload_n 0, 1), (1, .invokespecial 1, 3), (4, .aload_n 0, 1), (5, .new 7, 3), (8, .dup, 1), (9, .invokespecial 9, 3), (12, .putfield 10, 3), (15, .aload_n 0, 1), (16, .new 16, 3), (19, .dup, 1), (20, .invokespecial 18, 3), (23, .putfield 19, 3), (26, .aload_n 0, 1), (27, .new 16, 3), (30, .dup, 1), (31, .invokespecial 18, 3), (34, .putfield 23, 3), (37, .aload_n 0, 1), (38, .new 26, 3), (41, .dup, 1), (42, .invokespecial 28, 3), (45, .putfield 29, 3), (48, .aload_n 0, 1), (49, .bipush 16, 2), (51, .anewarray 26, 3), (54, .putfield 33, 3), (57, .aload_n 0, 1), (58, .iconst 0, 1), (59, .putfield 37, 3), (62, .aload_n 0, 1), (63, .iconst 0, 1), (64, .putfield 41, 3), (67, .aload_n 0, 1), (68, .iconst 3, 1), (69, .anewarray 26, 3), (72, .putfield 44, 3), (75, .aload_n 0, 1), (76, .iconst 0, 1), (77, .putfield 47, 3), (80, .aload_n 0, 1), (81, .new 50, 3), (84, .dup, 1), (85, .invokespecial 52, 3), (88, .putfield 53, 3), (91, .aload_n 0, 1), (92, .new 57, 3), (95, .dup, 1), (96, .invokespecial 59, 3), (99, .putfield 60, 3), (102, .aload_n 0, 1), (103, .new 64, 3), (106, .dup, 1), (107, .invokespecial 66, 3), (110, .putfield 67, 3), (113, .aload_n 0, 1), (114, .bipush 61, 2), (116, .newarray .int, 2), (118, .putfield 71, 3), (121, .aload_n 0, 1), (122, .iconst 0, 1), (123, .putfield 75, 3), (126, .iconst 0, 1), (127, .istore_n 1, 1), (128, .iload_n 1, 1), (129, .bipush 16, 2), (131, .if_icmp .ge 22, 3), (134, .aload_n 0, 1), (135, .getfield 33, 3), (138, .iload_n 1, 1), (139, .new 26, 3), (142, .dup, 1), (143, .invokespecial 28, 3), (146, .aastore, 1), (147, .iinc 1 1, 3), (150, .goto (-22), 3), (153, .iconst 0, 1), (154, .istore_n 1, 1), (155, .iload_n 1, 1), (156, .iconst 3, 1), (157, .if_icmp .ge 22, 3), (160, .aload_n 0, 1), (161, .getfield 44, 3), (164, .iload_n 1, 1), (165, .new 26, 3), (168, .dup, 1), (169, .invokespecial 28, 3), (172, .aastore, 1), (173, .iinc 1 1, 3), (176, .goto (-21), 3), (179, .return_, 1)]
theorem idX6_init : ∀ x ∈ ilX6_init, decode cX6_init x.1 = .ok x.2 := by decide +kernel
def tbX6_init (l : Launch) (X : Nat × (Nat → Int32)) (d : Nat) (b : Nat × Nat) : List (Nat × OP) := [(0, oAl 0 1 0), (1, oOi 1), (4, oAl 4 1 0), (5, oNew b 5 4 15), (8, oDup 8), (9, oCi l X d b 9 uX4_init 4 4 945), (12, oPR 12 6 0), (15, oAl 15 1 0), (16, oNew b 16 3 20), (19, oDup 19), (20, oCi l X d b 20 uX3_init 3 12 61), (23, oPR 23 6 1), (26, oAl 26 1 0), (27, oNew b 27 3 20), (30, oDup 30), (31, oCi l X d b 31 uX3_init 3 12 61), (34, oPR 34 6 2), (37, oAl 37 1 0), (38, oNew b 38 2 6), (41, oDup 41), (42, oCi l X d b 42 uX2_init 2 4 23), (45, oPR 45 6 3), (48, oAl 48 1 0), (49, oIc 49 2 16), (51, oNq b 51 16 16), (54, oPR 54 6 4), (57, oAl 57 1 0), (58, oIc 58 1 0), (59, oPI 59 6 5), (62, oAl 62 1 0), (63, oIc 63 1 0), (64, oPI 64 6 6), (67, oAl 67 1 0), (68, oIc 68 1 3), (69, oNq b 69 3 3), (72, oPR 72 6 7), (75, oAl 75 1 0), (76, oIc 76 1 0), (77, oPI 77 6 8), (80, oAl 80 1 0), (81, oNew b 81 0 8), (84, oDup 84), (85, oCi l X d b 85 uX0_init 0 0 0), (88, oPR 88 6 9), (91, oAl 91 1 0), (92, oNew b 92 5 2), (95, oDup 95), (96, oCi l X d b 96 uX5_init 5 1 20), (99, oPR 99 6 10), (102, oAl 102 1 0), (103, oNew b 103 1 9), (106, oDup 106), (107, oCi l X d b 107 uX1_init 1 10 52), (110, oPR 110 6 11), (113, oAl 113 1 0), (114, oIc 114 2 61), (116, oNa b 116 9 61 61), (118, oPR 118 6 12), (121, oAl 121 1 0), (122, oIc 122 1 0), (123, oPI 123 6 13), (126, oIc 126 1 0), (127, oIs 127 1 1), (128, oIl 128 1 1), (129, oIc 129 2 16), (131, oCm 131 153 (fun x y => y ≤ x) (fun x y => ¬ y ≤ x)), (134, oAl 134 1 0), (135, oG 135 6 4 2), (138, oIl 138 1 1), (139, oNew b 139 2 6), (142, oDup 142), (143, oCi l X d b 143 uX2_init 2 4 23), (146, oAas 146), (147, oInc 147 1 1), (150, oGo 128), (153, oIc 153 1 0), (154, oIs 154 1 1), (155, oIl 155 1 1), (156, oIc 156 1 3), (157, oCm 157 179 (fun x y => y ≤ x) (fun x y => ¬ y ≤ x)), (160, oAl 160 1 0), (161, oG 161 6 7 2), (164, oIl 164 1 1), (165, oNew b 165 2 6), (168, oDup 168), (169, oCi l X d b 169 uX2_init 2 4 23), (172, oAas 172), (173, oInc 173 1 1), (176, oGo 155), (179, oVr)]
set_option maxRecDepth 20000 in
theorem tkX6_init {l : Launch} {X : Nat × (Nat → Int32)} {d : Nat} {b : Nat × Nat} : ∀ x ∈ tbX6_init l X d b, OK l X uX6_init (d + 1) false b x.1 x.2 :=
  List.forall_mem_cons.mpr ⟨ok_aload_n (i := 0) (k := 0) rfl (idX6_init (0, .aload_n 0, 1) (List.mem_of_getElem? (i := 0) rfl)), List.forall_mem_cons.mpr ⟨ok_oi oiI oiC moX6_1 (idX6_init (1, .invokespecial 1, 3) (List.mem_of_getElem? (i := 1) rfl)), List.forall_mem_cons.mpr ⟨ok_aload_n (i := 0) (k := 0) rfl (idX6_init (4, .aload_n 0, 1) (List.mem_of_getElem? (i := 2) rfl)), List.forall_mem_cons.mpr ⟨ok_new (c := 4) tyX4 tyX4_ok rfl inB4 (by decide) df_4 clX6_7 nwi_4 nwj_4 (idX6_init (5, .new 7, 3) (List.mem_of_getElem? (i := 3) rfl)), List.forall_mem_cons.mpr ⟨ok_dup (idX6_init (8, .dup, 1) (List.mem_of_getElem? (i := 4) rfl)), List.forall_mem_cons.mpr ⟨ok_ciN ci_X4 (by decide +kernel) (idX6_init (9, .invokespecial 9, 3) (List.mem_of_getElem? (i := 5) rfl)), List.forall_mem_cons.mpr ⟨ok_putRFO (c := 6) (k := 0) (T := TX6) (N := 14) tyX6 tyX6_ok nmX6 rfl inB6 (by decide) rfl rfl rfl (tyX6_ok 0 (by decide)) flX6_10 (idX6_init (12, .putfield 10, 3) (List.mem_of_getElem? (i := 6) rfl)), List.forall_mem_cons.mpr ⟨ok_aload_n (i := 0) (k := 0) rfl (idX6_init (15, .aload_n 0, 1) (List.mem_of_getElem? (i := 7) rfl)), List.forall_mem_cons.mpr ⟨ok_new (c := 3) tyX3 tyX3_ok rfl inB3 (by decide) df_3 clX6_16 nwi_3 nwj_3 (idX6_init (16, .new 16, 3) (List.mem_of_getElem? (i := 8) rfl)), List.forall_mem_cons.mpr ⟨ok_dup (idX6_init (19, .dup, 1) (List.mem_of_getElem? (i := 9) rfl)), List.forall_mem_cons.mpr ⟨ok_ciN ci_X3 (by decide +kernel) (idX6_init (20, .invokespecial 18, 3) (List.mem_of_getElem? (i := 10) rfl)), List.forall_mem_cons.mpr ⟨ok_putRO (c := 6) (k := 1) (T := TX6) (N := 14) tyX6 tyX6_ok nmX6 rfl inB6 (by decide) rfl (tyX6_ok 1 (by decide)) flX6_19 (idX6_init (23, .putfield 19, 3) (List.mem_of_getElem? (i := 11) rfl)), List.forall_mem_cons.mpr ⟨ok_aload_n (i := 0) (k := 0) rfl (idX6_init (26, .aload_n 0, 1) (List.mem_of_getElem? (i := 12) rfl)), List.forall_mem_cons.mpr ⟨ok_new (c := 3) tyX3 tyX3_ok rfl inB3 (by decide) df_3 clX6_16 nwi_3 nwj_3 (idX6_init (27, .new 16, 3) (List.mem_of_getElem? (i := 13) rfl)), List.forall_mem_cons.mpr ⟨ok_dup (idX6_init (30, .dup, 1) (List.mem_of_getElem? (i := 14) rfl)), List.forall_mem_cons.mpr ⟨ok_ciN ci_X3 (by decide +kernel) (idX6_init (31, .invokespecial 18, 3) (List.mem_of_getElem? (i := 15) rfl)), List.forall_mem_cons.mpr ⟨ok_putRO (c := 6) (k := 2) (T := TX6) (N := 14) tyX6 tyX6_ok nmX6 rfl inB6 (by decide) rfl (tyX6_ok 2 (by decide)) flX6_23 (idX6_init (34, .putfield 23, 3) (List.mem_of_getElem? (i := 16) rfl)), List.forall_mem_cons.mpr ⟨ok_aload_n (i := 0) (k := 0) rfl (idX6_init (37, .aload_n 0, 1) (List.mem_of_getElem? (i := 17) rfl)), List.forall_mem_cons.mpr ⟨ok_new (c := 2) tyX2 tyX2_ok rfl inB2 (by decide) df_2 clX6_26 nwi_2 nwj_2 (idX6_init (38, .new 26, 3) (List.mem_of_getElem? (i := 18) rfl)), List.forall_mem_cons.mpr ⟨ok_dup (idX6_init (41, .dup, 1) (List.mem_of_getElem? (i := 19) rfl)), List.forall_mem_cons.mpr ⟨ok_ciN ci_X2 (by decide +kernel) (idX6_init (42, .invokespecial 28, 3) (List.mem_of_getElem? (i := 20) rfl)), List.forall_mem_cons.mpr ⟨ok_putRFO (c := 6) (k := 3) (T := TX6) (N := 14) tyX6 tyX6_ok nmX6 rfl inB6 (by decide) rfl rfl rfl (tyX6_ok 3 (by decide)) flX6_29 (idX6_init (45, .putfield 29, 3) (List.mem_of_getElem? (i := 21) rfl)), List.forall_mem_cons.mpr ⟨ok_aload_n (i := 0) (k := 0) rfl (idX6_init (48, .aload_n 0, 1) (List.mem_of_getElem? (i := 22) rfl)), List.forall_mem_cons.mpr ⟨ok_bipush (n := 16) (v := 16) (by decide) (idX6_init (49, .bipush 16, 2) (List.mem_of_getElem? (i := 23) rfl)), List.forall_mem_cons.mpr ⟨ok_nq ⟨by decide, by decide, by decide⟩ clX6_26 (idX6_init (51, .anewarray 26, 3) (List.mem_of_getElem? (i := 24) rfl)), List.forall_mem_cons.mpr ⟨ok_putRFA (c := 6) (k := 4) (T := TX6) (N := 14) tyX6 tyX6_ok nmX6 rfl inB6 (by decide) rfl rfl rfl (tyX6_ok 4 (by decide)) flX6_33 (idX6_init (54, .putfield 33, 3) (List.mem_of_getElem? (i := 25) rfl)), List.forall_mem_cons.mpr ⟨ok_aload_n (i := 0) (k := 0) rfl (idX6_init (57, .aload_n 0, 1) (List.mem_of_getElem? (i := 26) rfl)), List.forall_mem_cons.mpr ⟨ok_iconst (n := 0) (v := 0) (by decide) (idX6_init (58, .iconst 0, 1) (List.mem_of_getElem? (i := 27) rfl)), List.forall_mem_cons.mpr ⟨ok_putI (c := 6) (k := 5) (T := TX6) (N := 14) tyX6 tyX6_ok nmX6 rfl inB6 (by decide) rfl (tyX6_ok 5 (by decide)) flX6_37 (idX6_init (59, .putfield 37, 3) (List.mem_of_getElem? (i := 28) rfl)), List.forall_mem_cons.mpr ⟨ok_aload_n (i := 0) (k := 0) rfl (idX6_init (62, .aload_n 0, 1) (List.mem_of_getElem? (i := 29) rfl)), List.forall_mem_cons.mpr ⟨ok_iconst (n := 0) (v := 0) (by decide) (idX6_init (63, .iconst 0, 1) (List.mem_of_getElem? (i := 30) rfl)), List.forall_mem_cons.mpr ⟨ok_putI (c := 6) (k := 6) (T := TX6) (N := 14) tyX6 tyX6_ok nmX6 rfl inB6 (by decide) rfl (tyX6_ok 6 (by decide)) flX6_41 (idX6_init (64, .putfield 41, 3) (List.mem_of_getElem? (i := 31) rfl)), List.forall_mem_cons.mpr ⟨ok_aload_n (i := 0) (k := 0) rfl (idX6_init (67, .aload_n 0, 1) (List.mem_of_getElem? (i := 32) rfl)), List.forall_mem_cons.mpr ⟨ok_iconst (n := 3) (v := 3) (by decide) (idX6_init (68, .iconst 3, 1) (List.mem_of_getElem? (i := 33) rfl)), List.forall_mem_cons.mpr ⟨ok_nq ⟨by decide, by decide, by decide⟩ clX6_26 (idX6_init (69, .anewarray 26, 3) (List.mem_of_getElem? (i := 34) rfl)), List.forall_mem_cons.mpr ⟨ok_putRFA (c := 6) (k := 7) (T := TX6) (N := 14) tyX6 tyX6_ok nmX6 rfl inB6 (by decide) rfl rfl rfl (tyX6_ok 7 (by decide)) flX6_44 (idX6_init (72, .putfield 44, 3) (List.mem_of_getElem? (i := 35) rfl)), List.forall_mem_cons.mpr ⟨ok_aload_n (i := 0) (k := 0) rfl (idX6_init (75, .aload_n 0, 1) (List.mem_of_getElem? (i := 36) rfl)), List.forall_mem_cons.mpr ⟨ok_iconst (n := 0) (v := 0) (by decide) (idX6_init (76, .iconst 0, 1) (List.mem_of_getElem? (i := 37) rfl)), List.forall_mem_cons.mpr ⟨ok_putI (c := 6) (k := 8) (T := TX6) (N := 14) tyX6 tyX6_ok nmX6 rfl inB6 (by decide) rfl (tyX6_ok 8 (by decide)) flX6_47 (idX6_init (77, .putfield 47, 3) (List.mem_of_getElem? (i := 38) rfl)), List.forall_mem_cons.mpr ⟨ok_aload_n (i := 0) (k := 0) rfl (idX6_init (80, .aload_n 0, 1) (List.mem_of_getElem? (i := 39) rfl)), List.forall_mem_cons.mpr ⟨ok_new (c := 0) tyX0 tyX0_ok rfl inB0 (by decide) df_0 clX6_50 nwi_0 nwj_0 (idX6_init (81, .new 50, 3) (List.mem_of_getElem? (i := 40) rfl)), List.forall_mem_cons.mpr ⟨ok_dup (idX6_init (84, .dup, 1) (List.mem_of_getElem? (i := 41) rfl)), List.forall_mem_cons.mpr ⟨ok_ciN ci_X0 (by decide +kernel) (idX6_init (85, .invokespecial 52, 3) (List.mem_of_getElem? (i := 42) rfl)), List.forall_mem_cons.mpr ⟨ok_putRFO (c := 6) (k := 9) (T := TX6) (N := 14) tyX6 tyX6_ok nmX6 rfl inB6 (by decide) rfl rfl rfl (tyX6_ok 9 (by decide)) flX6_53 (idX6_init (88, .putfield 53, 3) (List.mem_of_getElem? (i := 43) rfl)), List.forall_mem_cons.mpr ⟨ok_aload_n (i := 0) (k := 0) rfl (idX6_init (91, .aload_n 0, 1) (List.mem_of_getElem? (i := 44) rfl)), List.forall_mem_cons.mpr ⟨ok_new (c := 5) tyX5 tyX5_ok rfl inB5 (by decide) df_5 clX6_57 nwi_5 nwj_5 (idX6_init (92, .new 57, 3) (List.mem_of_getElem? (i := 45) rfl)), List.forall_mem_cons.mpr ⟨ok_dup (idX6_init (95, .dup, 1) (List.mem_of_getElem? (i := 46) rfl)), List.forall_mem_cons.mpr ⟨ok_ciN ci_X5 (by decide +kernel) (idX6_init (96, .invokespecial 59, 3) (List.mem_of_getElem? (i := 47) rfl)), List.forall_mem_cons.mpr ⟨ok_putRFO (c := 6) (k := 10) (T := TX6) (N := 14) tyX6 tyX6_ok nmX6 rfl inB6 (by decide) rfl rfl rfl (tyX6_ok 10 (by decide)) flX6_60 (idX6_init (99, .putfield 60, 3) (List.mem_of_getElem? (i := 48) rfl)), List.forall_mem_cons.mpr ⟨ok_aload_n (i := 0) (k := 0) rfl (idX6_init (102, .aload_n 0, 1) (List.mem_of_getElem? (i := 49) rfl)), List.forall_mem_cons.mpr ⟨ok_new (c := 1) tyX1 tyX1_ok rfl inB1 (by decide) df_1 clX6_64 nwi_1 nwj_1 (idX6_init (103, .new 64, 3) (List.mem_of_getElem? (i := 50) rfl)), List.forall_mem_cons.mpr ⟨ok_dup (idX6_init (106, .dup, 1) (List.mem_of_getElem? (i := 51) rfl)), List.forall_mem_cons.mpr ⟨ok_ciN ci_X1 (by decide +kernel) (idX6_init (107, .invokespecial 66, 3) (List.mem_of_getElem? (i := 52) rfl)), List.forall_mem_cons.mpr ⟨ok_putRFO (c := 6) (k := 11) (T := TX6) (N := 14) tyX6 tyX6_ok nmX6 rfl inB6 (by decide) rfl rfl rfl (tyX6_ok 11 (by decide)) flX6_67 (idX6_init (110, .putfield 67, 3) (List.mem_of_getElem? (i := 53) rfl)), List.forall_mem_cons.mpr ⟨ok_aload_n (i := 0) (k := 0) rfl (idX6_init (113, .aload_n 0, 1) (List.mem_of_getElem? (i := 54) rfl)), List.forall_mem_cons.mpr ⟨ok_bipush (n := 61) (v := 61) (by decide) (idX6_init (114, .bipush 61, 2) (List.mem_of_getElem? (i := 55) rfl)), List.forall_mem_cons.mpr ⟨ok_na (k := 9) (n := 61) (v0 := 61) rfl (Or.inr (Or.inl ⟨rfl, rfl, rfl⟩)) ⟨by decide, by decide, by decide⟩ ar_int (idX6_init (116, .newarray .int, 2) (List.mem_of_getElem? (i := 56) rfl)), List.forall_mem_cons.mpr ⟨ok_putRFA (c := 6) (k := 12) (T := TX6) (N := 14) tyX6 tyX6_ok nmX6 rfl inB6 (by decide) rfl rfl rfl (tyX6_ok 12 (by decide)) flX6_71 (idX6_init (118, .putfield 71, 3) (List.mem_of_getElem? (i := 57) rfl)), List.forall_mem_cons.mpr ⟨ok_aload_n (i := 0) (k := 0) rfl (idX6_init (121, .aload_n 0, 1) (List.mem_of_getElem? (i := 58) rfl)), List.forall_mem_cons.mpr ⟨ok_iconst (n := 0) (v := 0) (by decide) (idX6_init (122, .iconst 0, 1) (List.mem_of_getElem? (i := 59) rfl)), List.forall_mem_cons.mpr ⟨ok_putI (c := 6) (k := 13) (T := TX6) (N := 14) tyX6 tyX6_ok nmX6 rfl inB6 (by decide) rfl (tyX6_ok 13 (by decide)) flX6_75 (idX6_init (123, .putfield 75, 3) (List.mem_of_getElem? (i := 60) rfl)), List.forall_mem_cons.mpr ⟨ok_iconst (n := 0) (v := 0) (by decide) (idX6_init (126, .iconst 0, 1) (List.mem_of_getElem? (i := 61) rfl)), List.forall_mem_cons.mpr ⟨ok_istore_n (i := 1) (k := 1) rfl (by decide) (idX6_init (127, .istore_n 1, 1) (List.mem_of_getElem? (i := 62) rfl)), List.forall_mem_cons.mpr ⟨ok_iload_n (i := 1) (k := 1) rfl (idX6_init (128, .iload_n 1, 1) (List.mem_of_getElem? (i := 63) rfl)), List.forall_mem_cons.mpr ⟨ok_bipush (n := 16) (v := 16) (by decide) (idX6_init (129, .bipush 16, 2) (List.mem_of_getElem? (i := 64) rfl)), List.forall_mem_cons.mpr ⟨ok_icmpge (t := 153) (by decide) (idX6_init (131, .if_icmp .ge 22, 3) (List.mem_of_getElem? (i := 65) rfl)), List.forall_mem_cons.mpr ⟨ok_aload_n (i := 0) (k := 0) rfl (idX6_init (134, .aload_n 0, 1) (List.mem_of_getElem? (i := 66) rfl)), List.forall_mem_cons.mpr ⟨ok_get (c := 6) (k := 4) (t := 2) (T := TX6) (N := 14) rfl inB6 (by decide) flX6_33 (idX6_init (135, .getfield 33, 3) (List.mem_of_getElem? (i := 67) rfl)), List.forall_mem_cons.mpr ⟨ok_iload_n (i := 1) (k := 1) rfl (idX6_init (138, .iload_n 1, 1) (List.mem_of_getElem? (i := 68) rfl)), List.forall_mem_cons.mpr ⟨ok_new (c := 2) tyX2 tyX2_ok rfl inB2 (by decide) df_2 clX6_26 nwi_2 nwj_2 (idX6_init (139, .new 26, 3) (List.mem_of_getElem? (i := 69) rfl)), List.forall_mem_cons.mpr ⟨ok_dup (idX6_init (142, .dup, 1) (List.mem_of_getElem? (i := 70) rfl)), List.forall_mem_cons.mpr ⟨ok_ciN ci_X2 (by decide +kernel) (idX6_init (143, .invokespecial 28, 3) (List.mem_of_getElem? (i := 71) rfl)), List.forall_mem_cons.mpr ⟨ok_aastore (idX6_init (146, .aastore, 1) (List.mem_of_getElem? (i := 72) rfl)), List.forall_mem_cons.mpr ⟨ok_iinc (n := 1) (v := 1) (by decide) (by decide) (idX6_init (147, .iinc 1 1, 3) (List.mem_of_getElem? (i := 73) rfl)), List.forall_mem_cons.mpr ⟨ok_goto (t := 128) (by decide) (idX6_init (150, .goto (-22), 3) (List.mem_of_getElem? (i := 74) rfl)), List.forall_mem_cons.mpr ⟨ok_iconst (n := 0) (v := 0) (by decide) (idX6_init (153, .iconst 0, 1) (List.mem_of_getElem? (i := 75) rfl)), List.forall_mem_cons.mpr ⟨ok_istore_n (i := 1) (k := 1) rfl (by decide) (idX6_init (154, .istore_n 1, 1) (List.mem_of_getElem? (i := 76) rfl)), List.forall_mem_cons.mpr ⟨ok_iload_n (i := 1) (k := 1) rfl (idX6_init (155, .iload_n 1, 1) (List.mem_of_getElem? (i := 77) rfl)), List.forall_mem_cons.mpr ⟨ok_iconst (n := 3) (v := 3) (by decide) (idX6_init (156, .iconst 3, 1) (List.mem_of_getElem? (i := 78) rfl)), List.forall_mem_cons.mpr ⟨ok_icmpge (t := 179) (by decide) (idX6_init (157, .if_icmp .ge 22, 3) (List.mem_of_getElem? (i := 79) rfl)), List.forall_mem_cons.mpr ⟨ok_aload_n (i := 0) (k := 0) rfl (idX6_init (160, .aload_n 0, 1) (List.mem_of_getElem? (i := 80) rfl)), List.forall_mem_cons.mpr ⟨ok_get (c := 6) (k := 7) (t := 2) (T := TX6) (N := 14) rfl inB6 (by decide) flX6_44 (idX6_init (161, .getfield 44, 3) (List.mem_of_getElem? (i := 81) rfl)), List.forall_mem_cons.mpr ⟨ok_iload_n (i := 1) (k := 1) rfl (idX6_init (164, .iload_n 1, 1) (List.mem_of_getElem? (i := 82) rfl)), List.forall_mem_cons.mpr ⟨ok_new (c := 2) tyX2 tyX2_ok rfl inB2 (by decide) df_2 clX6_26 nwi_2 nwj_2 (idX6_init (165, .new 26, 3) (List.mem_of_getElem? (i := 83) rfl)), List.forall_mem_cons.mpr ⟨ok_dup (idX6_init (168, .dup, 1) (List.mem_of_getElem? (i := 84) rfl)), List.forall_mem_cons.mpr ⟨ok_ciN ci_X2 (by decide +kernel) (idX6_init (169, .invokespecial 28, 3) (List.mem_of_getElem? (i := 85) rfl)), List.forall_mem_cons.mpr ⟨ok_aastore (idX6_init (172, .aastore, 1) (List.mem_of_getElem? (i := 86) rfl)), List.forall_mem_cons.mpr ⟨ok_iinc (n := 1) (v := 1) (by decide) (by decide) (idX6_init (173, .iinc 1 1, 3) (List.mem_of_getElem? (i := 87) rfl)), List.forall_mem_cons.mpr ⟨ok_goto (t := 155) (by decide) (idX6_init (176, .goto (-21), 3) (List.mem_of_getElem? (i := 88) rfl)), List.forall_mem_cons.mpr ⟨ok_vr rfl (idX6_init (179, .return_, 1) (List.mem_of_getElem? (i := 89) rfl)), fun _ h => absurd h List.not_mem_nil⟩⟩⟩⟩⟩⟩⟩⟩⟩⟩⟩⟩⟩⟩⟩⟩⟩⟩⟩⟩⟩⟩⟩⟩⟩⟩⟩⟩⟩⟩⟩⟩⟩⟩⟩⟩⟩⟩⟩⟩⟩⟩⟩⟩⟩⟩⟩⟩⟩⟩⟩⟩⟩⟩⟩⟩⟩⟩⟩⟩⟩⟩⟩⟩⟩⟩⟩⟩⟩⟩⟩⟩⟩⟩⟩⟩⟩⟩⟩⟩⟩⟩⟩⟩⟩⟩⟩⟩⟩⟩
def ilX7_init : List (Nat × Instr × Nat) := [(0, .aload_n 0, 1), (1, .invokespecial 1, 3), (4, .aload_n 0, 1), (5, .sipush 900, 3), (8, .newarray .int, 2), (10, .putfield 7, 3), (13, .aload_n 0, 1), (14, .iconst (-1), 1), (15, .putfield 13, 3), (18, .aload_n 0, 1), (19, .bipush 8, 2), (21, .newarray .int, 2), (23, .putfield 17, 3), (26, .aload_n 0, 1), (27, .sipush 202, 3), (30, .newarray .int, 2), (32, .putfield 20, 3), (35, .aload_n 0, 1), (36, .sipush 202, 3), (39, .newarray .int, 2), (41, .putfield 23, 3), (44, .aload_n 0, 1), (45, .bipush 25, 2), (47, .newarray .int, 2), (49, .putfield 26, 3), (52, .aload_n 0, 1), (53, .bipush 25, 2), (55, .newarray .int, 2), (57, .putfield 29, 3), (60, .aload_n 0, 1), (61, .bipush 25, 2), (63, .newarray .int, 2), (65, .putfield 32, 3), (68, .aload_n 0, 1), (69, .sipush 400, 3), (72, .newarray .int, 2), (74, .putfield 35, 3), (77, .aload_n 0, 1), (78, .bipush 75, 2), (80, .newarray .int, 2), (82, .putfield 38, 3), (85, .aload_n 0, 1), (86, .iconst 5, 1), (87, .newarray .int, 2), (89, .putfield 41, 3), (92, .aload_n 0, 1), (93, .bipush 25, 2), (95, .newarray .int, 2), (97, .putfield 44, 3), (100, .aload_n 0, 1), (101, .iconst 5, 1), (102, .newarray .int, 2), (104, .putfield 47, 3), (107, .aload_n 0, 1), (108, .iconst 5, 1), (109, .newarray .int, 2), (111, .putfield 50, 3), (114, .aload_n 0, 1), (115, .bipush 20, 2), (117, .newarray .int, 2), (119, .putfield 53, 3), (122, .aload_n 0, 1), (123, .bipush 6, 2), (125, .newarray .int, 2), (127, .putfield 56, 3), (130, .aload_n 0, 1), (131, .iconst 4, 1), (132, .newarray .int, 2), (134, .putfield 59, 3), (137, .return_, 1)]
theorem idX7_init : ∀ x ∈ ilX7_init, decode cX7_init x.1 = .ok x.2 := by decide +kernel
def tbX7_init (l : Launch) (X : Nat × (Nat → Int32)) (d : Nat) (b : Nat × Nat) : List (Nat × OP) := [(0, oAl 0 1 0), (1, oOi 1), (4, oAl 4 1 0), (5, oIc 5 3 900), (8, oNa b 8 9 900 900), (10, oPR 10 7 1), (13, oAl 13 1 0), (14, oIc 14 1 (-1)), (15, oPI 15 7 10), (18, oAl 18 1 0), (19, oIc 19 2 8), (21, oNa b 21 9 8 8), (23, oPR 23 7 12), (26, oAl 26 1 0), (27, oIc 27 3 202), (30, oNa b 30 9 202 202), (32, oPR 32 7 15), (35, oAl 35 1 0), (36, oIc 36 3 202), (39, oNa b 39 9 202 202), (41, oPR 41 7 16), (44, oAl 44 1 0), (45, oIc 45 2 25), (47, oNa b 47 9 25 25), (49, oPR 49 7 17), (52, oAl 52 1 0), (53, oIc 53 2 25), (55, oNa b 55 9 25 25), (57, oPR 57 7 18), (60, oAl 60 1 0), (61, oIc 61 2 25), (63, oNa b 63 9 25 25), (65, oPR 65 7 19), (68, oAl 68 1 0), (69, oIc 69 3 400), (72, oNa b 72 9 400 400), (74, oPR 74 7 20), (77, oAl 77 1 0), (78, oIc 78 2 75), (80, oNa b 80 9 75 75), (82, oPR 82 7 21), (85, oAl 85 1 0), (86, oIc 86 1 5), (87, oNa b 87 9 5 5), (89, oPR 89 7 24), (92, oAl 92 1 0), (93, oIc 93 2 25), (95, oNa b 95 9 25 25), (97, oPR 97 7 25), (100, oAl 100 1 0), (101, oIc 101 1 5), (102, oNa b 102 9 5 5), (104, oPR 104 7 27), (107, oAl 107 1 0), (108, oIc 108 1 5), (109, oNa b 109 9 5 5), (111, oPR 111 7 28), (114, oAl 114 1 0), (115, oIc 115 2 20), (117, oNa b 117 9 20 20), (119, oPR 119 7 33), (122, oAl 122 1 0), (123, oIc 123 2 6), (125, oNa b 125 9 6 6), (127, oPR 127 7 34), (130, oAl 130 1 0), (131, oIc 131 1 4), (132, oNa b 132 9 4 4), (134, oPR 134 7 35), (137, oVr)]
set_option maxRecDepth 20000 in
theorem tkX7_init {l : Launch} {X : Nat × (Nat → Int32)} {d : Nat} {b : Nat × Nat} : ∀ x ∈ tbX7_init l X d b, OK l X uX7_init (d + 1) false b x.1 x.2 :=
  List.forall_mem_cons.mpr ⟨ok_aload_n (i := 0) (k := 0) rfl (idX7_init (0, .aload_n 0, 1) (List.mem_of_getElem? (i := 0) rfl)), List.forall_mem_cons.mpr ⟨ok_oi oiI oiC moX7_1 (idX7_init (1, .invokespecial 1, 3) (List.mem_of_getElem? (i := 1) rfl)), List.forall_mem_cons.mpr ⟨ok_aload_n (i := 0) (k := 0) rfl (idX7_init (4, .aload_n 0, 1) (List.mem_of_getElem? (i := 2) rfl)), List.forall_mem_cons.mpr ⟨ok_sipush (n := 900) (v := 900) (by decide) (idX7_init (5, .sipush 900, 3) (List.mem_of_getElem? (i := 3) rfl)), List.forall_mem_cons.mpr ⟨ok_na (k := 9) (n := 900) (v0 := 900) rfl (Or.inr (Or.inl ⟨rfl, rfl, rfl⟩)) ⟨by decide, by decide, by decide⟩ ar_int (idX7_init (8, .newarray .int, 2) (List.mem_of_getElem? (i := 4) rfl)), List.forall_mem_cons.mpr ⟨ok_putRFA (c := 7) (k := 1) (T := TX7) (N := 44) tyX7 tyX7_ok nmX7 rfl inB7 (by decide) rfl rfl rfl (tyX7_ok 1 (by decide)) flX7_7 (idX7_init (10, .putfield 7, 3) (List.mem_of_getElem? (i := 5) rfl)), List.forall_mem_cons.mpr ⟨ok_aload_n (i := 0) (k := 0) rfl (idX7_init (13, .aload_n 0, 1) (List.mem_of_getElem? (i := 6) rfl)), List.forall_mem_cons.mpr ⟨ok_iconst (n := -1) (v := (-1)) (by decide) (idX7_init (14, .iconst (-1), 1) (List.mem_of_getElem? (i := 7) rfl)), List.forall_mem_cons.mpr ⟨ok_putI (c := 7) (k := 10) (T := TX7) (N := 44) tyX7 tyX7_ok nmX7 rfl inB7 (by decide) rfl (tyX7_ok 10 (by decide)) flX7_13 (idX7_init (15, .putfield 13, 3) (List.mem_of_getElem? (i := 8) rfl)), List.forall_mem_cons.mpr ⟨ok_aload_n (i := 0) (k := 0) rfl (idX7_init (18, .aload_n 0, 1) (List.mem_of_getElem? (i := 9) rfl)), List.forall_mem_cons.mpr ⟨ok_bipush (n := 8) (v := 8) (by decide) (idX7_init (19, .bipush 8, 2) (List.mem_of_getElem? (i := 10) rfl)), List.forall_mem_cons.mpr ⟨ok_na (k := 9) (n := 8) (v0 := 8) rfl (Or.inr (Or.inl ⟨rfl, rfl, rfl⟩)) ⟨by decide, by decide, by decide⟩ ar_int (idX7_init (21, .newarray .int, 2) (List.mem_of_getElem? (i := 11) rfl)), List.forall_mem_cons.mpr ⟨ok_putRFA (c := 7) (k := 12) (T := TX7) (N := 44) tyX7 tyX7_ok nmX7 rfl inB7 (by decide) rfl rfl rfl (tyX7_ok 12 (by decide)) flX7_17 (idX7_init (23, .putfield 17, 3) (List.mem_of_getElem? (i := 12) rfl)), List.forall_mem_cons.mpr ⟨ok_aload_n (i := 0) (k := 0) rfl (idX7_init (26, .aload_n 0, 1) (List.mem_of_getElem? (i := 13) rfl)), List.forall_mem_cons.mpr ⟨ok_sipush (n := 202) (v := 202) (by decide) (idX7_init (27, .sipush 202, 3) (List.mem_of_getElem? (i := 14) rfl)), List.forall_mem_cons.mpr ⟨ok_na (k := 9) (n := 202) (v0 := 202) rfl (Or.inr (Or.inl ⟨rfl, rfl, rfl⟩)) ⟨by decide, by decide, by decide⟩ ar_int (idX7_init (30, .newarray .int, 2) (List.mem_of_getElem? (i := 15) rfl)), List.forall_mem_cons.mpr ⟨ok_putRFA (c := 7) (k := 15) (T := TX7) (N := 44) tyX7 tyX7_ok nmX7 rfl inB7 (by decide) rfl rfl rfl (tyX7_ok 15 (by decide)) flX7_20 (idX7_init (32, .putfield 20, 3) (List.mem_of_getElem? (i := 16) rfl)), List.forall_mem_cons.mpr ⟨ok_aload_n (i := 0) (k := 0) rfl (idX7_init (35, .aload_n 0, 1) (List.mem_of_getElem? (i := 17) rfl)), List.forall_mem_cons.mpr ⟨ok_sipush (n := 202) (v := 202) (by decide) (idX7_init (36, .sipush 202, 3) (List.mem_of_getElem? (i := 18) rfl)), List.forall_mem_cons.mpr ⟨ok_na (k := 9) (n := 202) (v0 := 202) rfl (Or.inr (Or.inl ⟨rfl, rfl, rfl⟩)) ⟨by decide, by decide, by decide⟩ ar_int (idX7_init (39, .newarray .int, 2) (List.mem_of_getElem? (i := 19) rfl)), List.forall_mem_cons.mpr ⟨ok_putRFA (c := 7) (k := 16) (T := TX7) (N := 44) tyX7 tyX7_ok nmX7 rfl inB7 (by decide) rfl rfl rfl (tyX7_ok 16 (by decide)) flX7_23 (idX7_init (41, .putfield 23, 3) (List.mem_of_getElem? (i := 20) rfl)), List.forall_mem_cons.mpr ⟨ok_aload_n (i := 0) (k := 0) rfl (idX7_init (44, .aload_n 0, 1) (List.mem_of_getElem? (i := 21) rfl)), List.forall_mem_cons.mpr ⟨ok_bipush (n := 25) (v := 25) (by decide) (idX7_init (45, .bipush 25, 2) (List.mem_of_getElem? (i := 22) rfl)), List.forall_mem_cons.mpr ⟨ok_na (k := 9) (n := 25) (v0 := 25) rfl (Or.inr (Or.inl ⟨rfl, rfl, rfl⟩)) ⟨by decide, by decide, by decide⟩ ar_int (idX7_init (47, .newarray .int, 2) (List.mem_of_getElem? (i := 23) rfl)), List.forall_mem_cons.mpr ⟨ok_putRFA (c := 7) (k := 17) (T := TX7) (N := 44) tyX7 tyX7_ok nmX7 rfl inB7 (by decide) rfl rfl rfl (tyX7_ok 17 (by decide)) flX7_26 (idX7_init (49, .putfield 26, 3) (List.mem_of_getElem? (i := 24) rfl)), List.forall_mem_cons.mpr ⟨ok_aload_n (i := 0) (k := 0) rfl (idX7_init (52, .aload_n 0, 1) (List.mem_of_getElem? (i := 25) rfl)), List.forall_mem_cons.mpr ⟨ok_bipush (n := 25) (v := 25) (by decide) (idX7_init (53, .bipush 25, 2) (List.mem_of_getElem? (i := 26) rfl)), List.forall_mem_cons.mpr ⟨ok_na (k := 9) (n := 25) (v0 := 25) rfl (Or.inr (Or.inl ⟨rfl, rfl, rfl⟩)) ⟨by decide, by decide, by decide⟩ ar_int (idX7_init (55, .newarray .int, 2) (List.mem_of_getElem? (i := 27) rfl)), List.forall_mem_cons.mpr ⟨ok_putRFA (c := 7) (k := 18) (T := TX7) (N := 44) tyX7 tyX7_ok nmX7 rfl inB7 (by decide) rfl rfl rfl (tyX7_ok 18 (by decide)) flX7_29 (idX7_init (57, .putfield 29, 3) (List.mem_of_getElem? (i := 28) rfl)), List.forall_mem_cons.mpr ⟨ok_aload_n (i := 0) (k := 0) rfl (idX7_init (60, .aload_n 0, 1) (List.mem_of_getElem? (i := 29) rfl)), List.forall_mem_cons.mpr ⟨ok_bipush (n := 25) (v := 25) (by decide) (idX7_init (61, .bipush 25, 2) (List.mem_of_getElem? (i := 30) rfl)), List.forall_mem_cons.mpr ⟨ok_na (k := 9) (n := 25) (v0 := 25) rfl (Or.inr (Or.inl ⟨rfl, rfl, rfl⟩)) ⟨by decide, by decide, by decide⟩ ar_int (idX7_init (63, .newarray .int, 2) (List.mem_of_getElem? (i := 31) rfl)), List.forall_mem_cons.mpr ⟨ok_putRFA (c := 7) (k := 19) (T := TX7) (N := 44) tyX7 tyX7_ok nmX7 rfl inB7 (by decide) rfl rfl rfl (tyX7_ok 19 (by decide)) flX7_32 (idX7_init (65, .putfield 32, 3) (List.mem_of_getElem? (i := 32) rfl)), List.forall_mem_cons.mpr ⟨ok_aload_n (i := 0) (k := 0) rfl (idX7_init (68, .aload_n 0, 1) (List.mem_of_getElem? (i := 33) rfl)), List.forall_mem_cons.mpr ⟨ok_sipush (n := 400) (v := 400) (by decide) (idX7_init (69, .sipush 400, 3) (List.mem_of_getElem? (i := 34) rfl)), List.forall_mem_cons.mpr ⟨ok_na (k := 9) (n := 400) (v0 := 400) rfl (Or.inr (Or.inl ⟨rfl, rfl, rfl⟩)) ⟨by decide, by decide, by decide⟩ ar_int (idX7_init (72, .newarray .int, 2) (List.mem_of_getElem? (i := 35) rfl)), List.forall_mem_cons.mpr ⟨ok_putRFA (c := 7) (k := 20) (T := TX7) (N := 44) tyX7 tyX7_ok nmX7 rfl inB7 (by decide) rfl rfl rfl (tyX7_ok 20 (by decide)) flX7_35 (idX7_init (74, .putfield 35, 3) (List.mem_of_getElem? (i := 36) rfl)), List.forall_mem_cons.mpr ⟨ok_aload_n (i := 0) (k := 0) rfl (idX7_init (77, .aload_n 0, 1) (List.mem_of_getElem? (i := 37) rfl)), List.forall_mem_cons.mpr ⟨ok_bipush (n := 75) (v := 75) (by decide) (idX7_init (78, .bipush 75, 2) (List.mem_of_getElem? (i := 38) rfl)), List.forall_mem_cons.mpr ⟨ok_na (k := 9) (n := 75) (v0 := 75) rfl (Or.inr (Or.inl ⟨rfl, rfl, rfl⟩)) ⟨by decide, by decide, by decide⟩ ar_int (idX7_init (80, .newarray .int, 2) (List.mem_of_getElem? (i := 39) rfl)), List.forall_mem_cons.mpr ⟨ok_putRFA (c := 7) (k := 21) (T := TX7) (N := 44) tyX7 tyX7_ok nmX7 rfl inB7 (by decide) rfl rfl rfl (tyX7_ok 21 (by decide)) flX7_38 (idX7_init (82, .putfield 38, 3) (List.mem_of_getElem? (i := 40) rfl)), List.forall_mem_cons.mpr ⟨ok_aload_n (i := 0) (k := 0) rfl (idX7_init (85, .aload_n 0, 1) (List.mem_of_getElem? (i := 41) rfl)), List.forall_mem_cons.mpr ⟨ok_iconst (n := 5) (v := 5) (by decide) (idX7_init (86, .iconst 5, 1) (List.mem_of_getElem? (i := 42) rfl)), List.forall_mem_cons.mpr ⟨ok_na (k := 9) (n := 5) (v0 := 5) rfl (Or.inr (Or.inl ⟨rfl, rfl, rfl⟩)) ⟨by decide, by decide, by decide⟩ ar_int (idX7_init (87, .newarray .int, 2) (List.mem_of_getElem? (i := 43) rfl)), List.forall_mem_cons.mpr ⟨ok_putRFA (c := 7) (k := 24) (T := TX7) (N := 44) tyX7 tyX7_ok nmX7 rfl inB7 (by decide) rfl rfl rfl (tyX7_ok 24 (by decide)) flX7_41 (idX7_init (89, .putfield 41, 3) (List.mem_of_getElem? (i := 44) rfl)), List.forall_mem_cons.mpr ⟨ok_aload_n (i := 0) (k := 0) rfl (idX7_init (92, .aload_n 0, 1) (List.mem_of_getElem? (i := 45) rfl)), List.forall_mem_cons.mpr ⟨ok_bipush (n := 25) (v := 25) (by decide) (idX7_init (93, .bipush 25, 2) (List.mem_of_getElem? (i := 46) rfl)), List.forall_mem_cons.mpr ⟨ok_na (k := 9) (n := 25) (v0 := 25) rfl (Or.inr (Or.inl ⟨rfl, rfl, rfl⟩)) ⟨by decide, by decide, by decide⟩ ar_int (idX7_init (95, .newarray .int, 2) (List.mem_of_getElem? (i := 47) rfl)), List.forall_mem_cons.mpr ⟨ok_putRFA (c := 7) (k := 25) (T := TX7) (N := 44) tyX7 tyX7_ok nmX7 rfl inB7 (by decide) rfl rfl rfl (tyX7_ok 25 (by decide)) flX7_44 (idX7_init (97, .putfield 44, 3) (List.mem_of_getElem? (i := 48) rfl)), List.forall_mem_cons.mpr ⟨ok_aload_n (i := 0) (k := 0) rfl (idX7_init (100, .aload_n 0, 1) (List.mem_of_getElem? (i := 49) rfl)), List.forall_mem_cons.mpr ⟨ok_iconst (n := 5) (v := 5) (by decide) (idX7_init (101, .iconst 5, 1) (List.mem_of_getElem? (i := 50) rfl)), List.forall_mem_cons.mpr ⟨ok_na (k := 9) (n := 5) (v0 := 5) rfl (Or.inr (Or.inl ⟨rfl, rfl, rfl⟩)) ⟨by decide, by decide, by decide⟩ ar_int (idX7_init (102, .newarray .int, 2) (List.mem_of_getElem? (i := 51) rfl)), List.forall_mem_cons.mpr ⟨ok_putRFA (c := 7) (k := 27) (T := TX7) (N := 44) tyX7 tyX7_ok nmX7 rfl inB7 (by decide) rfl rfl rfl (tyX7_ok 27 (by decide)) flX7_47 (idX7_init (104, .putfield 47, 3) (List.mem_of_getElem? (i := 52) rfl)), List.forall_mem_cons.mpr ⟨ok_aload_n (i := 0) (k := 0) rfl (idX7_init (107, .aload_n 0, 1) (List.mem_of_getElem? (i := 53) rfl)), List.forall_mem_cons.mpr ⟨ok_iconst (n := 5) (v := 5) (by decide) (idX7_init (108, .iconst 5, 1) (List.mem_of_getElem? (i := 54) rfl)), List.forall_mem_cons.mpr ⟨ok_na (k := 9) (n := 5) (v0 := 5) rfl (Or.inr (Or.inl ⟨rfl, rfl, rfl⟩)) ⟨by decide, by decide, by decide⟩ ar_int (idX7_init (109, .newarray .int, 2) (List.mem_of_getElem? (i := 55) rfl)), List.forall_mem_cons.mpr ⟨ok_putRFA (c := 7) (k := 28) (T := TX7) (N := 44) tyX7 tyX7_ok nmX7 rfl inB7 (by decide) rfl rfl rfl (tyX7_ok 28 (by decide)) flX7_50 (idX7_init (111, .putfield 50, 3) (List.mem_of_getElem? (i := 56) rfl)), List.forall_mem_cons.mpr ⟨ok_aload_n (i := 0) (k := 0) rfl (idX7_init (114, .aload_n 0, 1) (List.mem_of_getElem? (i := 57) rfl)), List.forall_mem_cons.mpr ⟨ok_bipush (n := 20) (v := 20) (by decide) (idX7_init (115, .bipush 20, 2) (List.mem_of_getElem? (i := 58) rfl)), List.forall_mem_cons.mpr ⟨ok_na (k := 9) (n := 20) (v0 := 20) rfl (Or.inr (Or.inl ⟨rfl, rfl, rfl⟩)) ⟨by decide, by decide, by decide⟩ ar_int (idX7_init (117, .newarray .int, 2) (List.mem_of_getElem? (i := 59) rfl)), List.forall_mem_cons.mpr ⟨ok_putRFA (c := 7) (k := 33) (T := TX7) (N := 44) tyX7 tyX7_ok nmX7 rfl inB7 (by decide) rfl rfl rfl (tyX7_ok 33 (by decide)) flX7_53 (idX7_init (119, .putfield 53, 3) (List.mem_of_getElem? (i := 60) rfl)), List.forall_mem_cons.mpr ⟨ok_aload_n (i := 0) (k := 0) rfl (idX7_init (122, .aload_n 0, 1) (List.mem_of_getElem? (i := 61) rfl)), List.forall_mem_cons.mpr ⟨ok_bipush (n := 6) (v := 6) (by decide) (idX7_init (123, .bipush 6, 2) (List.mem_of_getElem? (i := 62) rfl)), List.forall_mem_cons.mpr ⟨ok_na (k := 9) (n := 6) (v0 := 6) rfl (Or.inr (Or.inl ⟨rfl, rfl, rfl⟩)) ⟨by decide, by decide, by decide⟩ ar_int (idX7_init (125, .newarray .int, 2) (List.mem_of_getElem? (i := 63) rfl)), List.forall_mem_cons.mpr ⟨ok_putRFA (c := 7) (k := 34) (T := TX7) (N := 44) tyX7 tyX7_ok nmX7 rfl inB7 (by decide) rfl rfl rfl (tyX7_ok 34 (by decide)) flX7_56 (idX7_init (127, .putfield 56, 3) (List.mem_of_getElem? (i := 64) rfl)), List.forall_mem_cons.mpr ⟨ok_aload_n (i := 0) (k := 0) rfl (idX7_init (130, .aload_n 0, 1) (List.mem_of_getElem? (i := 65) rfl)), List.forall_mem_cons.mpr ⟨ok_iconst (n := 4) (v := 4) (by decide) (idX7_init (131, .iconst 4, 1) (List.mem_of_getElem? (i := 66) rfl)), List.forall_mem_cons.mpr ⟨ok_na (k := 9) (n := 4) (v0 := 4) rfl (Or.inr (Or.inl ⟨rfl, rfl, rfl⟩)) ⟨by decide, by decide, by decide⟩ ar_int (idX7_init (132, .newarray .int, 2) (List.mem_of_getElem? (i := 67) rfl)), List.forall_mem_cons.mpr ⟨ok_putRFA (c := 7) (k := 35) (T := TX7) (N := 44) tyX7 tyX7_ok nmX7 rfl inB7 (by decide) rfl rfl rfl (tyX7_ok 35 (by decide)) flX7_59 (idX7_init (134, .putfield 59, 3) (List.mem_of_getElem? (i := 68) rfl)), List.forall_mem_cons.mpr ⟨ok_vr rfl (idX7_init (137, .return_, 1) (List.mem_of_getElem? (i := 69) rfl)), fun _ h => absurd h List.not_mem_nil⟩⟩⟩⟩⟩⟩⟩⟩⟩⟩⟩⟩⟩⟩⟩⟩⟩⟩⟩⟩⟩⟩⟩⟩⟩⟩⟩⟩⟩⟩⟩⟩⟩⟩⟩⟩⟩⟩⟩⟩⟩⟩⟩⟩⟩⟩⟩⟩⟩⟩⟩⟩⟩⟩⟩⟩⟩⟩⟩⟩⟩⟩⟩⟩⟩⟩⟩⟩⟩⟩
end
section
def cX0 (D : Dl) (a : Nat) : Dl := D
def cX2 (D : Dl) (a : Nat) : Dl := fa (fa (fa (fa D a 9 6 0) a 9 6 1) a 9 6 2) a 9 5 3
def cX3 (D : Dl) (a : Nat) : Dl := fa (fa (fa (fa (fa (fa (fa (fa (fa (fa (fa (fa D a 9 6 5) a 9 6 6) a 9 6 7) a 9 6 8) a 9 6 9) a 9 5 11) a 9 5 12) a 9 5 13) a 9 4 15) a 9 4 16) a 9 4 18) a 9 4 19
def cX4 (D : Dl) (a : Nat) : Dl := fa (fa (fa (fa D a 8 900 0) a 10 15 9) a 9 15 10) a 9 15 11
def cX5 (D : Dl) (a : Nat) : Dl := fa D a 9 20 0
def cX7 (D : Dl) (a : Nat) : Dl := fa (fa (fa (fa (fa (fa (fa (fa (fa (fa (fa (fa (fa (fa (fa (fa D a 9 900 1) a 9 8 12) a 9 202 15) a 9 202 16) a 9 25 17) a 9 25 18) a 9 25 19) a 9 400 20) a 9 75 21) a 9 5 24) a 9 25 25) a 9 5 27) a 9 5 28) a 9 20 33) a 9 6 34) a 9 4 35
section CSPEC
variable {l : Launch} {X : Nat × (Nat → Int32)} {d : Nat} {kr : KR}
set_option maxRecDepth 20000 in
theorem sX0_init {D : Dl} {s a : Nat} (hs : slf D a 0 8) (hn : D.length + 0 ≤ 4000) (h : kr none (mkD (cX0 D a) (s) I00)) : Ev l X uX0_init (d + 1) false 0 0 [.ref a] (mkD D s I00) kr := by
  have ha := hs.2.1
  refine Ev.of (by decide) (Nat.le_of_ble_eq_true rfl) ?_
  show Wf l X uX0_init (d + 1) false (D.length + 0, s + 0) 0 [(0, .ref a)] [] (mkD D s I00) kr
  refine ch_oi (tkX0_init (0, oAl 0 1 0) (List.mem_of_getElem? (i := 0) rfl)) (tkX0_init (1, oOi 1) (List.mem_of_getElem? (i := 1) rfl)) rfl rfl hs rfl ?_
  refine OK.go (tkX0_init (4, oVr) (List.mem_of_getElem? (i := 2) rfl)) ?_
  exact h
set_option maxRecDepth 20000 in
theorem sX2_init {D : Dl} {s a : Nat} (hs : slf D a 2 6) (hn : D.length + 4 ≤ 4000) (h : kr none (mkD (cX2 D a) (s + 6 + 6 + 6 + 5) I00)) : Ev l X uX2_init (d + 1) false 4 23 [.ref a] (mkD D s I00) kr := by
  have ha := hs.2.1
  refine Ev.of (by decide) (Nat.le_of_ble_eq_true rfl) ?_
  show Wf l X uX2_init (d + 1) false (D.length + 4, s + 23) 0 [(0, .ref a)] [] (mkD D s I00) kr
  refine ch_oi (tkX2_init (0, oAl 0 1 0) (List.mem_of_getElem? (i := 0) rfl)) (tkX2_init (1, oOi 1) (List.mem_of_getElem? (i := 1) rfl)) rfl rfl hs rfl ?_
  refine ch_arr (tkX2_init (4, oAl 4 1 0) (List.mem_of_getElem? (i := 2) rfl)) (tkX2_init (5, oIc 5 2 6) (List.mem_of_getElem? (i := 3) rfl)) (tkX2_init (7, oNa (D.length + 4, s + 23) 7 9 6 6) (List.mem_of_getElem? (i := 4) rfl)) (tkX2_init (9, oPR 9 2 0) (List.mem_of_getElem? (i := 5) rfl)) rfl rfl rfl rfl (fun _ => rfl) (hs) (by decide) rfl (als (by first | omega | (simp only [fa_len]; omega))) (by first | omega | (simp only [fa_len]; omega)) (by first | omega | (simp only [fa_len]; omega)) ?_
  refine ch_arr (tkX2_init (12, oAl 12 1 0) (List.mem_of_getElem? (i := 6) rfl)) (tkX2_init (13, oIc 13 2 6) (List.mem_of_getElem? (i := 7) rfl)) (tkX2_init (15, oNa (D.length + 4, s + 23) 15 9 6 6) (List.mem_of_getElem? (i := 8) rfl)) (tkX2_init (17, oPR 17 2 1) (List.mem_of_getElem? (i := 9) rfl)) rfl rfl rfl rfl (fun _ => rfl) (slf_fa (hs)) (by decide) rfl (als (by first | omega | (simp only [fa_len]; omega))) (by first | omega | (simp only [fa_len]; omega)) (by first | omega | (simp only [fa_len]; omega)) ?_
  refine ch_arr (tkX2_init (20, oAl 20 1 0) (List.mem_of_getElem? (i := 10) rfl)) (tkX2_init (21, oIc 21 2 6) (List.mem_of_getElem? (i := 11) rfl)) (tkX2_init (23, oNa (D.length + 4, s + 23) 23 9 6 6) (List.mem_of_getElem? (i := 12) rfl)) (tkX2_init (25, oPR 25 2 2) (List.mem_of_getElem? (i := 13) rfl)) rfl rfl rfl rfl (fun _ => rfl) (slf_fa (slf_fa (hs))) (by decide) rfl (als (by first | omega | (simp only [fa_len]; omega))) (by first | omega | (simp only [fa_len]; omega)) (by first | omega | (simp only [fa_len]; omega)) ?_
  refine ch_arr (tkX2_init (28, oAl 28 1 0) (List.mem_of_getElem? (i := 14) rfl)) (tkX2_init (29, oIc 29 1 5) (List.mem_of_getElem? (i := 15) rfl)) (tkX2_init (30, oNa (D.length + 4, s + 23) 30 9 5 5) (List.mem_of_getElem? (i := 16) rfl)) (tkX2_init (32, oPR 32 2 3) (List.mem_of_getElem? (i := 17) rfl)) rfl rfl rfl rfl (fun _ => rfl) (slf_fa (slf_fa (slf_fa (hs)))) (by decide) rfl (als (by first | omega | (simp only [fa_len]; omega))) (by first | omega | (simp only [fa_len]; omega)) (by first | omega | (simp only [fa_len]; omega)) ?_
  refine OK.go (tkX2_init (35, oVr) (List.mem_of_getElem? (i := 18) rfl)) ?_
  exact h
set_option maxRecDepth 20000 in
theorem sX3_init {D : Dl} {s a : Nat} (hs : slf D a 3 20) (hn : D.length + 12 ≤ 4000) (h : kr none (mkD (cX3 D a) (s + 6 + 6 + 6 + 6 + 6 + 5 + 5 + 5 + 4 + 4 + 4 + 4) I00)) : Ev l X uX3_init (d + 1) false 12 61 [.ref a] (mkD D s I00) kr := by
  have ha := hs.2.1
  refine Ev.of (by decide) (Nat.le_of_ble_eq_true rfl) ?_
  show Wf l X uX3_init (d + 1) false (D.length + 12, s + 61) 0 [(0, .ref a)] [] (mkD D s I00) kr
  refine ch_oi (tkX3_init (0, oAl 0 1 0) (List.mem_of_getElem? (i := 0) rfl)) (tkX3_init (1, oOi 1) (List.mem_of_getElem? (i := 1) rfl)) rfl rfl hs rfl ?_
  refine ch_arr (tkX3_init (4, oAl 4 1 0) (List.mem_of_getElem? (i := 2) rfl)) (tkX3_init (5, oIc 5 2 6) (List.mem_of_getElem? (i := 3) rfl)) (tkX3_init (7, oNa (D.length + 12, s + 61) 7 9 6 6) (List.mem_of_getElem? (i := 4) rfl)) (tkX3_init (9, oPR 9 3 5) (List.mem_of_getElem? (i := 5) rfl)) rfl rfl rfl rfl (fun _ => rfl) (hs) (by decide) rfl (als (by first | omega | (simp only [fa_len]; omega))) (by first | omega | (simp only [fa_len]; omega)) (by first | omega | (simp only [fa_len]; omega)) ?_
  refine ch_arr (tkX3_init (12, oAl 12 1 0) (List.mem_of_getElem? (i := 6) rfl)) (tkX3_init (13, oIc 13 2 6) (List.mem_of_getElem? (i := 7) rfl)) (tkX3_init (15, oNa (D.length + 12, s + 61) 15 9 6 6) (List.mem_of_getElem? (i := 8) rfl)) (tkX3_init (17, oPR 17 3 6) (List.mem_of_getElem? (i := 9) rfl)) rfl rfl rfl rfl (fun _ => rfl) (slf_fa (hs)) (by decide) rfl (als (by first | omega | (simp only [fa_len]; omega))) (by first | omega | (simp only [fa_len]; omega)) (by first | omega | (simp only [fa_len]; omega)) ?_
  refine ch_arr (tkX3_init (20, oAl 20 1 0) (List.mem_of_getElem? (i := 10) rfl)) (tkX3_init (21, oIc 21 2 6) (List.mem_of_getElem? (i := 11) rfl)) (tkX3_init (23, oNa (D.length + 12, s + 61) 23 9 6 6) (List.mem_of_getElem? (i := 12) rfl)) (tkX3_init (25, oPR 25 3 7) (List.mem_of_getElem? (i := 13) rfl)) rfl rfl rfl rfl (fun _ => rfl) (slf_fa (slf_fa (hs))) (by decide) rfl (als (by first | omega | (simp only [fa_len]; omega))) (by first | omega | (simp only [fa_len]; omega)) (by first | omega | (simp only [fa_len]; omega)) ?_
  refine ch_arr (tkX3_init (28, oAl 28 1 0) (List.mem_of_getElem? (i := 14) rfl)) (tkX3_init (29, oIc 29 2 6) (List.mem_of_getElem? (i := 15) rfl)) (tkX3_init (31, oNa (D.length + 12, s + 61) 31 9 6 6) (List.mem_of_getElem? (i := 16) rfl)) (tkX3_init (33, oPR 33 3 8) (List.mem_of_getElem? (i := 17) rfl)) rfl rfl rfl rfl (fun _ => rfl) (slf_fa (slf_fa (slf_fa (hs)))) (by decide) rfl (als (by first | omega | (simp only [fa_len]; omega))) (by first | omega | (simp only [fa_len]; omega)) (by first | omega | (simp only [fa_len]; omega)) ?_
  refine ch_arr (tkX3_init (36, oAl 36 1 0) (List.mem_of_getElem? (i := 18) rfl)) (tkX3_init (37, oIc 37 2 6) (List.mem_of_getElem? (i := 19) rfl)) (tkX3_init (39, oNa (D.length + 12, s + 61) 39 9 6 6) (List.mem_of_getElem? (i := 20) rfl)) (tkX3_init (41, oPR 41 3 9) (List.mem_of_getElem? (i := 21) rfl)) rfl rfl rfl rfl (fun _ => rfl) (slf_fa (slf_fa (slf_fa (slf_fa (hs))))) (by decide) rfl (als (by first | omega | (simp only [fa_len]; omega))) (by first | omega | (simp only [fa_len]; omega)) (by first | omega | (simp only [fa_len]; omega)) ?_
  refine ch_arr (tkX3_init (44, oAl 44 1 0) (List.mem_of_getElem? (i := 22) rfl)) (tkX3_init (45, oIc 45 1 5) (List.mem_of_getElem? (i := 23) rfl)) (tkX3_init (46, oNa (D.length + 12, s + 61) 46 9 5 5) (List.mem_of_getElem? (i := 24) rfl)) (tkX3_init (48, oPR 48 3 11) (List.mem_of_getElem? (i := 25) rfl)) rfl rfl rfl rfl (fun _ => rfl) (slf_fa (slf_fa (slf_fa (slf_fa (slf_fa (hs)))))) (by decide) rfl (als (by first | omega | (simp only [fa_len]; omega))) (by first | omega | (simp only [fa_len]; omega)) (by first | omega | (simp only [fa_len]; omega)) ?_
  refine ch_arr (tkX3_init (51, oAl 51 1 0) (List.mem_of_getElem? (i := 26) rfl)) (tkX3_init (52, oIc 52 1 5) (List.mem_of_getElem? (i := 27) rfl)) (tkX3_init (53, oNa (D.length + 12, s + 61) 53 9 5 5) (List.mem_of_getElem? (i := 28) rfl)) (tkX3_init (55, oPR 55 3 12) (List.mem_of_getElem? (i := 29) rfl)) rfl rfl rfl rfl (fun _ => rfl) (slf_fa (slf_fa (slf_fa (slf_fa (slf_fa (slf_fa (hs))))))) (by decide) rfl (als (by first | omega | (simp only [fa_len]; omega))) (by first | omega | (simp only [fa_len]; omega)) (by first | omega | (simp only [fa_len]; omega)) ?_
  refine ch_arr (tkX3_init (58, oAl 58 1 0) (List.mem_of_getElem? (i := 30) rfl)) (tkX3_init (59, oIc 59 1 5) (List.mem_of_getElem? (i := 31) rfl)) (tkX3_init (60, oNa (D.length + 12, s + 61) 60 9 5 5) (List.mem_of_getElem? (i := 32) rfl)) (tkX3_init (62, oPR 62 3 13) (List.mem_of_getElem? (i := 33) rfl)) rfl rfl rfl rfl (fun _ => rfl) (slf_fa (slf_fa (slf_fa (slf_fa (slf_fa (slf_fa (slf_fa (hs)))))))) (by decide) rfl (als (by first | omega | (simp only [fa_len]; omega))) (by first | omega | (simp only [fa_len]; omega)) (by first | omega | (simp only [fa_len]; omega)) ?_
  refine ch_arr (tkX3_init (65, oAl 65 1 0) (List.mem_of_getElem? (i := 34) rfl)) (tkX3_init (66, oIc 66 1 4) (List.mem_of_getElem? (i := 35) rfl)) (tkX3_init (67, oNa (D.length + 12, s + 61) 67 9 4 4) (List.mem_of_getElem? (i := 36) rfl)) (tkX3_init (69, oPR 69 3 15) (List.mem_of_getElem? (i := 37) rfl)) rfl rfl rfl rfl (fun _ => rfl) (slf_fa (slf_fa (slf_fa (slf_fa (slf_fa (slf_fa (slf_fa (slf_fa (hs))))))))) (by decide) rfl (als (by first | omega | (simp only [fa_len]; omega))) (by first | omega | (simp only [fa_len]; omega)) (by first | omega | (simp only [fa_len]; omega)) ?_
  refine ch_arr (tkX3_init (72, oAl 72 1 0) (List.mem_of_getElem? (i := 38) rfl)) (tkX3_init (73, oIc 73 1 4) (List.mem_of_getElem? (i := 39) rfl)) (tkX3_init (74, oNa (D.length + 12, s + 61) 74 9 4 4) (List.mem_of_getElem? (i := 40) rfl)) (tkX3_init (76, oPR 76 3 16) (List.mem_of_getElem? (i := 41) rfl)) rfl rfl rfl rfl (fun _ => rfl) (slf_fa (slf_fa (slf_fa (slf_fa (slf_fa (slf_fa (slf_fa (slf_fa (slf_fa (hs)))))))))) (by decide) rfl (als (by first | omega | (simp only [fa_len]; omega))) (by first | omega | (simp only [fa_len]; omega)) (by first | omega | (simp only [fa_len]; omega)) ?_
  refine ch_arr (tkX3_init (79, oAl 79 1 0) (List.mem_of_getElem? (i := 42) rfl)) (tkX3_init (80, oIc 80 1 4) (List.mem_of_getElem? (i := 43) rfl)) (tkX3_init (81, oNa (D.length + 12, s + 61) 81 9 4 4) (List.mem_of_getElem? (i := 44) rfl)) (tkX3_init (83, oPR 83 3 18) (List.mem_of_getElem? (i := 45) rfl)) rfl rfl rfl rfl (fun _ => rfl) (slf_fa (slf_fa (slf_fa (slf_fa (slf_fa (slf_fa (slf_fa (slf_fa (slf_fa (slf_fa (hs))))))))))) (by decide) rfl (als (by first | omega | (simp only [fa_len]; omega))) (by first | omega | (simp only [fa_len]; omega)) (by first | omega | (simp only [fa_len]; omega)) ?_
  refine ch_arr (tkX3_init (86, oAl 86 1 0) (List.mem_of_getElem? (i := 46) rfl)) (tkX3_init (87, oIc 87 1 4) (List.mem_of_getElem? (i := 47) rfl)) (tkX3_init (88, oNa (D.length + 12, s + 61) 88 9 4 4) (List.mem_of_getElem? (i := 48) rfl)) (tkX3_init (90, oPR 90 3 19) (List.mem_of_getElem? (i := 49) rfl)) rfl rfl rfl rfl (fun _ => rfl) (slf_fa (slf_fa (slf_fa (slf_fa (slf_fa (slf_fa (slf_fa (slf_fa (slf_fa (slf_fa (slf_fa (hs)))))))))))) (by decide) rfl (als (by first | omega | (simp only [fa_len]; omega))) (by first | omega | (simp only [fa_len]; omega)) (by first | omega | (simp only [fa_len]; omega)) ?_
  refine OK.go (tkX3_init (93, oVr) (List.mem_of_getElem? (i := 50) rfl)) ?_
  exact h
set_option maxRecDepth 20000 in
theorem sX4_init {D : Dl} {s a : Nat} (hs : slf D a 4 15) (hn : D.length + 4 ≤ 4000) (h : kr none (mkD (cX4 D a) (s + 900 + 15 + 15 + 15) I00)) : Ev l X uX4_init (d + 1) false 4 945 [.ref a] (mkD D s I00) kr := by
  have ha := hs.2.1
  refine Ev.of (by decide) (Nat.le_of_ble_eq_true rfl) ?_
  show Wf l X uX4_init (d + 1) false (D.length + 4, s + 945) 0 [(0, .ref a)] [] (mkD D s I00) kr
  refine ch_oi (tkX4_init (0, oAl 0 1 0) (List.mem_of_getElem? (i := 0) rfl)) (tkX4_init (1, oOi 1) (List.mem_of_getElem? (i := 1) rfl)) rfl rfl hs rfl ?_
  refine ch_arr (tkX4_init (4, oAl 4 1 0) (List.mem_of_getElem? (i := 2) rfl)) (tkX4_init (5, oIc 5 3 900) (List.mem_of_getElem? (i := 3) rfl)) (tkX4_init (8, oNa (D.length + 4, s + 945) 8 8 900 900) (List.mem_of_getElem? (i := 4) rfl)) (tkX4_init (10, oPR 10 4 0) (List.mem_of_getElem? (i := 5) rfl)) rfl rfl rfl rfl (fun _ => rfl) (hs) (by decide) rfl (als (by first | omega | (simp only [fa_len]; omega))) (by first | omega | (simp only [fa_len]; omega)) (by first | omega | (simp only [fa_len]; omega)) ?_
  refine ch_arr (tkX4_init (13, oAl 13 1 0) (List.mem_of_getElem? (i := 6) rfl)) (tkX4_init (14, oIc 14 2 15) (List.mem_of_getElem? (i := 7) rfl)) (tkX4_init (16, oNa (D.length + 4, s + 945) 16 10 15 15) (List.mem_of_getElem? (i := 8) rfl)) (tkX4_init (18, oPR 18 4 9) (List.mem_of_getElem? (i := 9) rfl)) rfl rfl rfl rfl (fun _ => rfl) (slf_fa (hs)) (by decide) rfl (als (by first | omega | (simp only [fa_len]; omega))) (by first | omega | (simp only [fa_len]; omega)) (by first | omega | (simp only [fa_len]; omega)) ?_
  refine ch_arr (tkX4_init (21, oAl 21 1 0) (List.mem_of_getElem? (i := 10) rfl)) (tkX4_init (22, oIc 22 2 15) (List.mem_of_getElem? (i := 11) rfl)) (tkX4_init (24, oNa (D.length + 4, s + 945) 24 9 15 15) (List.mem_of_getElem? (i := 12) rfl)) (tkX4_init (26, oPR 26 4 10) (List.mem_of_getElem? (i := 13) rfl)) rfl rfl rfl rfl (fun _ => rfl) (slf_fa (slf_fa (hs))) (by decide) rfl (als (by first | omega | (simp only [fa_len]; omega))) (by first | omega | (simp only [fa_len]; omega)) (by first | omega | (simp only [fa_len]; omega)) ?_
  refine ch_arr (tkX4_init (29, oAl 29 1 0) (List.mem_of_getElem? (i := 14) rfl)) (tkX4_init (30, oIc 30 2 15) (List.mem_of_getElem? (i := 15) rfl)) (tkX4_init (32, oNa (D.length + 4, s + 945) 32 9 15 15) (List.mem_of_getElem? (i := 16) rfl)) (tkX4_init (34, oPR 34 4 11) (List.mem_of_getElem? (i := 17) rfl)) rfl rfl rfl rfl (fun _ => rfl) (slf_fa (slf_fa (slf_fa (hs)))) (by decide) rfl (als (by first | omega | (simp only [fa_len]; omega))) (by first | omega | (simp only [fa_len]; omega)) (by first | omega | (simp only [fa_len]; omega)) ?_
  refine OK.go (tkX4_init (37, oVr) (List.mem_of_getElem? (i := 18) rfl)) ?_
  exact h
set_option maxRecDepth 20000 in
theorem sX5_init {D : Dl} {s a : Nat} (hs : slf D a 5 2) (hn : D.length + 1 ≤ 4000) (h : kr none (mkD (cX5 D a) (s + 20) I00)) : Ev l X uX5_init (d + 1) false 1 20 [.ref a] (mkD D s I00) kr := by
  have ha := hs.2.1
  refine Ev.of (by decide) (Nat.le_of_ble_eq_true rfl) ?_
  show Wf l X uX5_init (d + 1) false (D.length + 1, s + 20) 0 [(0, .ref a)] [] (mkD D s I00) kr
  refine ch_oi (tkX5_init (0, oAl 0 1 0) (List.mem_of_getElem? (i := 0) rfl)) (tkX5_init (1, oOi 1) (List.mem_of_getElem? (i := 1) rfl)) rfl rfl hs rfl ?_
  refine ch_arr (tkX5_init (4, oAl 4 1 0) (List.mem_of_getElem? (i := 2) rfl)) (tkX5_init (5, oIc 5 2 20) (List.mem_of_getElem? (i := 3) rfl)) (tkX5_init (7, oNa (D.length + 1, s + 20) 7 9 20 20) (List.mem_of_getElem? (i := 4) rfl)) (tkX5_init (9, oPR 9 5 0) (List.mem_of_getElem? (i := 5) rfl)) rfl rfl rfl rfl (fun _ => rfl) (hs) (by decide) rfl (als (by first | omega | (simp only [fa_len]; omega))) (by first | omega | (simp only [fa_len]; omega)) (by first | omega | (simp only [fa_len]; omega)) ?_
  refine OK.go (tkX5_init (12, oVr) (List.mem_of_getElem? (i := 6) rfl)) ?_
  exact h
set_option maxRecDepth 20000 in
theorem sX7_init {D : Dl} {s a : Nat} (hs : slf D a 7 44) (hn : D.length + 16 ≤ 4000) (h : kr none (mkD (cX7 D a) (s + 900 + 8 + 202 + 202 + 25 + 25 + 25 + 400 + 75 + 5 + 25 + 5 + 5 + 20 + 6 + 4) (u2 I00 a 10 (-1)))) : Ev l X uX7_init (d + 1) false 16 1932 [.ref a] (mkD D s I00) kr := by
  have ha := hs.2.1
  refine Ev.of (by decide) (Nat.le_of_ble_eq_true rfl) ?_
  show Wf l X uX7_init (d + 1) false (D.length + 16, s + 1932) 0 [(0, .ref a)] [] (mkD D s I00) kr
  refine ch_oi (tkX7_init (0, oAl 0 1 0) (List.mem_of_getElem? (i := 0) rfl)) (tkX7_init (1, oOi 1) (List.mem_of_getElem? (i := 1) rfl)) rfl rfl hs rfl ?_
  refine ch_arr (tkX7_init (4, oAl 4 1 0) (List.mem_of_getElem? (i := 2) rfl)) (tkX7_init (5, oIc 5 3 900) (List.mem_of_getElem? (i := 3) rfl)) (tkX7_init (8, oNa (D.length + 16, s + 1932) 8 9 900 900) (List.mem_of_getElem? (i := 4) rfl)) (tkX7_init (10, oPR 10 7 1) (List.mem_of_getElem? (i := 5) rfl)) rfl rfl rfl rfl (fun _ => rfl) (hs) (by decide) rfl (als (by first | omega | (simp only [fa_len]; omega))) (by first | omega | (simp only [fa_len]; omega)) (by first | omega | (simp only [fa_len]; omega)) ?_
  refine go_a0 (tkX7_init (13, oAl 13 1 0) (List.mem_of_getElem? (i := 6) rfl)) rfl hs.1 ?_
  refine OK.go (tkX7_init (14, oIc 14 1 (-1)) (List.mem_of_getElem? (i := 7) rfl)) ?_
  refine OK.go (tkX7_init (15, oPI 15 7 10) (List.mem_of_getElem? (i := 8) rfl)) ?_
  have hs1 : slf (fa (D) a 9 900 1) a 7 44 := slf_fa (hs)
  show cond (kk (mkD (fa (D) a 9 900 1) (s + 900) I00) a 7) (Wf l X uX7_init (d + 1) false (D.length + 16, s + 1932) 18 [(0, .ref a)] [] (mkD (fa (D) a 9 900 1) (s + 900) (u2 I00 a 10 (-1))) kr) False
  rw [kk_D ⟨hs1.1, hs1.2.1, hs1.2.2.1⟩]
  have hI : ∀ m, a ≤ m → ∀ j, u2 I00 a 10 (-1) (m + 1) j = 0 := fun m hm j => (u2_o (by omega)).trans rfl
  show Wf l X uX7_init (d + 1) false (D.length + 16, s + 1932) 18 [(0, .ref a)] [] (mkD (fa (D) a 9 900 1) (s + 900) (u2 I00 a 10 (-1))) kr
  refine ch_arr (tkX7_init (18, oAl 18 1 0) (List.mem_of_getElem? (i := 9) rfl)) (tkX7_init (19, oIc 19 2 8) (List.mem_of_getElem? (i := 10) rfl)) (tkX7_init (21, oNa (D.length + 16, s + 1932) 21 9 8 8) (List.mem_of_getElem? (i := 11) rfl)) (tkX7_init (23, oPR 23 7 12) (List.mem_of_getElem? (i := 12) rfl)) rfl rfl rfl rfl (hI _ (by first | omega | (simp only [fa_len]; omega))) (slf_fa (hs)) (by decide) rfl (als (by first | omega | (simp only [fa_len]; omega))) (by first | omega | (simp only [fa_len]; omega)) (by first | omega | (simp only [fa_len]; omega)) ?_
  refine ch_arr (tkX7_init (26, oAl 26 1 0) (List.mem_of_getElem? (i := 13) rfl)) (tkX7_init (27, oIc 27 3 202) (List.mem_of_getElem? (i := 14) rfl)) (tkX7_init (30, oNa (D.length + 16, s + 1932) 30 9 202 202) (List.mem_of_getElem? (i := 15) rfl)) (tkX7_init (32, oPR 32 7 15) (List.mem_of_getElem? (i := 16) rfl)) rfl rfl rfl rfl (hI _ (by first | omega | (simp only [fa_len]; omega))) (slf_fa (slf_fa (hs))) (by decide) rfl (als (by first | omega | (simp only [fa_len]; omega))) (by first | omega | (simp only [fa_len]; omega)) (by first | omega | (simp only [fa_len]; omega)) ?_
  refine ch_arr (tkX7_init (35, oAl 35 1 0) (List.mem_of_getElem? (i := 17) rfl)) (tkX7_init (36, oIc 36 3 202) (List.mem_of_getElem? (i := 18) rfl)) (tkX7_init (39, oNa (D.length + 16, s + 1932) 39 9 202 202) (List.mem_of_getElem? (i := 19) rfl)) (tkX7_init (41, oPR 41 7 16) (List.mem_of_getElem? (i := 20) rfl)) rfl rfl rfl rfl (hI _ (by first | omega | (simp only [fa_len]; omega))) (slf_fa (slf_fa (slf_fa (hs)))) (by decide) rfl (als (by first | omega | (simp only [fa_len]; omega))) (by first | omega | (simp only [fa_len]; omega)) (by first | omega | (simp only [fa_len]; omega)) ?_
  refine ch_arr (tkX7_init (44, oAl 44 1 0) (List.mem_of_getElem? (i := 21) rfl)) (tkX7_init (45, oIc 45 2 25) (List.mem_of_getElem? (i := 22) rfl)) (tkX7_init (47, oNa (D.length + 16, s + 1932) 47 9 25 25) (List.mem_of_getElem? (i := 23) rfl)) (tkX7_init (49, oPR 49 7 17) (List.mem_of_getElem? (i := 24) rfl)) rfl rfl rfl rfl (hI _ (by first | omega | (simp only [fa_len]; omega))) (slf_fa (slf_fa (slf_fa (slf_fa (hs))))) (by decide) rfl (als (by first | omega | (simp only [fa_len]; omega))) (by first | omega | (simp only [fa_len]; omega)) (by first | omega | (simp only [fa_len]; omega)) ?_
  refine ch_arr (tkX7_init (52, oAl 52 1 0) (List.mem_of_getElem? (i := 25) rfl)) (tkX7_init (53, oIc 53 2 25) (List.mem_of_getElem? (i := 26) rfl)) (tkX7_init (55, oNa (D.length + 16, s + 1932) 55 9 25 25) (List.mem_of_getElem? (i := 27) rfl)) (tkX7_init (57, oPR 57 7 18) (List.mem_of_getElem? (i := 28) rfl)) rfl rfl rfl rfl (hI _ (by first | omega | (simp only [fa_len]; omega))) (slf_fa (slf_fa (slf_fa (slf_fa (slf_fa (hs)))))) (by decide) rfl (als (by first | omega | (simp only [fa_len]; omega))) (by first | omega | (simp only [fa_len]; omega)) (by first | omega | (simp only [fa_len]; omega)) ?_
  refine ch_arr (tkX7_init (60, oAl 60 1 0) (List.mem_of_getElem? (i := 29) rfl)) (tkX7_init (61, oIc 61 2 25) (List.mem_of_getElem? (i := 30) rfl)) (tkX7_init (63, oNa (D.length + 16, s + 1932) 63 9 25 25) (List.mem_of_getElem? (i := 31) rfl)) (tkX7_init (65, oPR 65 7 19) (List.mem_of_getElem? (i := 32) rfl)) rfl rfl rfl rfl (hI _ (by first | omega | (simp only [fa_len]; omega))) (slf_fa (slf_fa (slf_fa (slf_fa (slf_fa (slf_fa (hs))))))) (by decide) rfl (als (by first | omega | (simp only [fa_len]; omega))) (by first | omega | (simp only [fa_len]; omega)) (by first | omega | (simp only [fa_len]; omega)) ?_
  refine ch_arr (tkX7_init (68, oAl 68 1 0) (List.mem_of_getElem? (i := 33) rfl)) (tkX7_init (69, oIc 69 3 400) (List.mem_of_getElem? (i := 34) rfl)) (tkX7_init (72, oNa (D.length + 16, s + 1932) 72 9 400 400) (List.mem_of_getElem? (i := 35) rfl)) (tkX7_init (74, oPR 74 7 20) (List.mem_of_getElem? (i := 36) rfl)) rfl rfl rfl rfl (hI _ (by first | omega | (simp only [fa_len]; omega))) (slf_fa (slf_fa (slf_fa (slf_fa (slf_fa (slf_fa (slf_fa (hs)))))))) (by decide) rfl (als (by first | omega | (simp only [fa_len]; omega))) (by first | omega | (simp only [fa_len]; omega)) (by first | omega | (simp only [fa_len]; omega)) ?_
  refine ch_arr (tkX7_init (77, oAl 77 1 0) (List.mem_of_getElem? (i := 37) rfl)) (tkX7_init (78, oIc 78 2 75) (List.mem_of_getElem? (i := 38) rfl)) (tkX7_init (80, oNa (D.length + 16, s + 1932) 80 9 75 75) (List.mem_of_getElem? (i := 39) rfl)) (tkX7_init (82, oPR 82 7 21) (List.mem_of_getElem? (i := 40) rfl)) rfl rfl rfl rfl (hI _ (by first | omega | (simp only [fa_len]; omega))) (slf_fa (slf_fa (slf_fa (slf_fa (slf_fa (slf_fa (slf_fa (slf_fa (hs))))))))) (by decide) rfl (als (by first | omega | (simp only [fa_len]; omega))) (by first | omega | (simp only [fa_len]; omega)) (by first | omega | (simp only [fa_len]; omega)) ?_
  refine ch_arr (tkX7_init (85, oAl 85 1 0) (List.mem_of_getElem? (i := 41) rfl)) (tkX7_init (86, oIc 86 1 5) (List.mem_of_getElem? (i := 42) rfl)) (tkX7_init (87, oNa (D.length + 16, s + 1932) 87 9 5 5) (List.mem_of_getElem? (i := 43) rfl)) (tkX7_init (89, oPR 89 7 24) (List.mem_of_getElem? (i := 44) rfl)) rfl rfl rfl rfl (hI _ (by first | omega | (simp only [fa_len]; omega))) (slf_fa (slf_fa (slf_fa (slf_fa (slf_fa (slf_fa (slf_fa (slf_fa (slf_fa (hs)))))))))) (by decide) rfl (als (by first | omega | (simp only [fa_len]; omega))) (by first | omega | (simp only [fa_len]; omega)) (by first | omega | (simp only [fa_len]; omega)) ?_
  refine ch_arr (tkX7_init (92, oAl 92 1 0) (List.mem_of_getElem? (i := 45) rfl)) (tkX7_init (93, oIc 93 2 25) (List.mem_of_getElem? (i := 46) rfl)) (tkX7_init (95, oNa (D.length + 16, s + 1932) 95 9 25 25) (List.mem_of_getElem? (i := 47) rfl)) (tkX7_init (97, oPR 97 7 25) (List.mem_of_getElem? (i := 48) rfl)) rfl rfl rfl rfl (hI _ (by first | omega | (simp only [fa_len]; omega))) (slf_fa (slf_fa (slf_fa (slf_fa (slf_fa (slf_fa (slf_fa (slf_fa (slf_fa (slf_fa (hs))))))))))) (by decide) rfl (als (by first | omega | (simp only [fa_len]; omega))) (by first | omega | (simp only [fa_len]; omega)) (by first | omega | (simp only [fa_len]; omega)) ?_
  refine ch_arr (tkX7_init (100, oAl 100 1 0) (List.mem_of_getElem? (i := 49) rfl)) (tkX7_init (101, oIc 101 1 5) (List.mem_of_getElem? (i := 50) rfl)) (tkX7_init (102, oNa (D.length + 16, s + 1932) 102 9 5 5) (List.mem_of_getElem? (i := 51) rfl)) (tkX7_init (104, oPR 104 7 27) (List.mem_of_getElem? (i := 52) rfl)) rfl rfl rfl rfl (hI _ (by first | omega | (simp only [fa_len]; omega))) (slf_fa (slf_fa (slf_fa (slf_fa (slf_fa (slf_fa (slf_fa (slf_fa (slf_fa (slf_fa (slf_fa (hs)))))))))))) (by decide) rfl (als (by first | omega | (simp only [fa_len]; omega))) (by first | omega | (simp only [fa_len]; omega)) (by first | omega | (simp only [fa_len]; omega)) ?_
  refine ch_arr (tkX7_init (107, oAl 107 1 0) (List.mem_of_getElem? (i := 53) rfl)) (tkX7_init (108, oIc 108 1 5) (List.mem_of_getElem? (i := 54) rfl)) (tkX7_init (109, oNa (D.length + 16, s + 1932) 109 9 5 5) (List.mem_of_getElem? (i := 55) rfl)) (tkX7_init (111, oPR 111 7 28) (List.mem_of_getElem? (i := 56) rfl)) rfl rfl rfl rfl (hI _ (by first | omega | (simp only [fa_len]; omega))) (slf_fa (slf_fa (slf_fa (slf_fa (slf_fa (slf_fa (slf_fa (slf_fa (slf_fa (slf_fa (slf_fa (slf_fa (hs))))))))))))) (by decide) rfl (als (by first | omega | (simp only [fa_len]; omega))) (by first | omega | (simp only [fa_len]; omega)) (by first | omega | (simp only [fa_len]; omega)) ?_
  refine ch_arr (tkX7_init (114, oAl 114 1 0) (List.mem_of_getElem? (i := 57) rfl)) (tkX7_init (115, oIc 115 2 20) (List.mem_of_getElem? (i := 58) rfl)) (tkX7_init (117, oNa (D.length + 16, s + 1932) 117 9 20 20) (List.mem_of_getElem? (i := 59) rfl)) (tkX7_init (119, oPR 119 7 33) (List.mem_of_getElem? (i := 60) rfl)) rfl rfl rfl rfl (hI _ (by first | omega | (simp only [fa_len]; omega))) (slf_fa (slf_fa (slf_fa (slf_fa (slf_fa (slf_fa (slf_fa (slf_fa (slf_fa (slf_fa (slf_fa (slf_fa (slf_fa (hs)))))))))))))) (by decide) rfl (als (by first | omega | (simp only [fa_len]; omega))) (by first | omega | (simp only [fa_len]; omega)) (by first | omega | (simp only [fa_len]; omega)) ?_
  refine ch_arr (tkX7_init (122, oAl 122 1 0) (List.mem_of_getElem? (i := 61) rfl)) (tkX7_init (123, oIc 123 2 6) (List.mem_of_getElem? (i := 62) rfl)) (tkX7_init (125, oNa (D.length + 16, s + 1932) 125 9 6 6) (List.mem_of_getElem? (i := 63) rfl)) (tkX7_init (127, oPR 127 7 34) (List.mem_of_getElem? (i := 64) rfl)) rfl rfl rfl rfl (hI _ (by first | omega | (simp only [fa_len]; omega))) (slf_fa (slf_fa (slf_fa (slf_fa (slf_fa (slf_fa (slf_fa (slf_fa (slf_fa (slf_fa (slf_fa (slf_fa (slf_fa (slf_fa (hs))))))))))))))) (by decide) rfl (als (by first | omega | (simp only [fa_len]; omega))) (by first | omega | (simp only [fa_len]; omega)) (by first | omega | (simp only [fa_len]; omega)) ?_
  refine ch_arr (tkX7_init (130, oAl 130 1 0) (List.mem_of_getElem? (i := 65) rfl)) (tkX7_init (131, oIc 131 1 4) (List.mem_of_getElem? (i := 66) rfl)) (tkX7_init (132, oNa (D.length + 16, s + 1932) 132 9 4 4) (List.mem_of_getElem? (i := 67) rfl)) (tkX7_init (134, oPR 134 7 35) (List.mem_of_getElem? (i := 68) rfl)) rfl rfl rfl rfl (hI _ (by first | omega | (simp only [fa_len]; omega))) (slf_fa (slf_fa (slf_fa (slf_fa (slf_fa (slf_fa (slf_fa (slf_fa (slf_fa (slf_fa (slf_fa (slf_fa (slf_fa (slf_fa (slf_fa (hs)))))))))))))))) (by decide) rfl (als (by first | omega | (simp only [fa_len]; omega))) (by first | omega | (simp only [fa_len]; omega)) (by first | omega | (simp only [fa_len]; omega)) ?_
  refine OK.go (tkX7_init (137, oVr) (List.mem_of_getElem? (i := 69) rfl)) ?_
  exact h
end CSPEC
end
section
/-! the constructor of GargoyleClose -/
def sl4 (D : Dl) (a : Nat) (k : Nat × Nat) (n : Nat) : Prop := 0 < a ∧ a ≤ D.length ∧ kd D a = k ∧ rln D a = n
theorem sl4_dA {D : Dl} {a n k m z : Nat} {c : Nat × Nat} (h : sl4 D a c n) : sl4 (dA D k m z) a c n := by
  obtain ⟨h0, h1, h2, h3⟩ := h
  refine ⟨h0, by rw [dA_len]; omega, by rw [kd_dA h1]; exact h2, ?_⟩
  unfold rln at h3 ⊢
  rw [dA_o (by omega)]
  exact h3
theorem sl4_dR {D : Dl} {a n b i v : Nat} {c : Nat × Nat} (h : sl4 D a c n) : sl4 (dR D b i v) a c n := by
  obtain ⟨h0, h1, h2, h3⟩ := h
  refine ⟨h0, by rw [dR_len]; exact h1, by rw [kd_dR]; exact h2, ?_⟩
  unfold rln at h3 ⊢
  by_cases e : a - 1 = b - 1
  · rw [e, dR_s (by omega), List.length_set, ← e]
    exact h3
  · rw [dR_o e]
    exact h3
theorem sl4_new {D : Dl} {k m n : Nat} : sl4 (dA D k m n) (D.length + 1) (k, m) n := by
  refine ⟨Nat.succ_pos _, by rw [dA_len]; exact Nat.le_refl _, kd_dAs, ?_⟩
  unfold rln
  rw [Nat.add_sub_cancel, dA_s, List.length_replicate]
theorem sl4_fa {D : Dl} {a k m f b n : Nat} {c : Nat × Nat} (h : sl4 D b c n) : sl4 (fa D a k m f) b c n := sl4_dR (sl4_dA h)
theorem rd_dA {D : Dl} {k n m a i : Nat} (h : a ≤ D.length) : rd (dA D k n m) a i = rd D a i := by
  cases a with
  | zero => rfl
  | succ a => show (_ : List Nat).getD i 0 = (_ : List Nat).getD i 0; rw [dA_o h]
theorem rd_dR {D : Dl} {b j v a i : Nat} (h : a ≠ b) (hb : 0 < b) : rd (dR D b j v) a i = rd D a i := by
  cases a with
  | zero => rfl
  | succ a => show (_ : List Nat).getD i 0 = (_ : List Nat).getD i 0; rw [dR_o (by omega)]
theorem rd_fa {D : Dl} {b k m f a i : Nat} (h : a ≠ b) (hb : 0 < b) (ha : a ≤ D.length) : rd (fa D b k m f) a i = rd D a i := by
  unfold fa
  rw [rd_dR h hb, rd_dA ha]
/-- the world that a callee leaves has the caller's names -/
def kps (D D2 : Dl) : Prop := (∀ a c n, sl4 D a c n → sl4 D2 a c n)
theorem kps_fa {D D2 : Dl} {a k m f : Nat} (h : kps D D2) : kps D (fa D2 a k m f) := fun a c n z => sl4_fa (h a c n z)
theorem kps_rf {D : Dl} : kps D D := fun _ _ _ z => z
theorem kps_dA {D : Dl} {k m z : Nat} : kps D (dA D k m z) := fun _ _ _ h => sl4_dA h
theorem kps_0 {D : Dl} {a : Nat} : kps D (cX0 D a) := kps_rf
theorem kps_2 {D : Dl} {a : Nat} : kps D (cX2 D a) := kps_fa (kps_fa (kps_fa (kps_fa kps_rf)))
theorem kps_3 {D : Dl} {a : Nat} : kps D (cX3 D a) := kps_fa (kps_fa (kps_fa (kps_fa (kps_fa (kps_fa (kps_fa (kps_fa (kps_fa (kps_fa (kps_fa (kps_fa kps_rf)))))))))))
theorem kps_4 {D : Dl} {a : Nat} : kps D (cX4 D a) := kps_fa (kps_fa (kps_fa (kps_fa kps_rf)))
theorem kps_5 {D : Dl} {a : Nat} : kps D (cX5 D a) := kps_fa kps_rf
theorem len_0 {D : Dl} {a : Nat} : (cX0 D a).length = D.length := rfl
theorem len_2 {D : Dl} {a : Nat} : (cX2 D a).length = D.length + 4 := by unfold cX2; simp only [fa_len]
theorem len_3 {D : Dl} {a : Nat} : (cX3 D a).length = D.length + 12 := by unfold cX3; simp only [fa_len]
theorem len_4 {D : Dl} {a : Nat} : (cX4 D a).length = D.length + 4 := by unfold cX4; simp only [fa_len]
theorem len_5 {D : Dl} {a : Nat} : (cX5 D a).length = D.length + 1 := by unfold cX5; simp only [fa_len]
theorem slf4 {D : Dl} {a c n : Nat} : slf D a c n ↔ sl4 D a (c, 0) n := Iff.rfl
/-! an array of arrays -/
def dM (D : Dl) : Dl := D ++ ((12, 6, [D.length + 2, D.length + 3, D.length + 4, D.length + 5, D.length + 6, D.length + 7]) :: List.replicate 6 (9, 5, []))
theorem dM_len {D : Dl} : (dM D).length = D.length + 7 := by simp [dM]
theorem dM_o {D : Dl} {a : Nat} (h : a < D.length) : (dM D).getD a (0, 0, []) = D.getD a (0, 0, []) := by
  unfold dM
  rw [List.getD_eq_getElem?_getD, List.getD_eq_getElem?_getD, List.getElem?_append_left h]
theorem dM_s {D : Dl} {t : Nat} : (dM D).getD (D.length + t) (0, 0, []) = ((12, 6, [D.length + 2, D.length + 3, D.length + 4, D.length + 5, D.length + 6, D.length + 7]) :: List.replicate 6 (9, 5, [])).getD t (0, 0, []) := by
  unfold dM
  rw [List.getD_eq_getElem?_getD, List.getD_eq_getElem?_getD, List.getElem?_append_right (by omega), Nat.add_sub_cancel_left]
theorem kps_dM {D : Dl} : kps D (dM D) := by
  intro a c n h
  obtain ⟨h0, h1, h2, h3⟩ := h
  refine ⟨h0, by rw [dM_len]; omega, ?_, ?_⟩
  · cases a with
    | zero => exact h2
    | succ a => rw [← h2]; show (_, _) = (_, _); rw [dM_o h1]
  · unfold rln at h3 ⊢
    rw [dM_o (by omega)]
    exact h3
theorem wM_D {D : Dl} {s : Nat} : wM (mkD D s I00) = mkD (dM D) (s + 36) I00 := by
  have hi : ∀ b : Nat, (if b = D.length + 1 then (12, 6) else if D.length < b ∧ b ≤ D.length + 7 then (9, 5) else kd D b) = kd (dM D) b := by
    intro b
    cases b with
    | zero => rw [if_neg (by omega), if_neg (by omega)]; rfl
    | succ b =>
      by_cases h : b < D.length
      · rw [if_neg (by omega), if_neg (by omega)]
        show (_, _) = (_, _)
        rw [dM_o h]
      · obtain ⟨t, rfl⟩ : ∃ t, b = D.length + t := ⟨b - D.length, by omega⟩
        show _ = (((dM D).getD (D.length + t) (0, 0, [])).1, ((dM D).getD (D.length + t) (0, 0, [])).2.1)
        rw [dM_s]
        by_cases ht : t < 7
        · rcases (show t = 0 ∨ t = 1 ∨ t = 2 ∨ t = 3 ∨ t = 4 ∨ t = 5 ∨ t = 6 by omega) with rfl | rfl | rfl | rfl | rfl | rfl | rfl
          · rw [if_pos rfl]; rfl
          all_goals rw [if_neg (by omega), if_pos (by omega)]; rfl
        · rw [if_neg (by omega), if_neg (by omega)]
          show ((D.getD (D.length + t) (0, 0, [])).1, (D.getD (D.length + t) (0, 0, [])).2.1) = _
          rw [gd_none (by omega), gd_none (by simp; omega)]
  have hr : ∀ b j : Nat, (if b = D.length + 1 then (if j < 6 then D.length + 2 + j else 0) else if D.length < b ∧ b ≤ D.length + 7 then 0 else rd D b j) = rd (dM D) b j := by
    intro b j
    cases b with
    | zero => rw [if_neg (by omega), if_neg (by omega)]; rfl
    | succ b =>
      by_cases h : b < D.length
      · rw [if_neg (by omega), if_neg (by omega)]
        show (D.getD b (0, 0, [])).2.2.getD j 0 = ((dM D).getD b (0, 0, [])).2.2.getD j 0
        rw [dM_o h]
      · obtain ⟨t, rfl⟩ : ∃ t, b = D.length + t := ⟨b - D.length, by omega⟩
        show _ = ((dM D).getD (D.length + t) (0, 0, [])).2.2.getD j 0
        rw [dM_s]
        by_cases ht : t < 7
        · rcases (show t = 0 ∨ t = 1 ∨ t = 2 ∨ t = 3 ∨ t = 4 ∨ t = 5 ∨ t = 6 by omega) with rfl | rfl | rfl | rfl | rfl | rfl | rfl
          · rw [if_pos rfl]
            by_cases hj : j < 6
            · rw [if_pos hj]
              rcases (show j = 0 ∨ j = 1 ∨ j = 2 ∨ j = 3 ∨ j = 4 ∨ j = 5 by omega) with rfl | rfl | rfl | rfl | rfl | rfl <;> rfl
            · rw [if_neg hj]
              obtain ⟨m, rfl⟩ : ∃ m, j = m + 6 := ⟨j - 6, by omega⟩
              rfl
          all_goals rw [if_neg (by omega), if_pos (by omega)]; rfl
        · rw [if_neg (by omega), if_neg (by omega)]
          show (D.getD (D.length + t) (0, 0, [])).2.2.getD j 0 = _
          rw [gd_none (by omega), gd_none (by simp; omega)]
  show ((D.length + 7, D.length + 7, s + 36, fun a => if a = D.length + 1 then (12, 6) else if D.length < a ∧ a ≤ D.length + 7 then (9, 5) else kd D a), (fun a j => if D.length < a ∧ a ≤ D.length + 7 then (0 : Int32) else 0), (fun a j => if D.length < a ∧ a ≤ D.length + 7 then (0 : Int64) else 0), (fun a j => if a = D.length + 1 then (if j < 6 then D.length + 2 + j else 0) else if D.length < a ∧ a ≤ D.length + 7 then 0 else rd D a j)) = (((dM D).length, (dM D).length, s + 36, kd (dM D)), I00, (fun _ _ => (0 : Int64)), rd (dM D))
  rw [dM_len, show (fun a => if a = D.length + 1 then (12, 6) else if D.length < a ∧ a ≤ D.length + 7 then (9, 5) else kd D a) = kd (dM D) from funext hi, show (fun a j => if a = D.length + 1 then (if j < 6 then D.length + 2 + j else 0) else if D.length < a ∧ a ≤ D.length + 7 then 0 else rd D a j) = rd (dM D) from funext fun b => funext fun j => hr b j]
  simp only [ite_self]
  rfl
section CH2
variable {l : Launch} {X : Nat × (Nat → Int32)} {q : Md} {d : Nat} {b : Nat × Nat} {pc : Nat} {kr : KR} {ls : Ls}
/-- field := int[6][5] -/
theorem ch_mul {D : Dl} {s a c N f p1 p2 p3 p4 p5 w1 w2 : Nat} (h1 : OK l X q d false b pc (oAl pc 1 0)) (h2 : OK l X q d false b p1 (oIc p1 w1 6)) (h3 : OK l X q d false b p2 (oIc p2 w2 5)) (h4 : OK l X q d false b p3 (oN2 b p3)) (h5 : OK l X q d false b p4 (oPR p4 c f)) (e1 : pc + 1 = p1) (e2 : p1 + w1 = p2) (e3 : p2 + w2 = p3) (e4 : p3 + 4 = p4) (e5 : p4 + 3 = p5)
    (hs : slf D a c N) (hf : f < N) (h0 : lg ls 0 = some (.ref a)) (hls : ls.all (fun x => rk D.length x.2) = true) (hn : D.length + 7 ≤ 4000) (hb : D.length + 7 ≤ b.1 ∧ s + 36 ≤ b.2) (kk0 : Wf l X q d false b p5 ls [] (mkD (dR (dM D) a f (D.length + 1)) (s + 36) I00) kr) : Wf l X q d false b pc ls [] (mkD D s I00) kr := by
  subst e1 e2 e3 e4 e5
  refine go_a0 h1 h0 hs.1 ?_
  refine h2.go ?_
  show Wf l X q d false b (pc + 1 + w1) ls (.int 6 :: [.ref a]) (mkD D s I00) kr
  refine h3.go ?_
  show Wf l X q d false b (pc + 1 + w1 + w2) ls (.int 5 :: .int 6 :: [.ref a]) (mkD D s I00) kr
  refine h4.go ?_
  show cond (ro b (mkD D s I00) ls [.ref a] 7 36) (((5 : Int32) = 5 ∧ (6 : Int32) = 6) ∧ Wf l X q d false b (pc + 1 + w1 + w2 + 4) ls (.ref (D.length + 1) :: [.ref a]) (wM (mkD D s I00)) kr) False
  rw [ro_D hn hls (by rw [List.all_cons, rk_le hs.2.1]; rfl) hb.1 hb.2]
  refine ⟨⟨rfl, rfl⟩, ?_⟩
  rw [wM_D]
  refine h5.go ?_
  have hs' : slf (dM D) a c N := kps_dM a (c, 0) N hs
  show cond (kk (mkD (dM D) (s + 36) I00) a c && (Nat.blt 0 (D.length + 1) && Nat.ble (D.length + 1) (dM D).length)) (Wf l X q d false b (pc + 1 + w1 + w2 + 4 + 3) ls [] (wR (mkD (dM D) (s + 36) I00) a f (D.length + 1)) kr) False
  rw [kk_D ⟨hs'.1, hs'.2.1, hs'.2.2.1⟩, blt0 (Nat.succ_pos _), dM_len, Nat.ble_eq_true_of_le (by omega), wR_D hs'.1 hs'.2.1 (by rw [hs'.2.2.2]; exact hf)]
  exact kk0
/-- field := new C() -/
theorem ch_new {D D2 : Dl} {s s2 a c N c' N' mc ms f p1 p2 p3 p4 p5 : Nat} {q' : Md} (h1 : OK l X q (d + 1) false b pc (oAl pc 1 0)) (h2 : OK l X q (d + 1) false b p1 (oNew b p1 c' N')) (h3 : OK l X q (d + 1) false b p2 (oDup p2)) (h4 : OK l X q (d + 1) false b p3 (oCi l X d b p3 q' c' mc ms)) (h5 : OK l X q (d + 1) false b p4 (oPR p4 c f)) (e1 : pc + 1 = p1) (e2 : p1 + 3 = p2) (e3 : p2 + 1 = p3) (e4 : p3 + 3 = p4) (e5 : p4 + 3 = p5)
    (hs : slf D a c N) (hf : f < N) (h0 : lg ls 0 = some (.ref a)) (hls : ls.all (fun x => rk D.length x.2) = true) (hcall : ∀ kr' : KR, kr' none (mkD D2 s2 I00) → Ev l X q' d false mc ms [.ref (D.length + 1)] (mkD (dA D c' 0 N') (s + N') I00) kr') (hkp : kps (dA D c' 0 N') D2) (hl2 : D2.length = D.length + 1 + mc) (hs2 : s2 = s + N' + ms) (hn : D.length + 1 ≤ 4000) (hb : D.length + 1 + mc ≤ b.1 ∧ s + N' + ms ≤ b.2) (k : Wf l X q (d + 1) false b p5 ls [] (mkD (dR D2 a f (D.length + 1)) s2 I00) kr) : Wf l X q (d + 1) false b pc ls [] (mkD D s I00) kr := by
  subst e1 e2 e3 e4 e5
  refine go_a0 h1 h0 hs.1 ?_
  refine h2.go ?_
  show cond (ro b (mkD D s I00) ls [.ref a] 1 N') (Wf l X q (d + 1) false b (pc + 1 + 3) ls (.ref (D.length + 1) :: [.ref a]) (wA (mkD D s I00) (c', 0) N') kr) False
  rw [ro_D hn hls (by rw [List.all_cons, rk_le hs.2.1]; rfl) (by omega) (by omega)]
  show Wf l X q (d + 1) false b (pc + 1 + 3) ls (.ref (D.length + 1) :: [.ref a]) (wA (mkD D s I00) (c', 0) N') kr
  rw [wA_D (z := N') (fun _ => rfl)]
  refine h3.go ?_
  show Wf l X q (d + 1) false b (pc + 1 + 3 + 1) ls (.ref (D.length + 1) :: .ref (D.length + 1) :: [.ref a]) (mkD (dA D c' 0 N') (s + N') I00) kr
  refine h4.go ?_
  have hnew := slf_new (D := D) (c := c') (n := N')
  have hsA := slf_dA (k := c') (m := 0) (z := N') hs
  show cond (ri b (mkD (dA D c' 0 N') (s + N') I00) ls [.ref (D.length + 1), .ref a] (D.length + 1) c' mc ms) (Ev l X q' d false mc ms [.ref (D.length + 1)] (mkD (dA D c' 0 N') (s + N') I00) (fun r M' => (mC M' = (dA D c' 0 N').length + mc ∧ mS M' = s + N' + ms) ∧ Wf l X q (d + 1) false b (pc + 1 + 3 + 1 + 3) ls (r.toList ++ [.ref (D.length + 1), .ref a]) M' kr)) False
  have hri : ri b (mkD (dA D c' 0 N') (s + N') I00) ls [.ref (D.length + 1), .ref a] (D.length + 1) c' mc ms = true := by
    unfold ri
    rw [Bool.and_eq_true_iff, Bool.and_eq_true_iff, Bool.and_eq_true_iff, Bool.and_eq_true_iff, Bool.and_eq_true_iff]
    refine ⟨⟨kk_D ⟨hnew.1, hnew.2.1, hnew.2.2.1⟩, rfl⟩, ?_, ?_, ?_, ?_⟩
    · refine List.all_eq_true.mpr fun x hx => ?_
      have z := List.all_eq_true.mp hls x hx
      revert z
      show rk D.length x.2 = true → rk (dA D c' 0 N').length x.2 = true
      rw [dA_len]
      cases x.2 with
      | ref n =>
        intro z
        have z : (Nat.ble n D.length || Nat.ble 4999 n) = true := z
        show (Nat.ble n (D.length + 1) || Nat.ble 4999 n) = true
        rcases Bool.or_eq_true_iff.mp z with y | y
        · exact Bool.or_eq_true_iff.mpr (Or.inl (Nat.ble_eq_true_of_le (Nat.le_succ_of_le (Nat.le_of_ble_eq_true y))))
        · exact Bool.or_eq_true_iff.mpr (Or.inr y)
      | _ => exact fun _ => rfl
    · show ([.ref (D.length + 1), .ref a] : List Value).all (rk (dA D c' 0 N').length) = true
      rw [dA_len, List.all_cons, List.all_cons, rk_le (Nat.le_refl _), rk_le (by have := hs.2.1; omega)]
      rfl
    · exact Nat.ble_eq_true_of_le (by show (dA D c' 0 N').length + mc ≤ b.1; rw [dA_len]; omega)
    · exact Nat.ble_eq_true_of_le (by show s + N' + ms ≤ b.2; omega)
  rw [hri]
  refine hcall _ ⟨⟨by show D2.length = _; rw [dA_len]; exact hl2, hs2⟩, ?_⟩
  show Wf l X q (d + 1) false b (pc + 1 + 3 + 1 + 3) ls [.ref (D.length + 1), .ref a] (mkD D2 s2 I00) kr
  refine h5.go ?_
  have hs' : slf D2 a c N := hkp a (c, 0) N hsA
  show cond (kk (mkD D2 s2 I00) a c && (Nat.blt 0 (D.length + 1) && Nat.ble (D.length + 1) D2.length)) (Wf l X q (d + 1) false b (pc + 1 + 3 + 1 + 3 + 3) ls [] (wR (mkD D2 s2 I00) a f (D.length + 1)) kr) False
  rw [kk_D ⟨hs'.1, hs'.2.1, hs'.2.2.1⟩, blt0 (Nat.succ_pos _), Nat.ble_eq_true_of_le (by omega), wR_D hs'.1 hs'.2.1 (by rw [hs'.2.2.2]; exact hf)]
  exact k
end CH2
end
section
def cX1 (D : Dl) (a : Nat) : Dl := fa (fa (fa (dR (dM D) a 0 (D.length + 1)) a 9 6 1) a 9 5 2) a 9 5 3
theorem kps_dR {D D2 : Dl} {a i v : Nat} (h : kps D D2) : kps D (dR D2 a i v) := fun a c n z => sl4_dR (h a c n z)
theorem kps_tr {D D2 D3 : Dl} (h : kps D D2) (h2 : kps D2 D3) : kps D D3 := fun a c n z => h2 a c n (h a c n z)
theorem kps_1 {D : Dl} {a : Nat} : kps D (cX1 D a) := kps_fa (kps_fa (kps_fa (kps_dR kps_dM)))
theorem len_1 {D : Dl} {a : Nat} : (cX1 D a).length = D.length + 10 := by unfold cX1; simp only [fa_len, dR_len, dM_len]
/-- a Moment more in the array K, at its place i -/
def fm (D : Dl) (K i : Nat) : Dl := dR (cX2 (dA D 2 0 6) (D.length + 1)) K i (D.length + 1)
theorem fm_len {D : Dl} {K i : Nat} : (fm D K i).length = D.length + 5 := by unfold fm; rw [dR_len, len_2, dA_len]
theorem kps_fm {D : Dl} {K i : Nat} : kps D (fm D K i) := kps_dR (kps_tr kps_dA kps_2)
theorem rd_fm {D : Dl} {K i a j : Nat} (h : a ≠ K) (hK : 0 < K) (ha : a ≤ D.length) : rd (fm D K i) a j = rd D a j := by
  unfold fm cX2
  have e : a ≠ D.length + 1 := by omega
  rw [rd_dR h hK, rd_fa e (by omega) (by simp only [fa_len, dA_len]; omega), rd_fa e (by omega) (by simp only [fa_len, dA_len]; omega), rd_fa e (by omega) (by simp only [fa_len, dA_len]; omega), rd_fa e (by omega) (by rw [dA_len]; omega), rd_dA ha]
def lpD : Nat → Nat → Dl → Nat → Dl
  | 0, _, D, _ => D
  | n + 1, i, D, K => lpD n (i + 1) (fm D K i) K
section LOOPM
variable {l : Launch} {X : Nat × (Nat → Int32)} {q : Md} {d : Nat} {b : Nat × Nat} {kr : KR}
set_option maxRecDepth 20000 in
theorem lp_mom {a K N E f p0 p1 p2 p3 p4 p5 p6 p7 p8 p9 p10 p11 pe w : Nat} (o0 : OK l X q (d + 2) false b p0 (oIl p0 1 1)) (o1 : OK l X q (d + 2) false b p1 (oIc p1 w (nI E))) (o2 : OK l X q (d + 2) false b p2 (oCm p2 pe (fun x y => y ≤ x) (fun x y => ¬ y ≤ x))) (o3 : OK l X q (d + 2) false b p3 (oAl p3 1 0)) (o4 : OK l X q (d + 2) false b p4 (oG p4 6 f 2)) (o5 : OK l X q (d + 2) false b p5 (oIl p5 1 1)) (o6 : OK l X q (d + 2) false b p6 (oNew b p6 2 6)) (o7 : OK l X q (d + 2) false b p7 (oDup p7)) (o8 : OK l X q (d + 2) false b p8 (oCi l X (d + 1) b p8 uX2_init 2 4 23)) (o9 : OK l X q (d + 2) false b p9 (oAas p9)) (o10 : OK l X q (d + 2) false b p10 (oInc p10 1 1)) (o11 : OK l X q (d + 2) false b p11 (oGo p0))
    (e1 : p0 + 1 = p1) (e2 : p1 + w = p2) (e3 : p2 + 3 = p3) (e4 : p3 + 1 = p4) (e5 : p4 + 3 = p5) (e6 : p5 + 1 = p6) (e7 : p6 + 3 = p7) (e8 : p7 + 1 = p8) (e9 : p8 + 3 = p9) (e10 : p9 + 1 = p10) (e11 : p10 + 3 = p11) (hE : E < 1000) (haK : a ≠ K) :
    ∀ (n i : Nat) (D : Dl) (s : Nat), i + n = E → slf D a 6 N → sl4 D K (11, E) E → rd D a f = K → D.length + 5 * n ≤ 4000 → D.length + 5 * n ≤ b.1 → s + 29 * n ≤ b.2 → Wf l X q (d + 2) false b pe [(0, .ref a), (1, .int (nI E))] [] (mkD (lpD n i D K) (s + 29 * n) I00) kr → Wf l X q (d + 2) false b p0 [(0, .ref a), (1, .int (nI i))] [] (mkD D s I00) kr := by
  subst e1 e2 e3 e4 e5 e6 e7 e8 e9 e10 e11
  intro n
  induction n with
  | zero =>
    intro i D s hi hs hK hr hn hb1 hb2 k
    have hi : i = E := by omega
    subst hi
    refine o0.go ?_
    refine o1.go ?_
    refine o2.go ?_
    exact ⟨fun _ => k, fun z => absurd (nI_le (Nat.le_refl _) (by omega)) z⟩
  | succ n ih =>
    intro i D s hi hs hK hr hn hb1 hb2 k
    have ha := hs.2.1
    have hKl := hK.2.1
    refine o0.go ?_
    refine o1.go ?_
    refine o2.go ?_
    refine ⟨fun z => absurd z (nI_ge (by omega) (by omega)), fun _ => ?_⟩
    refine go_a0 o3 rfl hs.1 ?_
    refine o4.go ?_
    show cond (kk (mkD D s I00) a 6) (Wf l X q (d + 2) false b (p0 + 1 + w + 3 + 1 + 3) [(0, .ref a), (1, .int (nI i))] [.ref (rd D a f)] (mkD D s I00) kr) False
    rw [kk_D ⟨hs.1, hs.2.1, hs.2.2.1⟩, hr]
    refine o5.go ?_
    refine o6.go ?_
    show cond (ro b (mkD D s I00) [(0, .ref a), (1, .int (nI i))] [.int (nI i), .ref K] 1 6) (Wf l X q (d + 2) false b (p0 + 1 + w + 3 + 1 + 3 + 1 + 3) [(0, .ref a), (1, .int (nI i))] (.ref (D.length + 1) :: [.int (nI i), .ref K]) (wA (mkD D s I00) (2, 0) 6) kr) False
    rw [ro_D (by omega) (by rw [List.all_cons, rk_le ha]; rfl) (by rw [List.all_cons, List.all_cons, rk_le hKl]; rfl) (by omega) (by omega)]
    show Wf l X q (d + 2) false b (p0 + 1 + w + 3 + 1 + 3 + 1 + 3) [(0, .ref a), (1, .int (nI i))] (.ref (D.length + 1) :: [.int (nI i), .ref K]) (wA (mkD D s I00) (2, 0) 6) kr
    rw [wA_D (z := 6) (fun _ => rfl)]
    refine o7.go ?_
    show Wf l X q (d + 2) false b (p0 + 1 + w + 3 + 1 + 3 + 1 + 3 + 1) [(0, .ref a), (1, .int (nI i))] (.ref (D.length + 1) :: .ref (D.length + 1) :: [.int (nI i), .ref K]) (mkD (dA D 2 0 6) (s + 6) I00) kr
    refine o8.go ?_
    have hnew := slf_new (D := D) (c := 2) (n := 6)
    show cond (ri b (mkD (dA D 2 0 6) (s + 6) I00) [(0, .ref a), (1, .int (nI i))] [.ref (D.length + 1), .int (nI i), .ref K] (D.length + 1) 2 4 23) (Ev l X uX2_init (d + 1) false 4 23 [.ref (D.length + 1)] (mkD (dA D 2 0 6) (s + 6) I00) (fun r M' => (mC M' = (dA D 2 0 6).length + 4 ∧ mS M' = s + 6 + 23) ∧ Wf l X q (d + 2) false b (p0 + 1 + w + 3 + 1 + 3 + 1 + 3 + 1 + 3) [(0, .ref a), (1, .int (nI i))] (r.toList ++ [.ref (D.length + 1), .int (nI i), .ref K]) M' kr)) False
    have hri : ri b (mkD (dA D 2 0 6) (s + 6) I00) [(0, .ref a), (1, .int (nI i))] [.ref (D.length + 1), .int (nI i), .ref K] (D.length + 1) 2 4 23 = true := by
      unfold ri
      rw [Bool.and_eq_true_iff, Bool.and_eq_true_iff, Bool.and_eq_true_iff, Bool.and_eq_true_iff, Bool.and_eq_true_iff]
      refine ⟨⟨kk_D ⟨hnew.1, hnew.2.1, hnew.2.2.1⟩, rfl⟩, ?_, ?_, ?_, ?_⟩
      · show ([(0, .ref a), (1, .int (nI i))] : Ls).all (fun x => rk (dA D 2 0 6).length x.2) = true
        rw [dA_len, List.all_cons, rk_le (by omega)]; rfl
      · show ([.ref (D.length + 1), .int (nI i), .ref K] : List Value).all (rk (dA D 2 0 6).length) = true
        rw [dA_len, List.all_cons, List.all_cons, List.all_cons, rk_le (Nat.le_refl _), rk_le (show K ≤ D.length + 1 by omega)]; rfl
      · exact Nat.ble_eq_true_of_le (by show (dA D 2 0 6).length + 4 ≤ b.1; rw [dA_len]; omega)
      · exact Nat.ble_eq_true_of_le (by show s + 6 + 23 ≤ b.2; omega)
    rw [hri]
    refine sX2_init hnew (by rw [dA_len]; omega) ⟨⟨by show (cX2 (dA D 2 0 6) (D.length + 1)).length = _; rw [len_2], by show s + 6 + 6 + 6 + 6 + 5 = _; omega⟩, ?_⟩
    show Wf l X q (d + 2) false b (p0 + 1 + w + 3 + 1 + 3 + 1 + 3 + 1 + 3) [(0, .ref a), (1, .int (nI i))] [.ref (D.length + 1), .int (nI i), .ref K] (mkD (cX2 (dA D 2 0 6) (D.length + 1)) (s + 6 + 6 + 6 + 6 + 5) I00) kr
    refine o9.go ?_
    have hm : sl4 (cX2 (dA D 2 0 6) (D.length + 1)) (D.length + 1) (2, 0) 6 := kps_2 _ _ _ hnew
    have hK2 : sl4 (cX2 (dA D 2 0 6) (D.length + 1)) K (11, E) E := kps_2 _ _ _ (kps_dA _ _ _ hK)
    show cond (kk (mkD (cX2 (dA D 2 0 6) (D.length + 1)) (s + 6 + 6 + 6 + 6 + 5) I00) K 11 && kk (mkD (cX2 (dA D 2 0 6) (D.length + 1)) (s + 6 + 6 + 6 + 6 + 5) I00) (D.length + 1) 2) (∃ j : Nat, (nI i = nI j ∧ j < 1000 ∧ j < (kd (cX2 (dA D 2 0 6) (D.length + 1)) K).2) ∧ Wf l X q (d + 2) false b (p0 + 1 + w + 3 + 1 + 3 + 1 + 3 + 1 + 3 + 1) [(0, .ref a), (1, .int (nI i))] [] (wR (mkD (cX2 (dA D 2 0 6) (D.length + 1)) (s + 6 + 6 + 6 + 6 + 5) I00) K j (D.length + 1)) kr) False
    rw [kk_D ⟨hK2.1, hK2.2.1, hK2.2.2.1⟩, kk_D ⟨hm.1, hm.2.1, hm.2.2.1⟩]
    refine ⟨i, ⟨rfl, by omega, by rw [hK2.2.2.1]; show i < E; omega⟩, ?_⟩
    rw [wR_D hK2.1 hK2.2.1 (by rw [hK2.2.2.2]; omega)]
    refine o10.go ?_
    show Wf l X q (d + 2) false b (p0 + 1 + w + 3 + 1 + 3 + 1 + 3 + 1 + 3 + 1 + 3) [(0, .ref a), (1, .int (nI i + 1))] [] (mkD (fm D K i) (s + 6 + 6 + 6 + 6 + 5) I00) kr
    rw [nI_1]
    refine o11.go ?_
    show Wf l X q (d + 2) false b p0 [(0, .ref a), (1, .int (nI (i + 1)))] [] (mkD (fm D K i) (s + 6 + 6 + 6 + 6 + 5) I00) kr
    refine ih (i + 1) (fm D K i) (s + 6 + 6 + 6 + 6 + 5) (by omega) (kps_fm a (6, 0) N hs) (kps_fm K (11, E) E hK) (by rw [rd_fm haK hK.1 ha]; exact hr) (by rw [fm_len]; omega) (by rw [fm_len]; omega) (by omega) ?_
    rw [show s + 6 + 6 + 6 + 6 + 5 + 29 * n = s + 29 * (n + 1) by omega]
    exact k
end LOOPM
section SIX
variable {l : Launch} {X : Nat × (Nat → Int32)} {d : Nat} {kr : KR}
set_option maxRecDepth 20000 in
theorem sX1_init {D : Dl} {s a : Nat} (hs : slf D a 1 9) (hn : D.length + 10 ≤ 4000) (h : kr none (mkD (cX1 D a) (s + 36 + 6 + 5 + 5) I00)) : Ev l X uX1_init (d + 1) false 10 52 [.ref a] (mkD D s I00) kr := by
  have ha := hs.2.1
  refine Ev.of (by decide) (Nat.le_of_ble_eq_true rfl) ?_
  show Wf l X uX1_init (d + 1) false (D.length + 10, s + 52) 0 [(0, .ref a)] [] (mkD D s I00) kr
  refine ch_oi (tkX1_init (0, oAl 0 1 0) (List.mem_of_getElem? (i := 0) rfl)) (tkX1_init (1, oOi 1) (List.mem_of_getElem? (i := 1) rfl)) rfl rfl hs rfl ?_
  refine ch_mul (tkX1_init (4, oAl 4 1 0) (List.mem_of_getElem? (i := 2) rfl)) (tkX1_init (5, oIc 5 2 6) (List.mem_of_getElem? (i := 3) rfl)) (tkX1_init (7, oIc 7 1 5) (List.mem_of_getElem? (i := 4) rfl)) (tkX1_init (8, oN2 (D.length + 10, s + 52) 8) (List.mem_of_getElem? (i := 5) rfl)) (tkX1_init (12, oPR 12 1 0) (List.mem_of_getElem? (i := 6) rfl)) rfl rfl rfl rfl rfl hs (by decide) rfl (als ha) (by omega) ⟨by show D.length + 7 ≤ D.length + 10; omega, by show s + 36 ≤ s + 52; omega⟩ ?_
  have hs1 : slf (dR (dM D) a 0 (D.length + 1)) a 1 9 := kps_dR kps_dM a (1, 0) 9 hs
  have e1 : (dR (dM D) a 0 (D.length + 1)).length = D.length + 7 := by rw [dR_len, dM_len]
  refine ch_arr (tkX1_init (15, oAl 15 1 0) (List.mem_of_getElem? (i := 7) rfl)) (tkX1_init (16, oIc 16 2 6) (List.mem_of_getElem? (i := 8) rfl)) (tkX1_init (18, oNa (D.length + 10, s + 52) 18 9 6 6) (List.mem_of_getElem? (i := 9) rfl)) (tkX1_init (20, oPR 20 1 1) (List.mem_of_getElem? (i := 10) rfl)) rfl rfl rfl rfl (fun _ => rfl) (hs1) (by decide) rfl (als (by simp only [fa_len, e1]; omega)) (by simp only [fa_len, e1]; omega) (by simp only [fa_len, e1]; omega) ?_
  refine ch_arr (tkX1_init (23, oAl 23 1 0) (List.mem_of_getElem? (i := 11) rfl)) (tkX1_init (24, oIc 24 1 5) (List.mem_of_getElem? (i := 12) rfl)) (tkX1_init (25, oNa (D.length + 10, s + 52) 25 9 5 5) (List.mem_of_getElem? (i := 13) rfl)) (tkX1_init (27, oPR 27 1 2) (List.mem_of_getElem? (i := 14) rfl)) rfl rfl rfl rfl (fun _ => rfl) (slf_fa (hs1)) (by decide) rfl (als (by simp only [fa_len, e1]; omega)) (by simp only [fa_len, e1]; omega) (by simp only [fa_len, e1]; omega) ?_
  refine ch_arr (tkX1_init (30, oAl 30 1 0) (List.mem_of_getElem? (i := 15) rfl)) (tkX1_init (31, oIc 31 1 5) (List.mem_of_getElem? (i := 16) rfl)) (tkX1_init (32, oNa (D.length + 10, s + 52) 32 9 5 5) (List.mem_of_getElem? (i := 17) rfl)) (tkX1_init (34, oPR 34 1 3) (List.mem_of_getElem? (i := 18) rfl)) rfl rfl rfl rfl (fun _ => rfl) (slf_fa (slf_fa (hs1))) (by decide) rfl (als (by simp only [fa_len, e1]; omega)) (by simp only [fa_len, e1]; omega) (by simp only [fa_len, e1]; omega) ?_
  refine OK.go (tkX1_init (37, oVr) (List.mem_of_getElem? (i := 19) rfl)) ?_
  exact h
end SIX
end
section
def E0 : Dl := [(6, 0, [0, 0, 0, 0, 0, 0, 0, 0, 0, 0, 0, 0, 0, 0])]
theorem E0_eq : dA [] 6 0 14 = E0 := by decide +kernel
def E1 : Dl := [(6, 0, [2, 0, 0, 0, 0, 0, 0, 0, 0, 0, 0, 0, 0, 0]), (4, 0, [3, 0, 0, 0, 0, 0, 0, 0, 0, 4, 5, 6, 0, 0, 0]), (8, 900, []), (10, 15, []), (9, 15, []), (9, 15, [])]
theorem E1_eq : dR (cX4 (dA E0 4 0 15) (E0.length + 1)) 1 0 (E0.length + 1) = E1 := by decide +kernel
def E2 : Dl := [(6, 0, [2, 7, 0, 0, 0, 0, 0, 0, 0, 0, 0, 0, 0, 0]), (4, 0, [3, 0, 0, 0, 0, 0, 0, 0, 0, 4, 5, 6, 0, 0, 0]), (8, 900, []), (10, 15, []), (9, 15, []), (9, 15, []), (3, 0, [0, 0, 0, 0, 0, 8, 9, 10, 11, 12, 0, 13, 14, 15, 0, 16, 17, 0, 18, 19]), (9, 6, []), (9, 6, []), (9, 6, []), (9, 6, []), (9, 6, []), (9, 5, []), (9, 5, []), (9, 5, []), (9, 4, []), (9, 4, []), (9, 4, []), (9, 4, [])]
theorem E2_eq : dR (cX3 (dA E1 3 0 20) (E1.length + 1)) 1 1 (E1.length + 1) = E2 := by decide +kernel
def E3 : Dl := [(6, 0, [2, 7, 20, 0, 0, 0, 0, 0, 0, 0, 0, 0, 0, 0]), (4, 0, [3, 0, 0, 0, 0, 0, 0, 0, 0, 4, 5, 6, 0, 0, 0]), (8, 900, []), (10, 15, []), (9, 15, []), (9, 15, []), (3, 0, [0, 0, 0, 0, 0, 8, 9, 10, 11, 12, 0, 13, 14, 15, 0, 16, 17, 0, 18, 19]), (9, 6, []), (9, 6, []), (9, 6, []), (9, 6, []), (9, 6, []), (9, 5, []), (9, 5, []), (9, 5, []), (9, 4, []), (9, 4, []), (9, 4, []), (9, 4, []), (3, 0, [0, 0, 0, 0, 0, 21, 22, 23, 24, 25, 0, 26, 27, 28, 0, 29, 30, 0, 31, 32]), (9, 6, []), (9, 6, []), (9, 6, []), (9, 6, []), (9, 6, []), (9, 5, []), (9, 5, []), (9, 5, []), (9, 4, []), (9, 4, []), (9, 4, []), (9, 4, [])]
theorem E3_eq : dR (cX3 (dA E2 3 0 20) (E2.length + 1)) 1 2 (E2.length + 1) = E3 := by decide +kernel
def E4 : Dl := [(6, 0, [2, 7, 20, 33, 0, 0, 0, 0, 0, 0, 0, 0, 0, 0]), (4, 0, [3, 0, 0, 0, 0, 0, 0, 0, 0, 4, 5, 6, 0, 0, 0]), (8, 900, []), (10, 15, []), (9, 15, []), (9, 15, []), (3, 0, [0, 0, 0, 0, 0, 8, 9, 10, 11, 12, 0, 13, 14, 15, 0, 16, 17, 0, 18, 19]), (9, 6, []), (9, 6, []), (9, 6, []), (9, 6, []), (9, 6, []), (9, 5, []), (9, 5, []), (9, 5, []), (9, 4, []), (9, 4, []), (9, 4, []), (9, 4, []), (3, 0, [0, 0, 0, 0, 0, 21, 22, 23, 24, 25, 0, 26, 27, 28, 0, 29, 30, 0, 31, 32]), (9, 6, []), (9, 6, []), (9, 6, []), (9, 6, []), (9, 6, []), (9, 5, []), (9, 5, []), (9, 5, []), (9, 4, []), (9, 4, []), (9, 4, []), (9, 4, []), (2, 0, [34, 35, 36, 37, 0, 0]), (9, 6, []), (9, 6, []), (9, 6, []), (9, 5, [])]
theorem E4_eq : dR (cX2 (dA E3 2 0 6) (E3.length + 1)) 1 3 (E3.length + 1) = E4 := by decide +kernel
def E5 : Dl := [(6, 0, [2, 7, 20, 33, 38, 0, 0, 0, 0, 0, 0, 0, 0, 0]), (4, 0, [3, 0, 0, 0, 0, 0, 0, 0, 0, 4, 5, 6, 0, 0, 0]), (8, 900, []), (10, 15, []), (9, 15, []), (9, 15, []), (3, 0, [0, 0, 0, 0, 0, 8, 9, 10, 11, 12, 0, 13, 14, 15, 0, 16, 17, 0, 18, 19]), (9, 6, []), (9, 6, []), (9, 6, []), (9, 6, []), (9, 6, []), (9, 5, []), (9, 5, []), (9, 5, []), (9, 4, []), (9, 4, []), (9, 4, []), (9, 4, []), (3, 0, [0, 0, 0, 0, 0, 21, 22, 23, 24, 25, 0, 26, 27, 28, 0, 29, 30, 0, 31, 32]), (9, 6, []), (9, 6, []), (9, 6, []), (9, 6, []), (9, 6, []), (9, 5, []), (9, 5, []), (9, 5, []), (9, 4, []), (9, 4, []), (9, 4, []), (9, 4, []), (2, 0, [34, 35, 36, 37, 0, 0]), (9, 6, []), (9, 6, []), (9, 6, []), (9, 5, []), (11, 16, [0, 0, 0, 0, 0, 0, 0, 0, 0, 0, 0, 0, 0, 0, 0, 0])]
theorem E5_eq : dR (dA E4 11 16 16) 1 4 (E4.length + 1) = E5 := by decide +kernel
def E6 : Dl := [(6, 0, [2, 7, 20, 33, 38, 0, 0, 39, 0, 0, 0, 0, 0, 0]), (4, 0, [3, 0, 0, 0, 0, 0, 0, 0, 0, 4, 5, 6, 0, 0, 0]), (8, 900, []), (10, 15, []), (9, 15, []), (9, 15, []), (3, 0, [0, 0, 0, 0, 0, 8, 9, 10, 11, 12, 0, 13, 14, 15, 0, 16, 17, 0, 18, 19]), (9, 6, []), (9, 6, []), (9, 6, []), (9, 6, []), (9, 6, []), (9, 5, []), (9, 5, []), (9, 5, []), (9, 4, []), (9, 4, []), (9, 4, []), (9, 4, []), (3, 0, [0, 0, 0, 0, 0, 21, 22, 23, 24, 25, 0, 26, 27, 28, 0, 29, 30, 0, 31, 32]), (9, 6, []), (9, 6, []), (9, 6, []), (9, 6, []), (9, 6, []), (9, 5, []), (9, 5, []), (9, 5, []), (9, 4, []), (9, 4, []), (9, 4, []), (9, 4, []), (2, 0, [34, 35, 36, 37, 0, 0]), (9, 6, []), (9, 6, []), (9, 6, []), (9, 5, []), (11, 16, [0, 0, 0, 0, 0, 0, 0, 0, 0, 0, 0, 0, 0, 0, 0, 0]), (11, 3, [0, 0, 0])]
theorem E6_eq : dR (dA E5 11 3 3) 1 7 (E5.length + 1) = E6 := by decide +kernel
def E7 : Dl := [(6, 0, [2, 7, 20, 33, 38, 0, 0, 39, 0, 40, 0, 0, 0, 0]), (4, 0, [3, 0, 0, 0, 0, 0, 0, 0, 0, 4, 5, 6, 0, 0, 0]), (8, 900, []), (10, 15, []), (9, 15, []), (9, 15, []), (3, 0, [0, 0, 0, 0, 0, 8, 9, 10, 11, 12, 0, 13, 14, 15, 0, 16, 17, 0, 18, 19]), (9, 6, []), (9, 6, []), (9, 6, []), (9, 6, []), (9, 6, []), (9, 5, []), (9, 5, []), (9, 5, []), (9, 4, []), (9, 4, []), (9, 4, []), (9, 4, []), (3, 0, [0, 0, 0, 0, 0, 21, 22, 23, 24, 25, 0, 26, 27, 28, 0, 29, 30, 0, 31, 32]), (9, 6, []), (9, 6, []), (9, 6, []), (9, 6, []), (9, 6, []), (9, 5, []), (9, 5, []), (9, 5, []), (9, 4, []), (9, 4, []), (9, 4, []), (9, 4, []), (2, 0, [34, 35, 36, 37, 0, 0]), (9, 6, []), (9, 6, []), (9, 6, []), (9, 5, []), (11, 16, [0, 0, 0, 0, 0, 0, 0, 0, 0, 0, 0, 0, 0, 0, 0, 0]), (11, 3, [0, 0, 0]), (0, 0, [0, 0, 0, 0, 0, 0, 0, 0])]
theorem E7_eq : dR (cX0 (dA E6 0 0 8) (E6.length + 1)) 1 9 (E6.length + 1) = E7 := by decide +kernel
def E8 : Dl := [(6, 0, [2, 7, 20, 33, 38, 0, 0, 39, 0, 40, 41, 0, 0, 0]), (4, 0, [3, 0, 0, 0, 0, 0, 0, 0, 0, 4, 5, 6, 0, 0, 0]), (8, 900, []), (10, 15, []), (9, 15, []), (9, 15, []), (3, 0, [0, 0, 0, 0, 0, 8, 9, 10, 11, 12, 0, 13, 14, 15, 0, 16, 17, 0, 18, 19]), (9, 6, []), (9, 6, []), (9, 6, []), (9, 6, []), (9, 6, []), (9, 5, []), (9, 5, []), (9, 5, []), (9, 4, []), (9, 4, []), (9, 4, []), (9, 4, []), (3, 0, [0, 0, 0, 0, 0, 21, 22, 23, 24, 25, 0, 26, 27, 28, 0, 29, 30, 0, 31, 32]), (9, 6, []), (9, 6, []), (9, 6, []), (9, 6, []), (9, 6, []), (9, 5, []), (9, 5, []), (9, 5, []), (9, 4, []), (9, 4, []), (9, 4, []), (9, 4, []), (2, 0, [34, 35, 36, 37, 0, 0]), (9, 6, []), (9, 6, []), (9, 6, []), (9, 5, []), (11, 16, [0, 0, 0, 0, 0, 0, 0, 0, 0, 0, 0, 0, 0, 0, 0, 0]), (11, 3, [0, 0, 0]), (0, 0, [0, 0, 0, 0, 0, 0, 0, 0]), (5, 0, [42, 0]), (9, 20, [])]
theorem E8_eq : dR (cX5 (dA E7 5 0 2) (E7.length + 1)) 1 10 (E7.length + 1) = E8 := by decide +kernel
def E9 : Dl := [(6, 0, [2, 7, 20, 33, 38, 0, 0, 39, 0, 40, 41, 43, 0, 0]), (4, 0, [3, 0, 0, 0, 0, 0, 0, 0, 0, 4, 5, 6, 0, 0, 0]), (8, 900, []), (10, 15, []), (9, 15, []), (9, 15, []), (3, 0, [0, 0, 0, 0, 0, 8, 9, 10, 11, 12, 0, 13, 14, 15, 0, 16, 17, 0, 18, 19]), (9, 6, []), (9, 6, []), (9, 6, []), (9, 6, []), (9, 6, []), (9, 5, []), (9, 5, []), (9, 5, []), (9, 4, []), (9, 4, []), (9, 4, []), (9, 4, []), (3, 0, [0, 0, 0, 0, 0, 21, 22, 23, 24, 25, 0, 26, 27, 28, 0, 29, 30, 0, 31, 32]), (9, 6, []), (9, 6, []), (9, 6, []), (9, 6, []), (9, 6, []), (9, 5, []), (9, 5, []), (9, 5, []), (9, 4, []), (9, 4, []), (9, 4, []), (9, 4, []), (2, 0, [34, 35, 36, 37, 0, 0]), (9, 6, []), (9, 6, []), (9, 6, []), (9, 5, []), (11, 16, [0, 0, 0, 0, 0, 0, 0, 0, 0, 0, 0, 0, 0, 0, 0, 0]), (11, 3, [0, 0, 0]), (0, 0, [0, 0, 0, 0, 0, 0, 0, 0]), (5, 0, [42, 0]), (9, 20, []), (1, 0, [44, 51, 52, 53, 0, 0, 0, 0, 0]), (12, 6, [45, 46, 47, 48, 49, 50]), (9, 5, []), (9, 5, []), (9, 5, []), (9, 5, []), (9, 5, []), (9, 5, []), (9, 6, []), (9, 5, []), (9, 5, [])]
theorem E9_eq : dR (cX1 (dA E8 1 0 9) (E8.length + 1)) 1 11 (E8.length + 1) = E9 := by decide +kernel
def E10 : Dl := [(6, 0, [2, 7, 20, 33, 38, 0, 0, 39, 0, 40, 41, 43, 54, 0]), (4, 0, [3, 0, 0, 0, 0, 0, 0, 0, 0, 4, 5, 6, 0, 0, 0]), (8, 900, []), (10, 15, []), (9, 15, []), (9, 15, []), (3, 0, [0, 0, 0, 0, 0, 8, 9, 10, 11, 12, 0, 13, 14, 15, 0, 16, 17, 0, 18, 19]), (9, 6, []), (9, 6, []), (9, 6, []), (9, 6, []), (9, 6, []), (9, 5, []), (9, 5, []), (9, 5, []), (9, 4, []), (9, 4, []), (9, 4, []), (9, 4, []), (3, 0, [0, 0, 0, 0, 0, 21, 22, 23, 24, 25, 0, 26, 27, 28, 0, 29, 30, 0, 31, 32]), (9, 6, []), (9, 6, []), (9, 6, []), (9, 6, []), (9, 6, []), (9, 5, []), (9, 5, []), (9, 5, []), (9, 4, []), (9, 4, []), (9, 4, []), (9, 4, []), (2, 0, [34, 35, 36, 37, 0, 0]), (9, 6, []), (9, 6, []), (9, 6, []), (9, 5, []), (11, 16, [0, 0, 0, 0, 0, 0, 0, 0, 0, 0, 0, 0, 0, 0, 0, 0]), (11, 3, [0, 0, 0]), (0, 0, [0, 0, 0, 0, 0, 0, 0, 0]), (5, 0, [42, 0]), (9, 20, []), (1, 0, [44, 51, 52, 53, 0, 0, 0, 0, 0]), (12, 6, [45, 46, 47, 48, 49, 50]), (9, 5, []), (9, 5, []), (9, 5, []), (9, 5, []), (9, 5, []), (9, 5, []), (9, 6, []), (9, 5, []), (9, 5, []), (9, 61, [])]
theorem E10_eq : fa E9 1 9 61 12 = E10 := by decide +kernel
def E11 : Dl := [(6, 0, [2, 7, 20, 33, 38, 0, 0, 39, 0, 40, 41, 43, 54, 0]), (4, 0, [3, 0, 0, 0, 0, 0, 0, 0, 0, 4, 5, 6, 0, 0, 0]), (8, 900, []), (10, 15, []), (9, 15, []), (9, 15, []), (3, 0, [0, 0, 0, 0, 0, 8, 9, 10, 11, 12, 0, 13, 14, 15, 0, 16, 17, 0, 18, 19]), (9, 6, []), (9, 6, []), (9, 6, []), (9, 6, []), (9, 6, []), (9, 5, []), (9, 5, []), (9, 5, []), (9, 4, []), (9, 4, []), (9, 4, []), (9, 4, []), (3, 0, [0, 0, 0, 0, 0, 21, 22, 23, 24, 25, 0, 26, 27, 28, 0, 29, 30, 0, 31, 32]), (9, 6, []), (9, 6, []), (9, 6, []), (9, 6, []), (9, 6, []), (9, 5, []), (9, 5, []), (9, 5, []), (9, 4, []), (9, 4, []), (9, 4, []), (9, 4, []), (2, 0, [34, 35, 36, 37, 0, 0]), (9, 6, []), (9, 6, []), (9, 6, []), (9, 5, []), (11, 16, [55, 0, 0, 0, 0, 0, 0, 0, 0, 0, 0, 0, 0, 0, 0, 0]), (11, 3, [0, 0, 0]), (0, 0, [0, 0, 0, 0, 0, 0, 0, 0]), (5, 0, [42, 0]), (9, 20, []), (1, 0, [44, 51, 52, 53, 0, 0, 0, 0, 0]), (12, 6, [45, 46, 47, 48, 49, 50]), (9, 5, []), (9, 5, []), (9, 5, []), (9, 5, []), (9, 5, []), (9, 5, []), (9, 6, []), (9, 5, []), (9, 5, []), (9, 61, []), (2, 0, [56, 57, 58, 59, 0, 0]), (9, 6, []), (9, 6, []), (9, 6, []), (9, 5, [])]
theorem E11_eq : fm E10 38 0 = E11 := by decide +kernel
def E12 : Dl := [(6, 0, [2, 7, 20, 33, 38, 0, 0, 39, 0, 40, 41, 43, 54, 0]), (4, 0, [3, 0, 0, 0, 0, 0, 0, 0, 0, 4, 5, 6, 0, 0, 0]), (8, 900, []), (10, 15, []), (9, 15, []), (9, 15, []), (3, 0, [0, 0, 0, 0, 0, 8, 9, 10, 11, 12, 0, 13, 14, 15, 0, 16, 17, 0, 18, 19]), (9, 6, []), (9, 6, []), (9, 6, []), (9, 6, []), (9, 6, []), (9, 5, []), (9, 5, []), (9, 5, []), (9, 4, []), (9, 4, []), (9, 4, []), (9, 4, []), (3, 0, [0, 0, 0, 0, 0, 21, 22, 23, 24, 25, 0, 26, 27, 28, 0, 29, 30, 0, 31, 32]), (9, 6, []), (9, 6, []), (9, 6, []), (9, 6, []), (9, 6, []), (9, 5, []), (9, 5, []), (9, 5, []), (9, 4, []), (9, 4, []), (9, 4, []), (9, 4, []), (2, 0, [34, 35, 36, 37, 0, 0]), (9, 6, []), (9, 6, []), (9, 6, []), (9, 5, []), (11, 16, [55, 60, 0, 0, 0, 0, 0, 0, 0, 0, 0, 0, 0, 0, 0, 0]), (11, 3, [0, 0, 0]), (0, 0, [0, 0, 0, 0, 0, 0, 0, 0]), (5, 0, [42, 0]), (9, 20, []), (1, 0, [44, 51, 52, 53, 0, 0, 0, 0, 0]), (12, 6, [45, 46, 47, 48, 49, 50]), (9, 5, []), (9, 5, []), (9, 5, []), (9, 5, []), (9, 5, []), (9, 5, []), (9, 6, []), (9, 5, []), (9, 5, []), (9, 61, []), (2, 0, [56, 57, 58, 59, 0, 0]), (9, 6, []), (9, 6, []), (9, 6, []), (9, 5, []), (2, 0, [61, 62, 63, 64, 0, 0]), (9, 6, []), (9, 6, []), (9, 6, []), (9, 5, [])]
theorem E12_eq : fm E11 38 1 = E12 := by decide +kernel
def E13 : Dl := [(6, 0, [2, 7, 20, 33, 38, 0, 0, 39, 0, 40, 41, 43, 54, 0]), (4, 0, [3, 0, 0, 0, 0, 0, 0, 0, 0, 4, 5, 6, 0, 0, 0]), (8, 900, []), (10, 15, []), (9, 15, []), (9, 15, []), (3, 0, [0, 0, 0, 0, 0, 8, 9, 10, 11, 12, 0, 13, 14, 15, 0, 16, 17, 0, 18, 19]), (9, 6, []), (9, 6, []), (9, 6, []), (9, 6, []), (9, 6, []), (9, 5, []), (9, 5, []), (9, 5, []), (9, 4, []), (9, 4, []), (9, 4, []), (9, 4, []), (3, 0, [0, 0, 0, 0, 0, 21, 22, 23, 24, 25, 0, 26, 27, 28, 0, 29, 30, 0, 31, 32]), (9, 6, []), (9, 6, []), (9, 6, []), (9, 6, []), (9, 6, []), (9, 5, []), (9, 5, []), (9, 5, []), (9, 4, []), (9, 4, []), (9, 4, []), (9, 4, []), (2, 0, [34, 35, 36, 37, 0, 0]), (9, 6, []), (9, 6, []), (9, 6, []), (9, 5, []), (11, 16, [55, 60, 65, 0, 0, 0, 0, 0, 0, 0, 0, 0, 0, 0, 0, 0]), (11, 3, [0, 0, 0]), (0, 0, [0, 0, 0, 0, 0, 0, 0, 0]), (5, 0, [42, 0]), (9, 20, []), (1, 0, [44, 51, 52, 53, 0, 0, 0, 0, 0]), (12, 6, [45, 46, 47, 48, 49, 50]), (9, 5, []), (9, 5, []), (9, 5, []), (9, 5, []), (9, 5, []), (9, 5, []), (9, 6, []), (9, 5, []), (9, 5, []), (9, 61, []), (2, 0, [56, 57, 58, 59, 0, 0]), (9, 6, []), (9, 6, []), (9, 6, []), (9, 5, []), (2, 0, [61, 62, 63, 64, 0, 0]), (9, 6, []), (9, 6, []), (9, 6, []), (9, 5, []), (2, 0, [66, 67, 68, 69, 0, 0]), (9, 6, []), (9, 6, []), (9, 6, []), (9, 5, [])]
theorem E13_eq : fm E12 38 2 = E13 := by decide +kernel
def E14 : Dl := [(6, 0, [2, 7, 20, 33, 38, 0, 0, 39, 0, 40, 41, 43, 54, 0]), (4, 0, [3, 0, 0, 0, 0, 0, 0, 0, 0, 4, 5, 6, 0, 0, 0]), (8, 900, []), (10, 15, []), (9, 15, []), (9, 15, []), (3, 0, [0, 0, 0, 0, 0, 8, 9, 10, 11, 12, 0, 13, 14, 15, 0, 16, 17, 0, 18, 19]), (9, 6, []), (9, 6, []), (9, 6, []), (9, 6, []), (9, 6, []), (9, 5, []), (9, 5, []), (9, 5, []), (9, 4, []), (9, 4, []), (9, 4, []), (9, 4, []), (3, 0, [0, 0, 0, 0, 0, 21, 22, 23, 24, 25, 0, 26, 27, 28, 0, 29, 30, 0, 31, 32]), (9, 6, []), (9, 6, []), (9, 6, []), (9, 6, []), (9, 6, []), (9, 5, []), (9, 5, []), (9, 5, []), (9, 4, []), (9, 4, []), (9, 4, []), (9, 4, []), (2, 0, [34, 35, 36, 37, 0, 0]), (9, 6, []), (9, 6, []), (9, 6, []), (9, 5, []), (11, 16, [55, 60, 65, 70, 0, 0, 0, 0, 0, 0, 0, 0, 0, 0, 0, 0]), (11, 3, [0, 0, 0]), (0, 0, [0, 0, 0, 0, 0, 0, 0, 0]), (5, 0, [42, 0]), (9, 20, []), (1, 0, [44, 51, 52, 53, 0, 0, 0, 0, 0]), (12, 6, [45, 46, 47, 48, 49, 50]), (9, 5, []), (9, 5, []), (9, 5, []), (9, 5, []), (9, 5, []), (9, 5, []), (9, 6, []), (9, 5, []), (9, 5, []), (9, 61, []), (2, 0, [56, 57, 58, 59, 0, 0]), (9, 6, []), (9, 6, []), (9, 6, []), (9, 5, []), (2, 0, [61, 62, 63, 64, 0, 0]), (9, 6, []), (9, 6, []), (9, 6, []), (9, 5, []), (2, 0, [66, 67, 68, 69, 0, 0]), (9, 6, []), (9, 6, []), (9, 6, []), (9, 5, []), (2, 0, [71, 72, 73, 74, 0, 0]), (9, 6, []), (9, 6, []), (9, 6, []), (9, 5, [])]
theorem E14_eq : fm E13 38 3 = E14 := by decide +kernel
def E15 : Dl := [(6, 0, [2, 7, 20, 33, 38, 0, 0, 39, 0, 40, 41, 43, 54, 0]), (4, 0, [3, 0, 0, 0, 0, 0, 0, 0, 0, 4, 5, 6, 0, 0, 0]), (8, 900, []), (10, 15, []), (9, 15, []), (9, 15, []), (3, 0, [0, 0, 0, 0, 0, 8, 9, 10, 11, 12, 0, 13, 14, 15, 0, 16, 17, 0, 18, 19]), (9, 6, []), (9, 6, []), (9, 6, []), (9, 6, []), (9, 6, []), (9, 5, []), (9, 5, []), (9, 5, []), (9, 4, []), (9, 4, []), (9, 4, []), (9, 4, []), (3, 0, [0, 0, 0, 0, 0, 21, 22, 23, 24, 25, 0, 26, 27, 28, 0, 29, 30, 0, 31, 32]), (9, 6, []), (9, 6, []), (9, 6, []), (9, 6, []), (9, 6, []), (9, 5, []), (9, 5, []), (9, 5, []), (9, 4, []), (9, 4, []), (9, 4, []), (9, 4, []), (2, 0, [34, 35, 36, 37, 0, 0]), (9, 6, []), (9, 6, []), (9, 6, []), (9, 5, []), (11, 16, [55, 60, 65, 70, 75, 0, 0, 0, 0, 0, 0, 0, 0, 0, 0, 0]), (11, 3, [0, 0, 0]), (0, 0, [0, 0, 0, 0, 0, 0, 0, 0]), (5, 0, [42, 0]), (9, 20, []), (1, 0, [44, 51, 52, 53, 0, 0, 0, 0, 0]), (12, 6, [45, 46, 47, 48, 49, 50]), (9, 5, []), (9, 5, []), (9, 5, []), (9, 5, []), (9, 5, []), (9, 5, []), (9, 6, []), (9, 5, []), (9, 5, []), (9, 61, []), (2, 0, [56, 57, 58, 59, 0, 0]), (9, 6, []), (9, 6, []), (9, 6, []), (9, 5, []), (2, 0, [61, 62, 63, 64, 0, 0]), (9, 6, []), (9, 6, []), (9, 6, []), (9, 5, []), (2, 0, [66, 67, 68, 69, 0, 0]), (9, 6, []), (9, 6, []), (9, 6, []), (9, 5, []), (2, 0, [71, 72, 73, 74, 0, 0]), (9, 6, []), (9, 6, []), (9, 6, []), (9, 5, []), (2, 0, [76, 77, 78, 79, 0, 0]), (9, 6, []), (9, 6, []), (9, 6, []), (9, 5, [])]
theorem E15_eq : fm E14 38 4 = E15 := by decide +kernel
def E16 : Dl := [(6, 0, [2, 7, 20, 33, 38, 0, 0, 39, 0, 40, 41, 43, 54, 0]), (4, 0, [3, 0, 0, 0, 0, 0, 0, 0, 0, 4, 5, 6, 0, 0, 0]), (8, 900, []), (10, 15, []), (9, 15, []), (9, 15, []), (3, 0, [0, 0, 0, 0, 0, 8, 9, 10, 11, 12, 0, 13, 14, 15, 0, 16, 17, 0, 18, 19]), (9, 6, []), (9, 6, []), (9, 6, []), (9, 6, []), (9, 6, []), (9, 5, []), (9, 5, []), (9, 5, []), (9, 4, []), (9, 4, []), (9, 4, []), (9, 4, []), (3, 0, [0, 0, 0, 0, 0, 21, 22, 23, 24, 25, 0, 26, 27, 28, 0, 29, 30, 0, 31, 32]), (9, 6, []), (9, 6, []), (9, 6, []), (9, 6, []), (9, 6, []), (9, 5, []), (9, 5, []), (9, 5, []), (9, 4, []), (9, 4, []), (9, 4, []), (9, 4, []), (2, 0, [34, 35, 36, 37, 0, 0]), (9, 6, []), (9, 6, []), (9, 6, []), (9, 5, []), (11, 16, [55, 60, 65, 70, 75, 80, 0, 0, 0, 0, 0, 0, 0, 0, 0, 0]), (11, 3, [0, 0, 0]), (0, 0, [0, 0, 0, 0, 0, 0, 0, 0]), (5, 0, [42, 0]), (9, 20, []), (1, 0, [44, 51, 52, 53, 0, 0, 0, 0, 0]), (12, 6, [45, 46, 47, 48, 49, 50]), (9, 5, []), (9, 5, []), (9, 5, []), (9, 5, []), (9, 5, []), (9, 5, []), (9, 6, []), (9, 5, []), (9, 5, []), (9, 61, []), (2, 0, [56, 57, 58, 59, 0, 0]), (9, 6, []), (9, 6, []), (9, 6, []), (9, 5, []), (2, 0, [61, 62, 63, 64, 0, 0]), (9, 6, []), (9, 6, []), (9, 6, []), (9, 5, []), (2, 0, [66, 67, 68, 69, 0, 0]), (9, 6, []), (9, 6, []), (9, 6, []), (9, 5, []), (2, 0, [71, 72, 73, 74, 0, 0]), (9, 6, []), (9, 6, []), (9, 6, []), (9, 5, []), (2, 0, [76, 77, 78, 79, 0, 0]), (9, 6, []), (9, 6, []), (9, 6, []), (9, 5, []), (2, 0, [81, 82, 83, 84, 0, 0]), (9, 6, []), (9, 6, []), (9, 6, []), (9, 5, [])]
theorem E16_eq : fm E15 38 5 = E16 := by decide +kernel
def E17 : Dl := [(6, 0, [2, 7, 20, 33, 38, 0, 0, 39, 0, 40, 41, 43, 54, 0]), (4, 0, [3, 0, 0, 0, 0, 0, 0, 0, 0, 4, 5, 6, 0, 0, 0]), (8, 900, []), (10, 15, []), (9, 15, []), (9, 15, []), (3, 0, [0, 0, 0, 0, 0, 8, 9, 10, 11, 12, 0, 13, 14, 15, 0, 16, 17, 0, 18, 19]), (9, 6, []), (9, 6, []), (9, 6, []), (9, 6, []), (9, 6, []), (9, 5, []), (9, 5, []), (9, 5, []), (9, 4, []), (9, 4, []), (9, 4, []), (9, 4, []), (3, 0, [0, 0, 0, 0, 0, 21, 22, 23, 24, 25, 0, 26, 27, 28, 0, 29, 30, 0, 31, 32]), (9, 6, []), (9, 6, []), (9, 6, []), (9, 6, []), (9, 6, []), (9, 5, []), (9, 5, []), (9, 5, []), (9, 4, []), (9, 4, []), (9, 4, []), (9, 4, []), (2, 0, [34, 35, 36, 37, 0, 0]), (9, 6, []), (9, 6, []), (9, 6, []), (9, 5, []), (11, 16, [55, 60, 65, 70, 75, 80, 85, 0, 0, 0, 0, 0, 0, 0, 0, 0]), (11, 3, [0, 0, 0]), (0, 0, [0, 0, 0, 0, 0, 0, 0, 0]), (5, 0, [42, 0]), (9, 20, []), (1, 0, [44, 51, 52, 53, 0, 0, 0, 0, 0]), (12, 6, [45, 46, 47, 48, 49, 50]), (9, 5, []), (9, 5, []), (9, 5, []), (9, 5, []), (9, 5, []), (9, 5, []), (9, 6, []), (9, 5, []), (9, 5, []), (9, 61, []), (2, 0, [56, 57, 58, 59, 0, 0]), (9, 6, []), (9, 6, []), (9, 6, []), (9, 5, []), (2, 0, [61, 62, 63, 64, 0, 0]), (9, 6, []), (9, 6, []), (9, 6, []), (9, 5, []), (2, 0, [66, 67, 68, 69, 0, 0]), (9, 6, []), (9, 6, []), (9, 6, []), (9, 5, []), (2, 0, [71, 72, 73, 74, 0, 0]), (9, 6, []), (9, 6, []), (9, 6, []), (9, 5, []), (2, 0, [76, 77, 78, 79, 0, 0]), (9, 6, []), (9, 6, []), (9, 6, []), (9, 5, []), (2, 0, [81, 82, 83, 84, 0, 0]), (9, 6, []), (9, 6, []), (9, 6, []), (9, 5, []), (2, 0, [86, 87, 88, 89, 0, 0]), (9, 6, []), (9, 6, []), (9, 6, []), (9, 5, [])]
theorem E17_eq : fm E16 38 6 = E17 := by decide +kernel
def E18 : Dl := [(6, 0, [2, 7, 20, 33, 38, 0, 0, 39, 0, 40, 41, 43, 54, 0]), (4, 0, [3, 0, 0, 0, 0, 0, 0, 0, 0, 4, 5, 6, 0, 0, 0]), (8, 900, []), (10, 15, []), (9, 15, []), (9, 15, []), (3, 0, [0, 0, 0, 0, 0, 8, 9, 10, 11, 12, 0, 13, 14, 15, 0, 16, 17, 0, 18, 19]), (9, 6, []), (9, 6, []), (9, 6, []), (9, 6, []), (9, 6, []), (9, 5, []), (9, 5, []), (9, 5, []), (9, 4, []), (9, 4, []), (9, 4, []), (9, 4, []), (3, 0, [0, 0, 0, 0, 0, 21, 22, 23, 24, 25, 0, 26, 27, 28, 0, 29, 30, 0, 31, 32]), (9, 6, []), (9, 6, []), (9, 6, []), (9, 6, []), (9, 6, []), (9, 5, []), (9, 5, []), (9, 5, []), (9, 4, []), (9, 4, []), (9, 4, []), (9, 4, []), (2, 0, [34, 35, 36, 37, 0, 0]), (9, 6, []), (9, 6, []), (9, 6, []), (9, 5, []), (11, 16, [55, 60, 65, 70, 75, 80, 85, 90, 0, 0, 0, 0, 0, 0, 0, 0]), (11, 3, [0, 0, 0]), (0, 0, [0, 0, 0, 0, 0, 0, 0, 0]), (5, 0, [42, 0]), (9, 20, []), (1, 0, [44, 51, 52, 53, 0, 0, 0, 0, 0]), (12, 6, [45, 46, 47, 48, 49, 50]), (9, 5, []), (9, 5, []), (9, 5, []), (9, 5, []), (9, 5, []), (9, 5, []), (9, 6, []), (9, 5, []), (9, 5, []), (9, 61, []), (2, 0, [56, 57, 58, 59, 0, 0]), (9, 6, []), (9, 6, []), (9, 6, []), (9, 5, []), (2, 0, [61, 62, 63, 64, 0, 0]), (9, 6, []), (9, 6, []), (9, 6, []), (9, 5, []), (2, 0, [66, 67, 68, 69, 0, 0]), (9, 6, []), (9, 6, []), (9, 6, []), (9, 5, []), (2, 0, [71, 72, 73, 74, 0, 0]), (9, 6, []), (9, 6, []), (9, 6, []), (9, 5, []), (2, 0, [76, 77, 78, 79, 0, 0]), (9, 6, []), (9, 6, []), (9, 6, []), (9, 5, []), (2, 0, [81, 82, 83, 84, 0, 0]), (9, 6, []), (9, 6, []), (9, 6, []), (9, 5, []), (2, 0, [86, 87, 88, 89, 0, 0]), (9, 6, []), (9, 6, []), (9, 6, []), (9, 5, []), (2, 0, [91, 92, 93, 94, 0, 0]), (9, 6, []), (9, 6, []), (9, 6, []), (9, 5, [])]
theorem E18_eq : fm E17 38 7 = E18 := by decide +kernel
def E19 : Dl := [(6, 0, [2, 7, 20, 33, 38, 0, 0, 39, 0, 40, 41, 43, 54, 0]), (4, 0, [3, 0, 0, 0, 0, 0, 0, 0, 0, 4, 5, 6, 0, 0, 0]), (8, 900, []), (10, 15, []), (9, 15, []), (9, 15, []), (3, 0, [0, 0, 0, 0, 0, 8, 9, 10, 11, 12, 0, 13, 14, 15, 0, 16, 17, 0, 18, 19]), (9, 6, []), (9, 6, []), (9, 6, []), (9, 6, []), (9, 6, []), (9, 5, []), (9, 5, []), (9, 5, []), (9, 4, []), (9, 4, []), (9, 4, []), (9, 4, []), (3, 0, [0, 0, 0, 0, 0, 21, 22, 23, 24, 25, 0, 26, 27, 28, 0, 29, 30, 0, 31, 32]), (9, 6, []), (9, 6, []), (9, 6, []), (9, 6, []), (9, 6, []), (9, 5, []), (9, 5, []), (9, 5, []), (9, 4, []), (9, 4, []), (9, 4, []), (9, 4, []), (2, 0, [34, 35, 36, 37, 0, 0]), (9, 6, []), (9, 6, []), (9, 6, []), (9, 5, []), (11, 16, [55, 60, 65, 70, 75, 80, 85, 90, 95, 0, 0, 0, 0, 0, 0, 0]), (11, 3, [0, 0, 0]), (0, 0, [0, 0, 0, 0, 0, 0, 0, 0]), (5, 0, [42, 0]), (9, 20, []), (1, 0, [44, 51, 52, 53, 0, 0, 0, 0, 0]), (12, 6, [45, 46, 47, 48, 49, 50]), (9, 5, []), (9, 5, []), (9, 5, []), (9, 5, []), (9, 5, []), (9, 5, []), (9, 6, []), (9, 5, []), (9, 5, []), (9, 61, []), (2, 0, [56, 57, 58, 59, 0, 0]), (9, 6, []), (9, 6, []), (9, 6, []), (9, 5, []), (2, 0, [61, 62, 63, 64, 0, 0]), (9, 6, []), (9, 6, []), (9, 6, []), (9, 5, []), (2, 0, [66, 67, 68, 69, 0, 0]), (9, 6, []), (9, 6, []), (9, 6, []), (9, 5, []), (2, 0, [71, 72, 73, 74, 0, 0]), (9, 6, []), (9, 6, []), (9, 6, []), (9, 5, []), (2, 0, [76, 77, 78, 79, 0, 0]), (9, 6, []), (9, 6, []), (9, 6, []), (9, 5, []), (2, 0, [81, 82, 83, 84, 0, 0]), (9, 6, []), (9, 6, []), (9, 6, []), (9, 5, []), (2, 0, [86, 87, 88, 89, 0, 0]), (9, 6, []), (9, 6, []), (9, 6, []), (9, 5, []), (2, 0, [91, 92, 93, 94, 0, 0]), (9, 6, []), (9, 6, []), (9, 6, []), (9, 5, []), (2, 0, [96, 97, 98, 99, 0, 0]), (9, 6, []), (9, 6, []), (9, 6, []), (9, 5, [])]
theorem E19_eq : fm E18 38 8 = E19 := by decide +kernel
def E20 : Dl := [(6, 0, [2, 7, 20, 33, 38, 0, 0, 39, 0, 40, 41, 43, 54, 0]), (4, 0, [3, 0, 0, 0, 0, 0, 0, 0, 0, 4, 5, 6, 0, 0, 0]), (8, 900, []), (10, 15, []), (9, 15, []), (9, 15, []), (3, 0, [0, 0, 0, 0, 0, 8, 9, 10, 11, 12, 0, 13, 14, 15, 0, 16, 17, 0, 18, 19]), (9, 6, []), (9, 6, []), (9, 6, []), (9, 6, []), (9, 6, []), (9, 5, []), (9, 5, []), (9, 5, []), (9, 4, []), (9, 4, []), (9, 4, []), (9, 4, []), (3, 0, [0, 0, 0, 0, 0, 21, 22, 23, 24, 25, 0, 26, 27, 28, 0, 29, 30, 0, 31, 32]), (9, 6, []), (9, 6, []), (9, 6, []), (9, 6, []), (9, 6, []), (9, 5, []), (9, 5, []), (9, 5, []), (9, 4, []), (9, 4, []), (9, 4, []), (9, 4, []), (2, 0, [34, 35, 36, 37, 0, 0]), (9, 6, []), (9, 6, []), (9, 6, []), (9, 5, []), (11, 16, [55, 60, 65, 70, 75, 80, 85, 90, 95, 100, 0, 0, 0, 0, 0, 0]), (11, 3, [0, 0, 0]), (0, 0, [0, 0, 0, 0, 0, 0, 0, 0]), (5, 0, [42, 0]), (9, 20, []), (1, 0, [44, 51, 52, 53, 0, 0, 0, 0, 0]), (12, 6, [45, 46, 47, 48, 49, 50]), (9, 5, []), (9, 5, []), (9, 5, []), (9, 5, []), (9, 5, []), (9, 5, []), (9, 6, []), (9, 5, []), (9, 5, []), (9, 61, []), (2, 0, [56, 57, 58, 59, 0, 0]), (9, 6, []), (9, 6, []), (9, 6, []), (9, 5, []), (2, 0, [61, 62, 63, 64, 0, 0]), (9, 6, []), (9, 6, []), (9, 6, []), (9, 5, []), (2, 0, [66, 67, 68, 69, 0, 0]), (9, 6, []), (9, 6, []), (9, 6, []), (9, 5, []), (2, 0, [71, 72, 73, 74, 0, 0]), (9, 6, []), (9, 6, []), (9, 6, []), (9, 5, []), (2, 0, [76, 77, 78, 79, 0, 0]), (9, 6, []), (9, 6, []), (9, 6, []), (9, 5, []), (2, 0, [81, 82, 83, 84, 0, 0]), (9, 6, []), (9, 6, []), (9, 6, []), (9, 5, []), (2, 0, [86, 87, 88, 89, 0, 0]), (9, 6, []), (9, 6, []), (9, 6, []), (9, 5, []), (2, 0, [91, 92, 93, 94, 0, 0]), (9, 6, []), (9, 6, []), (9, 6, []), (9, 5, []), (2, 0, [96, 97, 98, 99, 0, 0]), (9, 6, []), (9, 6, []), (9, 6, []), (9, 5, []), (2, 0, [101, 102, 103, 104, 0, 0]), (9, 6, []), (9, 6, []), (9, 6, []), (9, 5, [])]
theorem E20_eq : fm E19 38 9 = E20 := by decide +kernel
def E21 : Dl := [(6, 0, [2, 7, 20, 33, 38, 0, 0, 39, 0, 40, 41, 43, 54, 0]), (4, 0, [3, 0, 0, 0, 0, 0, 0, 0, 0, 4, 5, 6, 0, 0, 0]), (8, 900, []), (10, 15, []), (9, 15, []), (9, 15, []), (3, 0, [0, 0, 0, 0, 0, 8, 9, 10, 11, 12, 0, 13, 14, 15, 0, 16, 17, 0, 18, 19]), (9, 6, []), (9, 6, []), (9, 6, []), (9, 6, []), (9, 6, []), (9, 5, []), (9, 5, []), (9, 5, []), (9, 4, []), (9, 4, []), (9, 4, []), (9, 4, []), (3, 0, [0, 0, 0, 0, 0, 21, 22, 23, 24, 25, 0, 26, 27, 28, 0, 29, 30, 0, 31, 32]), (9, 6, []), (9, 6, []), (9, 6, []), (9, 6, []), (9, 6, []), (9, 5, []), (9, 5, []), (9, 5, []), (9, 4, []), (9, 4, []), (9, 4, []), (9, 4, []), (2, 0, [34, 35, 36, 37, 0, 0]), (9, 6, []), (9, 6, []), (9, 6, []), (9, 5, []), (11, 16, [55, 60, 65, 70, 75, 80, 85, 90, 95, 100, 105, 0, 0, 0, 0, 0]), (11, 3, [0, 0, 0]), (0, 0, [0, 0, 0, 0, 0, 0, 0, 0]), (5, 0, [42, 0]), (9, 20, []), (1, 0, [44, 51, 52, 53, 0, 0, 0, 0, 0]), (12, 6, [45, 46, 47, 48, 49, 50]), (9, 5, []), (9, 5, []), (9, 5, []), (9, 5, []), (9, 5, []), (9, 5, []), (9, 6, []), (9, 5, []), (9, 5, []), (9, 61, []), (2, 0, [56, 57, 58, 59, 0, 0]), (9, 6, []), (9, 6, []), (9, 6, []), (9, 5, []), (2, 0, [61, 62, 63, 64, 0, 0]), (9, 6, []), (9, 6, []), (9, 6, []), (9, 5, []), (2, 0, [66, 67, 68, 69, 0, 0]), (9, 6, []), (9, 6, []), (9, 6, []), (9, 5, []), (2, 0, [71, 72, 73, 74, 0, 0]), (9, 6, []), (9, 6, []), (9, 6, []), (9, 5, []), (2, 0, [76, 77, 78, 79, 0, 0]), (9, 6, []), (9, 6, []), (9, 6, []), (9, 5, []), (2, 0, [81, 82, 83, 84, 0, 0]), (9, 6, []), (9, 6, []), (9, 6, []), (9, 5, []), (2, 0, [86, 87, 88, 89, 0, 0]), (9, 6, []), (9, 6, []), (9, 6, []), (9, 5, []), (2, 0, [91, 92, 93, 94, 0, 0]), (9, 6, []), (9, 6, []), (9, 6, []), (9, 5, []), (2, 0, [96, 97, 98, 99, 0, 0]), (9, 6, []), (9, 6, []), (9, 6, []), (9, 5, []), (2, 0, [101, 102, 103, 104, 0, 0]), (9, 6, []), (9, 6, []), (9, 6, []), (9, 5, []), (2, 0, [106, 107, 108, 109, 0, 0]), (9, 6, []), (9, 6, []), (9, 6, []), (9, 5, [])]
theorem E21_eq : fm E20 38 10 = E21 := by decide +kernel
def E22 : Dl := [(6, 0, [2, 7, 20, 33, 38, 0, 0, 39, 0, 40, 41, 43, 54, 0]), (4, 0, [3, 0, 0, 0, 0, 0, 0, 0, 0, 4, 5, 6, 0, 0, 0]), (8, 900, []), (10, 15, []), (9, 15, []), (9, 15, []), (3, 0, [0, 0, 0, 0, 0, 8, 9, 10, 11, 12, 0, 13, 14, 15, 0, 16, 17, 0, 18, 19]), (9, 6, []), (9, 6, []), (9, 6, []), (9, 6, []), (9, 6, []), (9, 5, []), (9, 5, []), (9, 5, []), (9, 4, []), (9, 4, []), (9, 4, []), (9, 4, []), (3, 0, [0, 0, 0, 0, 0, 21, 22, 23, 24, 25, 0, 26, 27, 28, 0, 29, 30, 0, 31, 32]), (9, 6, []), (9, 6, []), (9, 6, []), (9, 6, []), (9, 6, []), (9, 5, []), (9, 5, []), (9, 5, []), (9, 4, []), (9, 4, []), (9, 4, []), (9, 4, []), (2, 0, [34, 35, 36, 37, 0, 0]), (9, 6, []), (9, 6, []), (9, 6, []), (9, 5, []), (11, 16, [55, 60, 65, 70, 75, 80, 85, 90, 95, 100, 105, 110, 0, 0, 0, 0]), (11, 3, [0, 0, 0]), (0, 0, [0, 0, 0, 0, 0, 0, 0, 0]), (5, 0, [42, 0]), (9, 20, []), (1, 0, [44, 51, 52, 53, 0, 0, 0, 0, 0]), (12, 6, [45, 46, 47, 48, 49, 50]), (9, 5, []), (9, 5, []), (9, 5, []), (9, 5, []), (9, 5, []), (9, 5, []), (9, 6, []), (9, 5, []), (9, 5, []), (9, 61, []), (2, 0, [56, 57, 58, 59, 0, 0]), (9, 6, []), (9, 6, []), (9, 6, []), (9, 5, []), (2, 0, [61, 62, 63, 64, 0, 0]), (9, 6, []), (9, 6, []), (9, 6, []), (9, 5, []), (2, 0, [66, 67, 68, 69, 0, 0]), (9, 6, []), (9, 6, []), (9, 6, []), (9, 5, []), (2, 0, [71, 72, 73, 74, 0, 0]), (9, 6, []), (9, 6, []), (9, 6, []), (9, 5, []), (2, 0, [76, 77, 78, 79, 0, 0]), (9, 6, []), (9, 6, []), (9, 6, []), (9, 5, []), (2, 0, [81, 82, 83, 84, 0, 0]), (9, 6, []), (9, 6, []), (9, 6, []), (9, 5, []), (2, 0, [86, 87, 88, 89, 0, 0]), (9, 6, []), (9, 6, []), (9, 6, []), (9, 5, []), (2, 0, [91, 92, 93, 94, 0, 0]), (9, 6, []), (9, 6, []), (9, 6, []), (9, 5, []), (2, 0, [96, 97, 98, 99, 0, 0]), (9, 6, []), (9, 6, []), (9, 6, []), (9, 5, []), (2, 0, [101, 102, 103, 104, 0, 0]), (9, 6, []), (9, 6, []), (9, 6, []), (9, 5, []), (2, 0, [106, 107, 108, 109, 0, 0]), (9, 6, []), (9, 6, []), (9, 6, []), (9, 5, []), (2, 0, [111, 112, 113, 114, 0, 0]), (9, 6, []), (9, 6, []), (9, 6, []), (9, 5, [])]
theorem E22_eq : fm E21 38 11 = E22 := by decide +kernel
def E23 : Dl := [(6, 0, [2, 7, 20, 33, 38, 0, 0, 39, 0, 40, 41, 43, 54, 0]), (4, 0, [3, 0, 0, 0, 0, 0, 0, 0, 0, 4, 5, 6, 0, 0, 0]), (8, 900, []), (10, 15, []), (9, 15, []), (9, 15, []), (3, 0, [0, 0, 0, 0, 0, 8, 9, 10, 11, 12, 0, 13, 14, 15, 0, 16, 17, 0, 18, 19]), (9, 6, []), (9, 6, []), (9, 6, []), (9, 6, []), (9, 6, []), (9, 5, []), (9, 5, []), (9, 5, []), (9, 4, []), (9, 4, []), (9, 4, []), (9, 4, []), (3, 0, [0, 0, 0, 0, 0, 21, 22, 23, 24, 25, 0, 26, 27, 28, 0, 29, 30, 0, 31, 32]), (9, 6, []), (9, 6, []), (9, 6, []), (9, 6, []), (9, 6, []), (9, 5, []), (9, 5, []), (9, 5, []), (9, 4, []), (9, 4, []), (9, 4, []), (9, 4, []), (2, 0, [34, 35, 36, 37, 0, 0]), (9, 6, []), (9, 6, []), (9, 6, []), (9, 5, []), (11, 16, [55, 60, 65, 70, 75, 80, 85, 90, 95, 100, 105, 110, 115, 0, 0, 0]), (11, 3, [0, 0, 0]), (0, 0, [0, 0, 0, 0, 0, 0, 0, 0]), (5, 0, [42, 0]), (9, 20, []), (1, 0, [44, 51, 52, 53, 0, 0, 0, 0, 0]), (12, 6, [45, 46, 47, 48, 49, 50]), (9, 5, []), (9, 5, []), (9, 5, []), (9, 5, []), (9, 5, []), (9, 5, []), (9, 6, []), (9, 5, []), (9, 5, []), (9, 61, []), (2, 0, [56, 57, 58, 59, 0, 0]), (9, 6, []), (9, 6, []), (9, 6, []), (9, 5, []), (2, 0, [61, 62, 63, 64, 0, 0]), (9, 6, []), (9, 6, []), (9, 6, []), (9, 5, []), (2, 0, [66, 67, 68, 69, 0, 0]), (9, 6, []), (9, 6, []), (9, 6, []), (9, 5, []), (2, 0, [71, 72, 73, 74, 0, 0]), (9, 6, []), (9, 6, []), (9, 6, []), (9, 5, []), (2, 0, [76, 77, 78, 79, 0, 0]), (9, 6, []), (9, 6, []), (9, 6, []), (9, 5, []), (2, 0, [81, 82, 83, 84, 0, 0]), (9, 6, []), (9, 6, []), (9, 6, []), (9, 5, []), (2, 0, [86, 87, 88, 89, 0, 0]), (9, 6, []), (9, 6, []), (9, 6, []), (9, 5, []), (2, 0, [91, 92, 93, 94, 0, 0]), (9, 6, []), (9, 6, []), (9, 6, []), (9, 5, []), (2, 0, [96, 97, 98, 99, 0, 0]), (9, 6, []), (9, 6, []), (9, 6, []), (9, 5, []), (2, 0, [101, 102, 103, 104, 0, 0]), (9, 6, []), (9, 6, []), (9, 6, []), (9, 5, []), (2, 0, [106, 107, 108, 109, 0, 0]), (9, 6, []), (9, 6, []), (9, 6, []), (9, 5, []), (2, 0, [111, 112, 113, 114, 0, 0]), (9, 6, []), (9, 6, []), (9, 6, []), (9, 5, []), (2, 0, [116, 117, 118, 119, 0, 0]), (9, 6, []), (9, 6, []), (9, 6, []), (9, 5, [])]
theorem E23_eq : fm E22 38 12 = E23 := by decide +kernel
def E24 : Dl := [(6, 0, [2, 7, 20, 33, 38, 0, 0, 39, 0, 40, 41, 43, 54, 0]), (4, 0, [3, 0, 0, 0, 0, 0, 0, 0, 0, 4, 5, 6, 0, 0, 0]), (8, 900, []), (10, 15, []), (9, 15, []), (9, 15, []), (3, 0, [0, 0, 0, 0, 0, 8, 9, 10, 11, 12, 0, 13, 14, 15, 0, 16, 17, 0, 18, 19]), (9, 6, []), (9, 6, []), (9, 6, []), (9, 6, []), (9, 6, []), (9, 5, []), (9, 5, []), (9, 5, []), (9, 4, []), (9, 4, []), (9, 4, []), (9, 4, []), (3, 0, [0, 0, 0, 0, 0, 21, 22, 23, 24, 25, 0, 26, 27, 28, 0, 29, 30, 0, 31, 32]), (9, 6, []), (9, 6, []), (9, 6, []), (9, 6, []), (9, 6, []), (9, 5, []), (9, 5, []), (9, 5, []), (9, 4, []), (9, 4, []), (9, 4, []), (9, 4, []), (2, 0, [34, 35, 36, 37, 0, 0]), (9, 6, []), (9, 6, []), (9, 6, []), (9, 5, []), (11, 16, [55, 60, 65, 70, 75, 80, 85, 90, 95, 100, 105, 110, 115, 120, 0, 0]), (11, 3, [0, 0, 0]), (0, 0, [0, 0, 0, 0, 0, 0, 0, 0]), (5, 0, [42, 0]), (9, 20, []), (1, 0, [44, 51, 52, 53, 0, 0, 0, 0, 0]), (12, 6, [45, 46, 47, 48, 49, 50]), (9, 5, []), (9, 5, []), (9, 5, []), (9, 5, []), (9, 5, []), (9, 5, []), (9, 6, []), (9, 5, []), (9, 5, []), (9, 61, []), (2, 0, [56, 57, 58, 59, 0, 0]), (9, 6, []), (9, 6, []), (9, 6, []), (9, 5, []), (2, 0, [61, 62, 63, 64, 0, 0]), (9, 6, []), (9, 6, []), (9, 6, []), (9, 5, []), (2, 0, [66, 67, 68, 69, 0, 0]), (9, 6, []), (9, 6, []), (9, 6, []), (9, 5, []), (2, 0, [71, 72, 73, 74, 0, 0]), (9, 6, []), (9, 6, []), (9, 6, []), (9, 5, []), (2, 0, [76, 77, 78, 79, 0, 0]), (9, 6, []), (9, 6, []), (9, 6, []), (9, 5, []), (2, 0, [81, 82, 83, 84, 0, 0]), (9, 6, []), (9, 6, []), (9, 6, []), (9, 5, []), (2, 0, [86, 87, 88, 89, 0, 0]), (9, 6, []), (9, 6, []), (9, 6, []), (9, 5, []), (2, 0, [91, 92, 93, 94, 0, 0]), (9, 6, []), (9, 6, []), (9, 6, []), (9, 5, []), (2, 0, [96, 97, 98, 99, 0, 0]), (9, 6, []), (9, 6, []), (9, 6, []), (9, 5, []), (2, 0, [101, 102, 103, 104, 0, 0]), (9, 6, []), (9, 6, []), (9, 6, []), (9, 5, []), (2, 0, [106, 107, 108, 109, 0, 0]), (9, 6, []), (9, 6, []), (9, 6, []), (9, 5, []), (2, 0, [111, 112, 113, 114, 0, 0]), (9, 6, []), (9, 6, []), (9, 6, []), (9, 5, []), (2, 0, [116, 117, 118, 119, 0, 0]), (9, 6, []), (9, 6, []), (9, 6, []), (9, 5, []), (2, 0, [121, 122, 123, 124, 0, 0]), (9, 6, []), (9, 6, []), (9, 6, []), (9, 5, [])]
theorem E24_eq : fm E23 38 13 = E24 := by decide +kernel
def E25 : Dl := [(6, 0, [2, 7, 20, 33, 38, 0, 0, 39, 0, 40, 41, 43, 54, 0]), (4, 0, [3, 0, 0, 0, 0, 0, 0, 0, 0, 4, 5, 6, 0, 0, 0]), (8, 900, []), (10, 15, []), (9, 15, []), (9, 15, []), (3, 0, [0, 0, 0, 0, 0, 8, 9, 10, 11, 12, 0, 13, 14, 15, 0, 16, 17, 0, 18, 19]), (9, 6, []), (9, 6, []), (9, 6, []), (9, 6, []), (9, 6, []), (9, 5, []), (9, 5, []), (9, 5, []), (9, 4, []), (9, 4, []), (9, 4, []), (9, 4, []), (3, 0, [0, 0, 0, 0, 0, 21, 22, 23, 24, 25, 0, 26, 27, 28, 0, 29, 30, 0, 31, 32]), (9, 6, []), (9, 6, []), (9, 6, []), (9, 6, []), (9, 6, []), (9, 5, []), (9, 5, []), (9, 5, []), (9, 4, []), (9, 4, []), (9, 4, []), (9, 4, []), (2, 0, [34, 35, 36, 37, 0, 0]), (9, 6, []), (9, 6, []), (9, 6, []), (9, 5, []), (11, 16, [55, 60, 65, 70, 75, 80, 85, 90, 95, 100, 105, 110, 115, 120, 125, 0]), (11, 3, [0, 0, 0]), (0, 0, [0, 0, 0, 0, 0, 0, 0, 0]), (5, 0, [42, 0]), (9, 20, []), (1, 0, [44, 51, 52, 53, 0, 0, 0, 0, 0]), (12, 6, [45, 46, 47, 48, 49, 50]), (9, 5, []), (9, 5, []), (9, 5, []), (9, 5, []), (9, 5, []), (9, 5, []), (9, 6, []), (9, 5, []), (9, 5, []), (9, 61, []), (2, 0, [56, 57, 58, 59, 0, 0]), (9, 6, []), (9, 6, []), (9, 6, []), (9, 5, []), (2, 0, [61, 62, 63, 64, 0, 0]), (9, 6, []), (9, 6, []), (9, 6, []), (9, 5, []), (2, 0, [66, 67, 68, 69, 0, 0]), (9, 6, []), (9, 6, []), (9, 6, []), (9, 5, []), (2, 0, [71, 72, 73, 74, 0, 0]), (9, 6, []), (9, 6, []), (9, 6, []), (9, 5, []), (2, 0, [76, 77, 78, 79, 0, 0]), (9, 6, []), (9, 6, []), (9, 6, []), (9, 5, []), (2, 0, [81, 82, 83, 84, 0, 0]), (9, 6, []), (9, 6, []), (9, 6, []), (9, 5, []), (2, 0, [86, 87, 88, 89, 0, 0]), (9, 6, []), (9, 6, []), (9, 6, []), (9, 5, []), (2, 0, [91, 92, 93, 94, 0, 0]), (9, 6, []), (9, 6, []), (9, 6, []), (9, 5, []), (2, 0, [96, 97, 98, 99, 0, 0]), (9, 6, []), (9, 6, []), (9, 6, []), (9, 5, []), (2, 0, [101, 102, 103, 104, 0, 0]), (9, 6, []), (9, 6, []), (9, 6, []), (9, 5, []), (2, 0, [106, 107, 108, 109, 0, 0]), (9, 6, []), (9, 6, []), (9, 6, []), (9, 5, []), (2, 0, [111, 112, 113, 114, 0, 0]), (9, 6, []), (9, 6, []), (9, 6, []), (9, 5, []), (2, 0, [116, 117, 118, 119, 0, 0]), (9, 6, []), (9, 6, []), (9, 6, []), (9, 5, []), (2, 0, [121, 122, 123, 124, 0, 0]), (9, 6, []), (9, 6, []), (9, 6, []), (9, 5, []), (2, 0, [126, 127, 128, 129, 0, 0]), (9, 6, []), (9, 6, []), (9, 6, []), (9, 5, [])]
theorem E25_eq : fm E24 38 14 = E25 := by decide +kernel
def E26 : Dl := [(6, 0, [2, 7, 20, 33, 38, 0, 0, 39, 0, 40, 41, 43, 54, 0]), (4, 0, [3, 0, 0, 0, 0, 0, 0, 0, 0, 4, 5, 6, 0, 0, 0]), (8, 900, []), (10, 15, []), (9, 15, []), (9, 15, []), (3, 0, [0, 0, 0, 0, 0, 8, 9, 10, 11, 12, 0, 13, 14, 15, 0, 16, 17, 0, 18, 19]), (9, 6, []), (9, 6, []), (9, 6, []), (9, 6, []), (9, 6, []), (9, 5, []), (9, 5, []), (9, 5, []), (9, 4, []), (9, 4, []), (9, 4, []), (9, 4, []), (3, 0, [0, 0, 0, 0, 0, 21, 22, 23, 24, 25, 0, 26, 27, 28, 0, 29, 30, 0, 31, 32]), (9, 6, []), (9, 6, []), (9, 6, []), (9, 6, []), (9, 6, []), (9, 5, []), (9, 5, []), (9, 5, []), (9, 4, []), (9, 4, []), (9, 4, []), (9, 4, []), (2, 0, [34, 35, 36, 37, 0, 0]), (9, 6, []), (9, 6, []), (9, 6, []), (9, 5, []), (11, 16, [55, 60, 65, 70, 75, 80, 85, 90, 95, 100, 105, 110, 115, 120, 125, 130]), (11, 3, [0, 0, 0]), (0, 0, [0, 0, 0, 0, 0, 0, 0, 0]), (5, 0, [42, 0]), (9, 20, []), (1, 0, [44, 51, 52, 53, 0, 0, 0, 0, 0]), (12, 6, [45, 46, 47, 48, 49, 50]), (9, 5, []), (9, 5, []), (9, 5, []), (9, 5, []), (9, 5, []), (9, 5, []), (9, 6, []), (9, 5, []), (9, 5, []), (9, 61, []), (2, 0, [56, 57, 58, 59, 0, 0]), (9, 6, []), (9, 6, []), (9, 6, []), (9, 5, []), (2, 0, [61, 62, 63, 64, 0, 0]), (9, 6, []), (9, 6, []), (9, 6, []), (9, 5, []), (2, 0, [66, 67, 68, 69, 0, 0]), (9, 6, []), (9, 6, []), (9, 6, []), (9, 5, []), (2, 0, [71, 72, 73, 74, 0, 0]), (9, 6, []), (9, 6, []), (9, 6, []), (9, 5, []), (2, 0, [76, 77, 78, 79, 0, 0]), (9, 6, []), (9, 6, []), (9, 6, []), (9, 5, []), (2, 0, [81, 82, 83, 84, 0, 0]), (9, 6, []), (9, 6, []), (9, 6, []), (9, 5, []), (2, 0, [86, 87, 88, 89, 0, 0]), (9, 6, []), (9, 6, []), (9, 6, []), (9, 5, []), (2, 0, [91, 92, 93, 94, 0, 0]), (9, 6, []), (9, 6, []), (9, 6, []), (9, 5, []), (2, 0, [96, 97, 98, 99, 0, 0]), (9, 6, []), (9, 6, []), (9, 6, []), (9, 5, []), (2, 0, [101, 102, 103, 104, 0, 0]), (9, 6, []), (9, 6, []), (9, 6, []), (9, 5, []), (2, 0, [106, 107, 108, 109, 0, 0]), (9, 6, []), (9, 6, []), (9, 6, []), (9, 5, []), (2, 0, [111, 112, 113, 114, 0, 0]), (9, 6, []), (9, 6, []), (9, 6, []), (9, 5, []), (2, 0, [116, 117, 118, 119, 0, 0]), (9, 6, []), (9, 6, []), (9, 6, []), (9, 5, []), (2, 0, [121, 122, 123, 124, 0, 0]), (9, 6, []), (9, 6, []), (9, 6, []), (9, 5, []), (2, 0, [126, 127, 128, 129, 0, 0]), (9, 6, []), (9, 6, []), (9, 6, []), (9, 5, []), (2, 0, [131, 132, 133, 134, 0, 0]), (9, 6, []), (9, 6, []), (9, 6, []), (9, 5, [])]
theorem E26_eq : fm E25 38 15 = E26 := by decide +kernel
theorem lpD_128 : lpD 16 0 E10 38 = E26 := by
  show lpD 15 1 (fm E10 38 0) 38 = _
  rw [E11_eq]
  show lpD 14 2 (fm E11 38 1) 38 = _
  rw [E12_eq]
  show lpD 13 3 (fm E12 38 2) 38 = _
  rw [E13_eq]
  show lpD 12 4 (fm E13 38 3) 38 = _
  rw [E14_eq]
  show lpD 11 5 (fm E14 38 4) 38 = _
  rw [E15_eq]
  show lpD 10 6 (fm E15 38 5) 38 = _
  rw [E16_eq]
  show lpD 9 7 (fm E16 38 6) 38 = _
  rw [E17_eq]
  show lpD 8 8 (fm E17 38 7) 38 = _
  rw [E18_eq]
  show lpD 7 9 (fm E18 38 8) 38 = _
  rw [E19_eq]
  show lpD 6 10 (fm E19 38 9) 38 = _
  rw [E20_eq]
  show lpD 5 11 (fm E20 38 10) 38 = _
  rw [E21_eq]
  show lpD 4 12 (fm E21 38 11) 38 = _
  rw [E22_eq]
  show lpD 3 13 (fm E22 38 12) 38 = _
  rw [E23_eq]
  show lpD 2 14 (fm E23 38 13) 38 = _
  rw [E24_eq]
  show lpD 1 15 (fm E24 38 14) 38 = _
  rw [E25_eq]
  show lpD 0 16 (fm E25 38 15) 38 = _
  rw [E26_eq]
  rfl
def E27 : Dl := [(6, 0, [2, 7, 20, 33, 38, 0, 0, 39, 0, 40, 41, 43, 54, 0]), (4, 0, [3, 0, 0, 0, 0, 0, 0, 0, 0, 4, 5, 6, 0, 0, 0]), (8, 900, []), (10, 15, []), (9, 15, []), (9, 15, []), (3, 0, [0, 0, 0, 0, 0, 8, 9, 10, 11, 12, 0, 13, 14, 15, 0, 16, 17, 0, 18, 19]), (9, 6, []), (9, 6, []), (9, 6, []), (9, 6, []), (9, 6, []), (9, 5, []), (9, 5, []), (9, 5, []), (9, 4, []), (9, 4, []), (9, 4, []), (9, 4, []), (3, 0, [0, 0, 0, 0, 0, 21, 22, 23, 24, 25, 0, 26, 27, 28, 0, 29, 30, 0, 31, 32]), (9, 6, []), (9, 6, []), (9, 6, []), (9, 6, []), (9, 6, []), (9, 5, []), (9, 5, []), (9, 5, []), (9, 4, []), (9, 4, []), (9, 4, []), (9, 4, []), (2, 0, [34, 35, 36, 37, 0, 0]), (9, 6, []), (9, 6, []), (9, 6, []), (9, 5, []), (11, 16, [55, 60, 65, 70, 75, 80, 85, 90, 95, 100, 105, 110, 115, 120, 125, 130]), (11, 3, [135, 0, 0]), (0, 0, [0, 0, 0, 0, 0, 0, 0, 0]), (5, 0, [42, 0]), (9, 20, []), (1, 0, [44, 51, 52, 53, 0, 0, 0, 0, 0]), (12, 6, [45, 46, 47, 48, 49, 50]), (9, 5, []), (9, 5, []), (9, 5, []), (9, 5, []), (9, 5, []), (9, 5, []), (9, 6, []), (9, 5, []), (9, 5, []), (9, 61, []), (2, 0, [56, 57, 58, 59, 0, 0]), (9, 6, []), (9, 6, []), (9, 6, []), (9, 5, []), (2, 0, [61, 62, 63, 64, 0, 0]), (9, 6, []), (9, 6, []), (9, 6, []), (9, 5, []), (2, 0, [66, 67, 68, 69, 0, 0]), (9, 6, []), (9, 6, []), (9, 6, []), (9, 5, []), (2, 0, [71, 72, 73, 74, 0, 0]), (9, 6, []), (9, 6, []), (9, 6, []), (9, 5, []), (2, 0, [76, 77, 78, 79, 0, 0]), (9, 6, []), (9, 6, []), (9, 6, []), (9, 5, []), (2, 0, [81, 82, 83, 84, 0, 0]), (9, 6, []), (9, 6, []), (9, 6, []), (9, 5, []), (2, 0, [86, 87, 88, 89, 0, 0]), (9, 6, []), (9, 6, []), (9, 6, []), (9, 5, []), (2, 0, [91, 92, 93, 94, 0, 0]), (9, 6, []), (9, 6, []), (9, 6, []), (9, 5, []), (2, 0, [96, 97, 98, 99, 0, 0]), (9, 6, []), (9, 6, []), (9, 6, []), (9, 5, []), (2, 0, [101, 102, 103, 104, 0, 0]), (9, 6, []), (9, 6, []), (9, 6, []), (9, 5, []), (2, 0, [106, 107, 108, 109, 0, 0]), (9, 6, []), (9, 6, []), (9, 6, []), (9, 5, []), (2, 0, [111, 112, 113, 114, 0, 0]), (9, 6, []), (9, 6, []), (9, 6, []), (9, 5, []), (2, 0, [116, 117, 118, 119, 0, 0]), (9, 6, []), (9, 6, []), (9, 6, []), (9, 5, []), (2, 0, [121, 122, 123, 124, 0, 0]), (9, 6, []), (9, 6, []), (9, 6, []), (9, 5, []), (2, 0, [126, 127, 128, 129, 0, 0]), (9, 6, []), (9, 6, []), (9, 6, []), (9, 5, []), (2, 0, [131, 132, 133, 134, 0, 0]), (9, 6, []), (9, 6, []), (9, 6, []), (9, 5, []), (2, 0, [136, 137, 138, 139, 0, 0]), (9, 6, []), (9, 6, []), (9, 6, []), (9, 5, [])]
theorem E27_eq : fm E26 39 0 = E27 := by decide +kernel
def E28 : Dl := [(6, 0, [2, 7, 20, 33, 38, 0, 0, 39, 0, 40, 41, 43, 54, 0]), (4, 0, [3, 0, 0, 0, 0, 0, 0, 0, 0, 4, 5, 6, 0, 0, 0]), (8, 900, []), (10, 15, []), (9, 15, []), (9, 15, []), (3, 0, [0, 0, 0, 0, 0, 8, 9, 10, 11, 12, 0, 13, 14, 15, 0, 16, 17, 0, 18, 19]), (9, 6, []), (9, 6, []), (9, 6, []), (9, 6, []), (9, 6, []), (9, 5, []), (9, 5, []), (9, 5, []), (9, 4, []), (9, 4, []), (9, 4, []), (9, 4, []), (3, 0, [0, 0, 0, 0, 0, 21, 22, 23, 24, 25, 0, 26, 27, 28, 0, 29, 30, 0, 31, 32]), (9, 6, []), (9, 6, []), (9, 6, []), (9, 6, []), (9, 6, []), (9, 5, []), (9, 5, []), (9, 5, []), (9, 4, []), (9, 4, []), (9, 4, []), (9, 4, []), (2, 0, [34, 35, 36, 37, 0, 0]), (9, 6, []), (9, 6, []), (9, 6, []), (9, 5, []), (11, 16, [55, 60, 65, 70, 75, 80, 85, 90, 95, 100, 105, 110, 115, 120, 125, 130]), (11, 3, [135, 140, 0]), (0, 0, [0, 0, 0, 0, 0, 0, 0, 0]), (5, 0, [42, 0]), (9, 20, []), (1, 0, [44, 51, 52, 53, 0, 0, 0, 0, 0]), (12, 6, [45, 46, 47, 48, 49, 50]), (9, 5, []), (9, 5, []), (9, 5, []), (9, 5, []), (9, 5, []), (9, 5, []), (9, 6, []), (9, 5, []), (9, 5, []), (9, 61, []), (2, 0, [56, 57, 58, 59, 0, 0]), (9, 6, []), (9, 6, []), (9, 6, []), (9, 5, []), (2, 0, [61, 62, 63, 64, 0, 0]), (9, 6, []), (9, 6, []), (9, 6, []), (9, 5, []), (2, 0, [66, 67, 68, 69, 0, 0]), (9, 6, []), (9, 6, []), (9, 6, []), (9, 5, []), (2, 0, [71, 72, 73, 74, 0, 0]), (9, 6, []), (9, 6, []), (9, 6, []), (9, 5, []), (2, 0, [76, 77, 78, 79, 0, 0]), (9, 6, []), (9, 6, []), (9, 6, []), (9, 5, []), (2, 0, [81, 82, 83, 84, 0, 0]), (9, 6, []), (9, 6, []), (9, 6, []), (9, 5, []), (2, 0, [86, 87, 88, 89, 0, 0]), (9, 6, []), (9, 6, []), (9, 6, []), (9, 5, []), (2, 0, [91, 92, 93, 94, 0, 0]), (9, 6, []), (9, 6, []), (9, 6, []), (9, 5, []), (2, 0, [96, 97, 98, 99, 0, 0]), (9, 6, []), (9, 6, []), (9, 6, []), (9, 5, []), (2, 0, [101, 102, 103, 104, 0, 0]), (9, 6, []), (9, 6, []), (9, 6, []), (9, 5, []), (2, 0, [106, 107, 108, 109, 0, 0]), (9, 6, []), (9, 6, []), (9, 6, []), (9, 5, []), (2, 0, [111, 112, 113, 114, 0, 0]), (9, 6, []), (9, 6, []), (9, 6, []), (9, 5, []), (2, 0, [116, 117, 118, 119, 0, 0]), (9, 6, []), (9, 6, []), (9, 6, []), (9, 5, []), (2, 0, [121, 122, 123, 124, 0, 0]), (9, 6, []), (9, 6, []), (9, 6, []), (9, 5, []), (2, 0, [126, 127, 128, 129, 0, 0]), (9, 6, []), (9, 6, []), (9, 6, []), (9, 5, []), (2, 0, [131, 132, 133, 134, 0, 0]), (9, 6, []), (9, 6, []), (9, 6, []), (9, 5, []), (2, 0, [136, 137, 138, 139, 0, 0]), (9, 6, []), (9, 6, []), (9, 6, []), (9, 5, []), (2, 0, [141, 142, 143, 144, 0, 0]), (9, 6, []), (9, 6, []), (9, 6, []), (9, 5, [])]
theorem E28_eq : fm E27 39 1 = E28 := by decide +kernel
def E29 : Dl := [(6, 0, [2, 7, 20, 33, 38, 0, 0, 39, 0, 40, 41, 43, 54, 0]), (4, 0, [3, 0, 0, 0, 0, 0, 0, 0, 0, 4, 5, 6, 0, 0, 0]), (8, 900, []), (10, 15, []), (9, 15, []), (9, 15, []), (3, 0, [0, 0, 0, 0, 0, 8, 9, 10, 11, 12, 0, 13, 14, 15, 0, 16, 17, 0, 18, 19]), (9, 6, []), (9, 6, []), (9, 6, []), (9, 6, []), (9, 6, []), (9, 5, []), (9, 5, []), (9, 5, []), (9, 4, []), (9, 4, []), (9, 4, []), (9, 4, []), (3, 0, [0, 0, 0, 0, 0, 21, 22, 23, 24, 25, 0, 26, 27, 28, 0, 29, 30, 0, 31, 32]), (9, 6, []), (9, 6, []), (9, 6, []), (9, 6, []), (9, 6, []), (9, 5, []), (9, 5, []), (9, 5, []), (9, 4, []), (9, 4, []), (9, 4, []), (9, 4, []), (2, 0, [34, 35, 36, 37, 0, 0]), (9, 6, []), (9, 6, []), (9, 6, []), (9, 5, []), (11, 16, [55, 60, 65, 70, 75, 80, 85, 90, 95, 100, 105, 110, 115, 120, 125, 130]), (11, 3, [135, 140, 145]), (0, 0, [0, 0, 0, 0, 0, 0, 0, 0]), (5, 0, [42, 0]), (9, 20, []), (1, 0, [44, 51, 52, 53, 0, 0, 0, 0, 0]), (12, 6, [45, 46, 47, 48, 49, 50]), (9, 5, []), (9, 5, []), (9, 5, []), (9, 5, []), (9, 5, []), (9, 5, []), (9, 6, []), (9, 5, []), (9, 5, []), (9, 61, []), (2, 0, [56, 57, 58, 59, 0, 0]), (9, 6, []), (9, 6, []), (9, 6, []), (9, 5, []), (2, 0, [61, 62, 63, 64, 0, 0]), (9, 6, []), (9, 6, []), (9, 6, []), (9, 5, []), (2, 0, [66, 67, 68, 69, 0, 0]), (9, 6, []), (9, 6, []), (9, 6, []), (9, 5, []), (2, 0, [71, 72, 73, 74, 0, 0]), (9, 6, []), (9, 6, []), (9, 6, []), (9, 5, []), (2, 0, [76, 77, 78, 79, 0, 0]), (9, 6, []), (9, 6, []), (9, 6, []), (9, 5, []), (2, 0, [81, 82, 83, 84, 0, 0]), (9, 6, []), (9, 6, []), (9, 6, []), (9, 5, []), (2, 0, [86, 87, 88, 89, 0, 0]), (9, 6, []), (9, 6, []), (9, 6, []), (9, 5, []), (2, 0, [91, 92, 93, 94, 0, 0]), (9, 6, []), (9, 6, []), (9, 6, []), (9, 5, []), (2, 0, [96, 97, 98, 99, 0, 0]), (9, 6, []), (9, 6, []), (9, 6, []), (9, 5, []), (2, 0, [101, 102, 103, 104, 0, 0]), (9, 6, []), (9, 6, []), (9, 6, []), (9, 5, []), (2, 0, [106, 107, 108, 109, 0, 0]), (9, 6, []), (9, 6, []), (9, 6, []), (9, 5, []), (2, 0, [111, 112, 113, 114, 0, 0]), (9, 6, []), (9, 6, []), (9, 6, []), (9, 5, []), (2, 0, [116, 117, 118, 119, 0, 0]), (9, 6, []), (9, 6, []), (9, 6, []), (9, 5, []), (2, 0, [121, 122, 123, 124, 0, 0]), (9, 6, []), (9, 6, []), (9, 6, []), (9, 5, []), (2, 0, [126, 127, 128, 129, 0, 0]), (9, 6, []), (9, 6, []), (9, 6, []), (9, 5, []), (2, 0, [131, 132, 133, 134, 0, 0]), (9, 6, []), (9, 6, []), (9, 6, []), (9, 5, []), (2, 0, [136, 137, 138, 139, 0, 0]), (9, 6, []), (9, 6, []), (9, 6, []), (9, 5, []), (2, 0, [141, 142, 143, 144, 0, 0]), (9, 6, []), (9, 6, []), (9, 6, []), (9, 5, []), (2, 0, [146, 147, 148, 149, 0, 0]), (9, 6, []), (9, 6, []), (9, 6, []), (9, 5, [])]
theorem E29_eq : fm E28 39 2 = E29 := by decide +kernel
theorem lpD_155 : lpD 3 0 E26 39 = E29 := by
  show lpD 2 1 (fm E26 39 0) 39 = _
  rw [E27_eq]
  show lpD 1 2 (fm E27 39 1) 39 = _
  rw [E28_eq]
  show lpD 0 3 (fm E28 39 2) 39 = _
  rw [E29_eq]
  rfl
set_option maxRecDepth 20000 in
theorem sX6_init {l : Launch} {X : Nat × (Nat → Int32)} {d : Nat} {kr : KR} (h : kr none (mkD E29 (14 + 1873) I00)) : Ev l X uX6_init (d + 2) false 148 1873 [.ref 1] (mkD E0 14 I00) kr := by
  refine Ev.of (by decide) (Nat.le_of_ble_eq_true rfl) ?_
  show Wf l X uX6_init (d + 2) false (1 + 148, 14 + 1873) 0 [(0, .ref 1)] [] (mkD E0 14 I00) kr
  refine ch_oi (c := 6) (N := 14) (tkX6_init (d := d + 1) (b := (1 + 148, 14 + 1873)) (0, oAl 0 1 0) (List.mem_of_getElem? (i := 0) rfl)) (tkX6_init (d := d + 1) (b := (1 + 148, 14 + 1873)) (1, oOi 1) (List.mem_of_getElem? (i := 1) rfl)) rfl rfl (by unfold slf; decide +kernel) rfl ?_
  refine ch_new (D := E0) (D2 := cX4 (dA E0 4 0 15) (E0.length + 1)) (s := 14) (s2 := 974) (c := 6) (N := 14) (tkX6_init (d := d + 1) (b := (1 + 148, 14 + 1873)) (4, oAl 4 1 0) (List.mem_of_getElem? (i := 2) rfl)) (tkX6_init (d := d + 1) (b := (1 + 148, 14 + 1873)) (5, oNew (1 + 148, 14 + 1873) 5 4 15) (List.mem_of_getElem? (i := 3) rfl)) (tkX6_init (d := d + 1) (b := (1 + 148, 14 + 1873)) (8, oDup 8) (List.mem_of_getElem? (i := 4) rfl)) (tkX6_init (d := d + 1) (b := (1 + 148, 14 + 1873)) (9, oCi l X (d + 1) (1 + 148, 14 + 1873) 9 uX4_init 4 4 945) (List.mem_of_getElem? (i := 5) rfl)) (tkX6_init (d := d + 1) (b := (1 + 148, 14 + 1873)) (12, oPR 12 6 0) (List.mem_of_getElem? (i := 6) rfl)) rfl rfl rfl rfl rfl (by unfold slf; decide +kernel) (by decide) rfl (by decide +kernel) (fun kr' h => sX4_init slf_new (by decide +kernel) h) kps_4 (by decide +kernel) (by decide) (by decide +kernel) (by decide +kernel) ?_
  rw [E1_eq]
  refine ch_new (D := E1) (D2 := cX3 (dA E1 3 0 20) (E1.length + 1)) (s := 974) (s2 := 1055) (c := 6) (N := 14) (tkX6_init (d := d + 1) (b := (1 + 148, 14 + 1873)) (15, oAl 15 1 0) (List.mem_of_getElem? (i := 7) rfl)) (tkX6_init (d := d + 1) (b := (1 + 148, 14 + 1873)) (16, oNew (1 + 148, 14 + 1873) 16 3 20) (List.mem_of_getElem? (i := 8) rfl)) (tkX6_init (d := d + 1) (b := (1 + 148, 14 + 1873)) (19, oDup 19) (List.mem_of_getElem? (i := 9) rfl)) (tkX6_init (d := d + 1) (b := (1 + 148, 14 + 1873)) (20, oCi l X (d + 1) (1 + 148, 14 + 1873) 20 uX3_init 3 12 61) (List.mem_of_getElem? (i := 10) rfl)) (tkX6_init (d := d + 1) (b := (1 + 148, 14 + 1873)) (23, oPR 23 6 1) (List.mem_of_getElem? (i := 11) rfl)) rfl rfl rfl rfl rfl (by unfold slf; decide +kernel) (by decide) rfl (by decide +kernel) (fun kr' h => sX3_init slf_new (by decide +kernel) h) kps_3 (by decide +kernel) (by decide) (by decide +kernel) (by decide +kernel) ?_
  rw [E2_eq]
  refine ch_new (D := E2) (D2 := cX3 (dA E2 3 0 20) (E2.length + 1)) (s := 1055) (s2 := 1136) (c := 6) (N := 14) (tkX6_init (d := d + 1) (b := (1 + 148, 14 + 1873)) (26, oAl 26 1 0) (List.mem_of_getElem? (i := 12) rfl)) (tkX6_init (d := d + 1) (b := (1 + 148, 14 + 1873)) (27, oNew (1 + 148, 14 + 1873) 27 3 20) (List.mem_of_getElem? (i := 13) rfl)) (tkX6_init (d := d + 1) (b := (1 + 148, 14 + 1873)) (30, oDup 30) (List.mem_of_getElem? (i := 14) rfl)) (tkX6_init (d := d + 1) (b := (1 + 148, 14 + 1873)) (31, oCi l X (d + 1) (1 + 148, 14 + 1873) 31 uX3_init 3 12 61) (List.mem_of_getElem? (i := 15) rfl)) (tkX6_init (d := d + 1) (b := (1 + 148, 14 + 1873)) (34, oPR 34 6 2) (List.mem_of_getElem? (i := 16) rfl)) rfl rfl rfl rfl rfl (by unfold slf; decide +kernel) (by decide) rfl (by decide +kernel) (fun kr' h => sX3_init slf_new (by decide +kernel) h) kps_3 (by decide +kernel) (by decide) (by decide +kernel) (by decide +kernel) ?_
  rw [E3_eq]
  refine ch_new (D := E3) (D2 := cX2 (dA E3 2 0 6) (E3.length + 1)) (s := 1136) (s2 := 1165) (c := 6) (N := 14) (tkX6_init (d := d + 1) (b := (1 + 148, 14 + 1873)) (37, oAl 37 1 0) (List.mem_of_getElem? (i := 17) rfl)) (tkX6_init (d := d + 1) (b := (1 + 148, 14 + 1873)) (38, oNew (1 + 148, 14 + 1873) 38 2 6) (List.mem_of_getElem? (i := 18) rfl)) (tkX6_init (d := d + 1) (b := (1 + 148, 14 + 1873)) (41, oDup 41) (List.mem_of_getElem? (i := 19) rfl)) (tkX6_init (d := d + 1) (b := (1 + 148, 14 + 1873)) (42, oCi l X (d + 1) (1 + 148, 14 + 1873) 42 uX2_init 2 4 23) (List.mem_of_getElem? (i := 20) rfl)) (tkX6_init (d := d + 1) (b := (1 + 148, 14 + 1873)) (45, oPR 45 6 3) (List.mem_of_getElem? (i := 21) rfl)) rfl rfl rfl rfl rfl (by unfold slf; decide +kernel) (by decide) rfl (by decide +kernel) (fun kr' h => sX2_init slf_new (by decide +kernel) h) kps_2 (by decide +kernel) (by decide) (by decide +kernel) (by decide +kernel) ?_
  rw [E4_eq]
  refine ch_mar (D := E4) (s := 1165) (c := 6) (N := 14) (tkX6_init (d := d + 1) (b := (1 + 148, 14 + 1873)) (48, oAl 48 1 0) (List.mem_of_getElem? (i := 22) rfl)) (tkX6_init (d := d + 1) (b := (1 + 148, 14 + 1873)) (49, oIc 49 2 16) (List.mem_of_getElem? (i := 23) rfl)) (tkX6_init (d := d + 1) (b := (1 + 148, 14 + 1873)) (51, oNq (1 + 148, 14 + 1873) 51 16 16) (List.mem_of_getElem? (i := 24) rfl)) (tkX6_init (d := d + 1) (b := (1 + 148, 14 + 1873)) (54, oPR 54 6 4) (List.mem_of_getElem? (i := 25) rfl)) rfl rfl rfl rfl (by unfold slf; decide +kernel) (by decide) rfl (by decide +kernel) (by decide +kernel) (by decide +kernel) ?_
  rw [E5_eq]
  show Wf l X uX6_init (d + 2) false (1 + 148, 14 + 1873) 57 [(0, .ref 1)] [] (mkD E5 1181 I00) kr
  refine ch_i0 (D := E5) (s := 1181) (c := 6) (N := 14) (tkX6_init (d := d + 1) (b := (1 + 148, 14 + 1873)) (57, oAl 57 1 0) (List.mem_of_getElem? (i := 26) rfl)) (tkX6_init (d := d + 1) (b := (1 + 148, 14 + 1873)) (58, oIc 58 1 0) (List.mem_of_getElem? (i := 27) rfl)) (tkX6_init (d := d + 1) (b := (1 + 148, 14 + 1873)) (59, oPI 59 6 5) (List.mem_of_getElem? (i := 28) rfl)) rfl rfl rfl (by unfold slf; decide +kernel) rfl ?_
  refine ch_i0 (D := E5) (s := 1181) (c := 6) (N := 14) (tkX6_init (d := d + 1) (b := (1 + 148, 14 + 1873)) (62, oAl 62 1 0) (List.mem_of_getElem? (i := 29) rfl)) (tkX6_init (d := d + 1) (b := (1 + 148, 14 + 1873)) (63, oIc 63 1 0) (List.mem_of_getElem? (i := 30) rfl)) (tkX6_init (d := d + 1) (b := (1 + 148, 14 + 1873)) (64, oPI 64 6 6) (List.mem_of_getElem? (i := 31) rfl)) rfl rfl rfl (by unfold slf; decide +kernel) rfl ?_
  refine ch_mar (D := E5) (s := 1181) (c := 6) (N := 14) (tkX6_init (d := d + 1) (b := (1 + 148, 14 + 1873)) (67, oAl 67 1 0) (List.mem_of_getElem? (i := 32) rfl)) (tkX6_init (d := d + 1) (b := (1 + 148, 14 + 1873)) (68, oIc 68 1 3) (List.mem_of_getElem? (i := 33) rfl)) (tkX6_init (d := d + 1) (b := (1 + 148, 14 + 1873)) (69, oNq (1 + 148, 14 + 1873) 69 3 3) (List.mem_of_getElem? (i := 34) rfl)) (tkX6_init (d := d + 1) (b := (1 + 148, 14 + 1873)) (72, oPR 72 6 7) (List.mem_of_getElem? (i := 35) rfl)) rfl rfl rfl rfl (by unfold slf; decide +kernel) (by decide) rfl (by decide +kernel) (by decide +kernel) (by decide +kernel) ?_
  rw [E6_eq]
  show Wf l X uX6_init (d + 2) false (1 + 148, 14 + 1873) 75 [(0, .ref 1)] [] (mkD E6 1184 I00) kr
  refine ch_i0 (D := E6) (s := 1184) (c := 6) (N := 14) (tkX6_init (d := d + 1) (b := (1 + 148, 14 + 1873)) (75, oAl 75 1 0) (List.mem_of_getElem? (i := 36) rfl)) (tkX6_init (d := d + 1) (b := (1 + 148, 14 + 1873)) (76, oIc 76 1 0) (List.mem_of_getElem? (i := 37) rfl)) (tkX6_init (d := d + 1) (b := (1 + 148, 14 + 1873)) (77, oPI 77 6 8) (List.mem_of_getElem? (i := 38) rfl)) rfl rfl rfl (by unfold slf; decide +kernel) rfl ?_
  refine ch_new (D := E6) (D2 := cX0 (dA E6 0 0 8) (E6.length + 1)) (s := 1184) (s2 := 1192) (c := 6) (N := 14) (tkX6_init (d := d + 1) (b := (1 + 148, 14 + 1873)) (80, oAl 80 1 0) (List.mem_of_getElem? (i := 39) rfl)) (tkX6_init (d := d + 1) (b := (1 + 148, 14 + 1873)) (81, oNew (1 + 148, 14 + 1873) 81 0 8) (List.mem_of_getElem? (i := 40) rfl)) (tkX6_init (d := d + 1) (b := (1 + 148, 14 + 1873)) (84, oDup 84) (List.mem_of_getElem? (i := 41) rfl)) (tkX6_init (d := d + 1) (b := (1 + 148, 14 + 1873)) (85, oCi l X (d + 1) (1 + 148, 14 + 1873) 85 uX0_init 0 0 0) (List.mem_of_getElem? (i := 42) rfl)) (tkX6_init (d := d + 1) (b := (1 + 148, 14 + 1873)) (88, oPR 88 6 9) (List.mem_of_getElem? (i := 43) rfl)) rfl rfl rfl rfl rfl (by unfold slf; decide +kernel) (by decide) rfl (by decide +kernel) (fun kr' h => sX0_init slf_new (by decide +kernel) h) kps_0 (by decide +kernel) (by decide) (by decide +kernel) (by decide +kernel) ?_
  rw [E7_eq]
  refine ch_new (D := E7) (D2 := cX5 (dA E7 5 0 2) (E7.length + 1)) (s := 1192) (s2 := 1214) (c := 6) (N := 14) (tkX6_init (d := d + 1) (b := (1 + 148, 14 + 1873)) (91, oAl 91 1 0) (List.mem_of_getElem? (i := 44) rfl)) (tkX6_init (d := d + 1) (b := (1 + 148, 14 + 1873)) (92, oNew (1 + 148, 14 + 1873) 92 5 2) (List.mem_of_getElem? (i := 45) rfl)) (tkX6_init (d := d + 1) (b := (1 + 148, 14 + 1873)) (95, oDup 95) (List.mem_of_getElem? (i := 46) rfl)) (tkX6_init (d := d + 1) (b := (1 + 148, 14 + 1873)) (96, oCi l X (d + 1) (1 + 148, 14 + 1873) 96 uX5_init 5 1 20) (List.mem_of_getElem? (i := 47) rfl)) (tkX6_init (d := d + 1) (b := (1 + 148, 14 + 1873)) (99, oPR 99 6 10) (List.mem_of_getElem? (i := 48) rfl)) rfl rfl rfl rfl rfl (by unfold slf; decide +kernel) (by decide) rfl (by decide +kernel) (fun kr' h => sX5_init slf_new (by decide +kernel) h) kps_5 (by decide +kernel) (by decide) (by decide +kernel) (by decide +kernel) ?_
  rw [E8_eq]
  refine ch_new (D := E8) (D2 := cX1 (dA E8 1 0 9) (E8.length + 1)) (s := 1214) (s2 := 1275) (c := 6) (N := 14) (tkX6_init (d := d + 1) (b := (1 + 148, 14 + 1873)) (102, oAl 102 1 0) (List.mem_of_getElem? (i := 49) rfl)) (tkX6_init (d := d + 1) (b := (1 + 148, 14 + 1873)) (103, oNew (1 + 148, 14 + 1873) 103 1 9) (List.mem_of_getElem? (i := 50) rfl)) (tkX6_init (d := d + 1) (b := (1 + 148, 14 + 1873)) (106, oDup 106) (List.mem_of_getElem? (i := 51) rfl)) (tkX6_init (d := d + 1) (b := (1 + 148, 14 + 1873)) (107, oCi l X (d + 1) (1 + 148, 14 + 1873) 107 uX1_init 1 10 52) (List.mem_of_getElem? (i := 52) rfl)) (tkX6_init (d := d + 1) (b := (1 + 148, 14 + 1873)) (110, oPR 110 6 11) (List.mem_of_getElem? (i := 53) rfl)) rfl rfl rfl rfl rfl (by unfold slf; decide +kernel) (by decide) rfl (by decide +kernel) (fun kr' h => sX1_init slf_new (by decide +kernel) h) kps_1 (by decide +kernel) (by decide) (by decide +kernel) (by decide +kernel) ?_
  rw [E9_eq]
  refine ch_arr (D := E9) (s := 1275) (c := 6) (N := 14) (tkX6_init (d := d + 1) (b := (1 + 148, 14 + 1873)) (113, oAl 113 1 0) (List.mem_of_getElem? (i := 54) rfl)) (tkX6_init (d := d + 1) (b := (1 + 148, 14 + 1873)) (114, oIc 114 2 61) (List.mem_of_getElem? (i := 55) rfl)) (tkX6_init (d := d + 1) (b := (1 + 148, 14 + 1873)) (116, oNa (1 + 148, 14 + 1873) 116 9 61 61) (List.mem_of_getElem? (i := 56) rfl)) (tkX6_init (d := d + 1) (b := (1 + 148, 14 + 1873)) (118, oPR 118 6 12) (List.mem_of_getElem? (i := 57) rfl)) rfl rfl rfl rfl (fun _ => rfl) (by unfold slf; decide +kernel) (by decide) rfl (by decide +kernel) (by decide +kernel) (by decide +kernel) ?_
  rw [E10_eq]
  show Wf l X uX6_init (d + 2) false (1 + 148, 14 + 1873) 121 [(0, .ref 1)] [] (mkD E10 1336 I00) kr
  refine ch_i0 (D := E10) (s := 1336) (c := 6) (N := 14) (tkX6_init (d := d + 1) (b := (1 + 148, 14 + 1873)) (121, oAl 121 1 0) (List.mem_of_getElem? (i := 58) rfl)) (tkX6_init (d := d + 1) (b := (1 + 148, 14 + 1873)) (122, oIc 122 1 0) (List.mem_of_getElem? (i := 59) rfl)) (tkX6_init (d := d + 1) (b := (1 + 148, 14 + 1873)) (123, oPI 123 6 13) (List.mem_of_getElem? (i := 60) rfl)) rfl rfl rfl (by unfold slf; decide +kernel) rfl ?_
  refine OK.go (tkX6_init (d := d + 1) (b := (1 + 148, 14 + 1873)) (126, oIc 126 1 0) (List.mem_of_getElem? (i := 61) rfl)) ?_
  refine OK.go (tkX6_init (d := d + 1) (b := (1 + 148, 14 + 1873)) (127, oIs 127 1 1) (List.mem_of_getElem? (i := 62) rfl)) ?_
  show Wf l X uX6_init (d + 2) false (1 + 148, 14 + 1873) 128 [(0, .ref 1), (1, .int (nI 0))] [] (mkD E10 1336 I00) kr
  refine lp_mom (a := 1) (K := 38) (N := 14) (E := 16) (f := 4) (d := d) (tkX6_init (d := d + 1) (b := (1 + 148, 14 + 1873)) (128, oIl 128 1 1) (List.mem_of_getElem? (i := 63) rfl)) (tkX6_init (d := d + 1) (b := (1 + 148, 14 + 1873)) (129, oIc 129 2 16) (List.mem_of_getElem? (i := 64) rfl)) (tkX6_init (d := d + 1) (b := (1 + 148, 14 + 1873)) (131, oCm 131 153 (fun x y => y ≤ x) (fun x y => ¬ y ≤ x)) (List.mem_of_getElem? (i := 65) rfl)) (tkX6_init (d := d + 1) (b := (1 + 148, 14 + 1873)) (134, oAl 134 1 0) (List.mem_of_getElem? (i := 66) rfl)) (tkX6_init (d := d + 1) (b := (1 + 148, 14 + 1873)) (135, oG 135 6 4 2) (List.mem_of_getElem? (i := 67) rfl)) (tkX6_init (d := d + 1) (b := (1 + 148, 14 + 1873)) (138, oIl 138 1 1) (List.mem_of_getElem? (i := 68) rfl)) (tkX6_init (d := d + 1) (b := (1 + 148, 14 + 1873)) (139, oNew (1 + 148, 14 + 1873) 139 2 6) (List.mem_of_getElem? (i := 69) rfl)) (tkX6_init (d := d + 1) (b := (1 + 148, 14 + 1873)) (142, oDup 142) (List.mem_of_getElem? (i := 70) rfl)) (tkX6_init (d := d + 1) (b := (1 + 148, 14 + 1873)) (143, oCi l X (d + 1) (1 + 148, 14 + 1873) 143 uX2_init 2 4 23) (List.mem_of_getElem? (i := 71) rfl)) (tkX6_init (d := d + 1) (b := (1 + 148, 14 + 1873)) (146, oAas 146) (List.mem_of_getElem? (i := 72) rfl)) (tkX6_init (d := d + 1) (b := (1 + 148, 14 + 1873)) (147, oInc 147 1 1) (List.mem_of_getElem? (i := 73) rfl)) (tkX6_init (d := d + 1) (b := (1 + 148, 14 + 1873)) (150, oGo 128) (List.mem_of_getElem? (i := 74) rfl)) rfl rfl rfl rfl rfl rfl rfl rfl rfl rfl rfl (by decide) (by decide) 16 0 E10 1336 rfl (by unfold slf; decide +kernel) (by unfold sl4; decide +kernel) (by decide +kernel) (by decide +kernel) (by decide +kernel) (by decide +kernel) ?_
  rw [lpD_128]
  show Wf l X uX6_init (d + 2) false (1 + 148, 14 + 1873) 153 [(0, .ref 1), (1, .int (nI 16))] [] (mkD E26 1800 I00) kr
  refine OK.go (tkX6_init (d := d + 1) (b := (1 + 148, 14 + 1873)) (153, oIc 153 1 0) (List.mem_of_getElem? (i := 75) rfl)) ?_
  refine OK.go (tkX6_init (d := d + 1) (b := (1 + 148, 14 + 1873)) (154, oIs 154 1 1) (List.mem_of_getElem? (i := 76) rfl)) ?_
  show Wf l X uX6_init (d + 2) false (1 + 148, 14 + 1873) 155 [(0, .ref 1), (1, .int (nI 0))] [] (mkD E26 1800 I00) kr
  refine lp_mom (a := 1) (K := 39) (N := 14) (E := 3) (f := 7) (d := d) (tkX6_init (d := d + 1) (b := (1 + 148, 14 + 1873)) (155, oIl 155 1 1) (List.mem_of_getElem? (i := 77) rfl)) (tkX6_init (d := d + 1) (b := (1 + 148, 14 + 1873)) (156, oIc 156 1 3) (List.mem_of_getElem? (i := 78) rfl)) (tkX6_init (d := d + 1) (b := (1 + 148, 14 + 1873)) (157, oCm 157 179 (fun x y => y ≤ x) (fun x y => ¬ y ≤ x)) (List.mem_of_getElem? (i := 79) rfl)) (tkX6_init (d := d + 1) (b := (1 + 148, 14 + 1873)) (160, oAl 160 1 0) (List.mem_of_getElem? (i := 80) rfl)) (tkX6_init (d := d + 1) (b := (1 + 148, 14 + 1873)) (161, oG 161 6 7 2) (List.mem_of_getElem? (i := 81) rfl)) (tkX6_init (d := d + 1) (b := (1 + 148, 14 + 1873)) (164, oIl 164 1 1) (List.mem_of_getElem? (i := 82) rfl)) (tkX6_init (d := d + 1) (b := (1 + 148, 14 + 1873)) (165, oNew (1 + 148, 14 + 1873) 165 2 6) (List.mem_of_getElem? (i := 83) rfl)) (tkX6_init (d := d + 1) (b := (1 + 148, 14 + 1873)) (168, oDup 168) (List.mem_of_getElem? (i := 84) rfl)) (tkX6_init (d := d + 1) (b := (1 + 148, 14 + 1873)) (169, oCi l X (d + 1) (1 + 148, 14 + 1873) 169 uX2_init 2 4 23) (List.mem_of_getElem? (i := 85) rfl)) (tkX6_init (d := d + 1) (b := (1 + 148, 14 + 1873)) (172, oAas 172) (List.mem_of_getElem? (i := 86) rfl)) (tkX6_init (d := d + 1) (b := (1 + 148, 14 + 1873)) (173, oInc 173 1 1) (List.mem_of_getElem? (i := 87) rfl)) (tkX6_init (d := d + 1) (b := (1 + 148, 14 + 1873)) (176, oGo 155) (List.mem_of_getElem? (i := 88) rfl)) rfl rfl rfl rfl rfl rfl rfl rfl rfl rfl rfl (by decide) (by decide) 3 0 E26 1800 rfl (by unfold slf; decide +kernel) (by unfold sl4; decide +kernel) (by decide +kernel) (by decide +kernel) (by decide +kernel) (by decide +kernel) ?_
  rw [lpD_155]
  show Wf l X uX6_init (d + 2) false (1 + 148, 14 + 1873) 179 [(0, .ref 1), (1, .int (nI 3))] [] (mkD E29 1887 I00) kr
  refine OK.go (tkX6_init (d := d + 1) (b := (1 + 148, 14 + 1873)) (179, oVr) (List.mem_of_getElem? (i := 89) rfl)) ?_
  exact h
def G0 : Dl := [(6, 0, [2, 7, 20, 33, 38, 0, 0, 39, 0, 40, 41, 43, 54, 0]), (4, 0, [3, 0, 0, 0, 0, 0, 0, 0, 0, 4, 5, 6, 0, 0, 0]), (8, 900, []), (10, 15, []), (9, 15, []), (9, 15, []), (3, 0, [0, 0, 0, 0, 0, 8, 9, 10, 11, 12, 0, 13, 14, 15, 0, 16, 17, 0, 18, 19]), (9, 6, []), (9, 6, []), (9, 6, []), (9, 6, []), (9, 6, []), (9, 5, []), (9, 5, []), (9, 5, []), (9, 4, []), (9, 4, []), (9, 4, []), (9, 4, []), (3, 0, [0, 0, 0, 0, 0, 21, 22, 23, 24, 25, 0, 26, 27, 28, 0, 29, 30, 0, 31, 32]), (9, 6, []), (9, 6, []), (9, 6, []), (9, 6, []), (9, 6, []), (9, 5, []), (9, 5, []), (9, 5, []), (9, 4, []), (9, 4, []), (9, 4, []), (9, 4, []), (2, 0, [34, 35, 36, 37, 0, 0]), (9, 6, []), (9, 6, []), (9, 6, []), (9, 5, []), (11, 16, [55, 60, 65, 70, 75, 80, 85, 90, 95, 100, 105, 110, 115, 120, 125, 130]), (11, 3, [135, 140, 145]), (0, 0, [0, 0, 0, 0, 0, 0, 0, 0]), (5, 0, [42, 0]), (9, 20, []), (1, 0, [44, 51, 52, 53, 0, 0, 0, 0, 0]), (12, 6, [45, 46, 47, 48, 49, 50]), (9, 5, []), (9, 5, []), (9, 5, []), (9, 5, []), (9, 5, []), (9, 5, []), (9, 6, []), (9, 5, []), (9, 5, []), (9, 61, []), (2, 0, [56, 57, 58, 59, 0, 0]), (9, 6, []), (9, 6, []), (9, 6, []), (9, 5, []), (2, 0, [61, 62, 63, 64, 0, 0]), (9, 6, []), (9, 6, []), (9, 6, []), (9, 5, []), (2, 0, [66, 67, 68, 69, 0, 0]), (9, 6, []), (9, 6, []), (9, 6, []), (9, 5, []), (2, 0, [71, 72, 73, 74, 0, 0]), (9, 6, []), (9, 6, []), (9, 6, []), (9, 5, []), (2, 0, [76, 77, 78, 79, 0, 0]), (9, 6, []), (9, 6, []), (9, 6, []), (9, 5, []), (2, 0, [81, 82, 83, 84, 0, 0]), (9, 6, []), (9, 6, []), (9, 6, []), (9, 5, []), (2, 0, [86, 87, 88, 89, 0, 0]), (9, 6, []), (9, 6, []), (9, 6, []), (9, 5, []), (2, 0, [91, 92, 93, 94, 0, 0]), (9, 6, []), (9, 6, []), (9, 6, []), (9, 5, []), (2, 0, [96, 97, 98, 99, 0, 0]), (9, 6, []), (9, 6, []), (9, 6, []), (9, 5, []), (2, 0, [101, 102, 103, 104, 0, 0]), (9, 6, []), (9, 6, []), (9, 6, []), (9, 5, []), (2, 0, [106, 107, 108, 109, 0, 0]), (9, 6, []), (9, 6, []), (9, 6, []), (9, 5, []), (2, 0, [111, 112, 113, 114, 0, 0]), (9, 6, []), (9, 6, []), (9, 6, []), (9, 5, []), (2, 0, [116, 117, 118, 119, 0, 0]), (9, 6, []), (9, 6, []), (9, 6, []), (9, 5, []), (2, 0, [121, 122, 123, 124, 0, 0]), (9, 6, []), (9, 6, []), (9, 6, []), (9, 5, []), (2, 0, [126, 127, 128, 129, 0, 0]), (9, 6, []), (9, 6, []), (9, 6, []), (9, 5, []), (2, 0, [131, 132, 133, 134, 0, 0]), (9, 6, []), (9, 6, []), (9, 6, []), (9, 5, []), (2, 0, [136, 137, 138, 139, 0, 0]), (9, 6, []), (9, 6, []), (9, 6, []), (9, 5, []), (2, 0, [141, 142, 143, 144, 0, 0]), (9, 6, []), (9, 6, []), (9, 6, []), (9, 5, []), (2, 0, [146, 147, 148, 149, 0, 0]), (9, 6, []), (9, 6, []), (9, 6, []), (9, 5, []), (7, 0, [0, 0, 0, 0, 0, 0, 0, 0, 0, 0, 0, 0, 0, 0, 0, 0, 0, 0, 0, 0, 0, 0, 0, 0, 0, 0, 0, 0, 0, 0, 0, 0, 0, 0, 0, 0, 0, 0, 0, 0, 0, 0, 0, 0])]
theorem G0_eq : dA E29 7 0 44 = G0 := by decide +kernel
def G1 : Dl := [(6, 0, [2, 7, 20, 33, 38, 0, 0, 39, 0, 40, 41, 43, 54, 0]), (4, 0, [3, 0, 0, 0, 0, 0, 0, 0, 0, 4, 5, 6, 0, 0, 0]), (8, 900, []), (10, 15, []), (9, 15, []), (9, 15, []), (3, 0, [0, 0, 0, 0, 0, 8, 9, 10, 11, 12, 0, 13, 14, 15, 0, 16, 17, 0, 18, 19]), (9, 6, []), (9, 6, []), (9, 6, []), (9, 6, []), (9, 6, []), (9, 5, []), (9, 5, []), (9, 5, []), (9, 4, []), (9, 4, []), (9, 4, []), (9, 4, []), (3, 0, [0, 0, 0, 0, 0, 21, 22, 23, 24, 25, 0, 26, 27, 28, 0, 29, 30, 0, 31, 32]), (9, 6, []), (9, 6, []), (9, 6, []), (9, 6, []), (9, 6, []), (9, 5, []), (9, 5, []), (9, 5, []), (9, 4, []), (9, 4, []), (9, 4, []), (9, 4, []), (2, 0, [34, 35, 36, 37, 0, 0]), (9, 6, []), (9, 6, []), (9, 6, []), (9, 5, []), (11, 16, [55, 60, 65, 70, 75, 80, 85, 90, 95, 100, 105, 110, 115, 120, 125, 130]), (11, 3, [135, 140, 145]), (0, 0, [0, 0, 0, 0, 0, 0, 0, 0]), (5, 0, [42, 0]), (9, 20, []), (1, 0, [44, 51, 52, 53, 0, 0, 0, 0, 0]), (12, 6, [45, 46, 47, 48, 49, 50]), (9, 5, []), (9, 5, []), (9, 5, []), (9, 5, []), (9, 5, []), (9, 5, []), (9, 6, []), (9, 5, []), (9, 5, []), (9, 61, []), (2, 0, [56, 57, 58, 59, 0, 0]), (9, 6, []), (9, 6, []), (9, 6, []), (9, 5, []), (2, 0, [61, 62, 63, 64, 0, 0]), (9, 6, []), (9, 6, []), (9, 6, []), (9, 5, []), (2, 0, [66, 67, 68, 69, 0, 0]), (9, 6, []), (9, 6, []), (9, 6, []), (9, 5, []), (2, 0, [71, 72, 73, 74, 0, 0]), (9, 6, []), (9, 6, []), (9, 6, []), (9, 5, []), (2, 0, [76, 77, 78, 79, 0, 0]), (9, 6, []), (9, 6, []), (9, 6, []), (9, 5, []), (2, 0, [81, 82, 83, 84, 0, 0]), (9, 6, []), (9, 6, []), (9, 6, []), (9, 5, []), (2, 0, [86, 87, 88, 89, 0, 0]), (9, 6, []), (9, 6, []), (9, 6, []), (9, 5, []), (2, 0, [91, 92, 93, 94, 0, 0]), (9, 6, []), (9, 6, []), (9, 6, []), (9, 5, []), (2, 0, [96, 97, 98, 99, 0, 0]), (9, 6, []), (9, 6, []), (9, 6, []), (9, 5, []), (2, 0, [101, 102, 103, 104, 0, 0]), (9, 6, []), (9, 6, []), (9, 6, []), (9, 5, []), (2, 0, [106, 107, 108, 109, 0, 0]), (9, 6, []), (9, 6, []), (9, 6, []), (9, 5, []), (2, 0, [111, 112, 113, 114, 0, 0]), (9, 6, []), (9, 6, []), (9, 6, []), (9, 5, []), (2, 0, [116, 117, 118, 119, 0, 0]), (9, 6, []), (9, 6, []), (9, 6, []), (9, 5, []), (2, 0, [121, 122, 123, 124, 0, 0]), (9, 6, []), (9, 6, []), (9, 6, []), (9, 5, []), (2, 0, [126, 127, 128, 129, 0, 0]), (9, 6, []), (9, 6, []), (9, 6, []), (9, 5, []), (2, 0, [131, 132, 133, 134, 0, 0]), (9, 6, []), (9, 6, []), (9, 6, []), (9, 5, []), (2, 0, [136, 137, 138, 139, 0, 0]), (9, 6, []), (9, 6, []), (9, 6, []), (9, 5, []), (2, 0, [141, 142, 143, 144, 0, 0]), (9, 6, []), (9, 6, []), (9, 6, []), (9, 5, []), (2, 0, [146, 147, 148, 149, 0, 0]), (9, 6, []), (9, 6, []), (9, 6, []), (9, 5, []), (7, 0, [0, 151, 0, 0, 0, 0, 0, 0, 0, 0, 0, 0, 0, 0, 0, 0, 0, 0, 0, 0, 0, 0, 0, 0, 0, 0, 0, 0, 0, 0, 0, 0, 0, 0, 0, 0, 0, 0, 0, 0, 0, 0, 0, 0]), (9, 900, [])]
theorem G1_eq : fa G0 150 9 900 1 = G1 := by decide +kernel
def G2 : Dl := [(6, 0, [2, 7, 20, 33, 38, 0, 0, 39, 0, 40, 41, 43, 54, 0]), (4, 0, [3, 0, 0, 0, 0, 0, 0, 0, 0, 4, 5, 6, 0, 0, 0]), (8, 900, []), (10, 15, []), (9, 15, []), (9, 15, []), (3, 0, [0, 0, 0, 0, 0, 8, 9, 10, 11, 12, 0, 13, 14, 15, 0, 16, 17, 0, 18, 19]), (9, 6, []), (9, 6, []), (9, 6, []), (9, 6, []), (9, 6, []), (9, 5, []), (9, 5, []), (9, 5, []), (9, 4, []), (9, 4, []), (9, 4, []), (9, 4, []), (3, 0, [0, 0, 0, 0, 0, 21, 22, 23, 24, 25, 0, 26, 27, 28, 0, 29, 30, 0, 31, 32]), (9, 6, []), (9, 6, []), (9, 6, []), (9, 6, []), (9, 6, []), (9, 5, []), (9, 5, []), (9, 5, []), (9, 4, []), (9, 4, []), (9, 4, []), (9, 4, []), (2, 0, [34, 35, 36, 37, 0, 0]), (9, 6, []), (9, 6, []), (9, 6, []), (9, 5, []), (11, 16, [55, 60, 65, 70, 75, 80, 85, 90, 95, 100, 105, 110, 115, 120, 125, 130]), (11, 3, [135, 140, 145]), (0, 0, [0, 0, 0, 0, 0, 0, 0, 0]), (5, 0, [42, 0]), (9, 20, []), (1, 0, [44, 51, 52, 53, 0, 0, 0, 0, 0]), (12, 6, [45, 46, 47, 48, 49, 50]), (9, 5, []), (9, 5, []), (9, 5, []), (9, 5, []), (9, 5, []), (9, 5, []), (9, 6, []), (9, 5, []), (9, 5, []), (9, 61, []), (2, 0, [56, 57, 58, 59, 0, 0]), (9, 6, []), (9, 6, []), (9, 6, []), (9, 5, []), (2, 0, [61, 62, 63, 64, 0, 0]), (9, 6, []), (9, 6, []), (9, 6, []), (9, 5, []), (2, 0, [66, 67, 68, 69, 0, 0]), (9, 6, []), (9, 6, []), (9, 6, []), (9, 5, []), (2, 0, [71, 72, 73, 74, 0, 0]), (9, 6, []), (9, 6, []), (9, 6, []), (9, 5, []), (2, 0, [76, 77, 78, 79, 0, 0]), (9, 6, []), (9, 6, []), (9, 6, []), (9, 5, []), (2, 0, [81, 82, 83, 84, 0, 0]), (9, 6, []), (9, 6, []), (9, 6, []), (9, 5, []), (2, 0, [86, 87, 88, 89, 0, 0]), (9, 6, []), (9, 6, []), (9, 6, []), (9, 5, []), (2, 0, [91, 92, 93, 94, 0, 0]), (9, 6, []), (9, 6, []), (9, 6, []), (9, 5, []), (2, 0, [96, 97, 98, 99, 0, 0]), (9, 6, []), (9, 6, []), (9, 6, []), (9, 5, []), (2, 0, [101, 102, 103, 104, 0, 0]), (9, 6, []), (9, 6, []), (9, 6, []), (9, 5, []), (2, 0, [106, 107, 108, 109, 0, 0]), (9, 6, []), (9, 6, []), (9, 6, []), (9, 5, []), (2, 0, [111, 112, 113, 114, 0, 0]), (9, 6, []), (9, 6, []), (9, 6, []), (9, 5, []), (2, 0, [116, 117, 118, 119, 0, 0]), (9, 6, []), (9, 6, []), (9, 6, []), (9, 5, []), (2, 0, [121, 122, 123, 124, 0, 0]), (9, 6, []), (9, 6, []), (9, 6, []), (9, 5, []), (2, 0, [126, 127, 128, 129, 0, 0]), (9, 6, []), (9, 6, []), (9, 6, []), (9, 5, []), (2, 0, [131, 132, 133, 134, 0, 0]), (9, 6, []), (9, 6, []), (9, 6, []), (9, 5, []), (2, 0, [136, 137, 138, 139, 0, 0]), (9, 6, []), (9, 6, []), (9, 6, []), (9, 5, []), (2, 0, [141, 142, 143, 144, 0, 0]), (9, 6, []), (9, 6, []), (9, 6, []), (9, 5, []), (2, 0, [146, 147, 148, 149, 0, 0]), (9, 6, []), (9, 6, []), (9, 6, []), (9, 5, []), (7, 0, [0, 151, 0, 0, 0, 0, 0, 0, 0, 0, 0, 0, 152, 0, 0, 0, 0, 0, 0, 0, 0, 0, 0, 0, 0, 0, 0, 0, 0, 0, 0, 0, 0, 0, 0, 0, 0, 0, 0, 0, 0, 0, 0, 0]), (9, 900, []), (9, 8, [])]
theorem G2_eq : fa G1 150 9 8 12 = G2 := by decide +kernel
def G3 : Dl := [(6, 0, [2, 7, 20, 33, 38, 0, 0, 39, 0, 40, 41, 43, 54, 0]), (4, 0, [3, 0, 0, 0, 0, 0, 0, 0, 0, 4, 5, 6, 0, 0, 0]), (8, 900, []), (10, 15, []), (9, 15, []), (9, 15, []), (3, 0, [0, 0, 0, 0, 0, 8, 9, 10, 11, 12, 0, 13, 14, 15, 0, 16, 17, 0, 18, 19]), (9, 6, []), (9, 6, []), (9, 6, []), (9, 6, []), (9, 6, []), (9, 5, []), (9, 5, []), (9, 5, []), (9, 4, []), (9, 4, []), (9, 4, []), (9, 4, []), (3, 0, [0, 0, 0, 0, 0, 21, 22, 23, 24, 25, 0, 26, 27, 28, 0, 29, 30, 0, 31, 32]), (9, 6, []), (9, 6, []), (9, 6, []), (9, 6, []), (9, 6, []), (9, 5, []), (9, 5, []), (9, 5, []), (9, 4, []), (9, 4, []), (9, 4, []), (9, 4, []), (2, 0, [34, 35, 36, 37, 0, 0]), (9, 6, []), (9, 6, []), (9, 6, []), (9, 5, []), (11, 16, [55, 60, 65, 70, 75, 80, 85, 90, 95, 100, 105, 110, 115, 120, 125, 130]), (11, 3, [135, 140, 145]), (0, 0, [0, 0, 0, 0, 0, 0, 0, 0]), (5, 0, [42, 0]), (9, 20, []), (1, 0, [44, 51, 52, 53, 0, 0, 0, 0, 0]), (12, 6, [45, 46, 47, 48, 49, 50]), (9, 5, []), (9, 5, []), (9, 5, []), (9, 5, []), (9, 5, []), (9, 5, []), (9, 6, []), (9, 5, []), (9, 5, []), (9, 61, []), (2, 0, [56, 57, 58, 59, 0, 0]), (9, 6, []), (9, 6, []), (9, 6, []), (9, 5, []), (2, 0, [61, 62, 63, 64, 0, 0]), (9, 6, []), (9, 6, []), (9, 6, []), (9, 5, []), (2, 0, [66, 67, 68, 69, 0, 0]), (9, 6, []), (9, 6, []), (9, 6, []), (9, 5, []), (2, 0, [71, 72, 73, 74, 0, 0]), (9, 6, []), (9, 6, []), (9, 6, []), (9, 5, []), (2, 0, [76, 77, 78, 79, 0, 0]), (9, 6, []), (9, 6, []), (9, 6, []), (9, 5, []), (2, 0, [81, 82, 83, 84, 0, 0]), (9, 6, []), (9, 6, []), (9, 6, []), (9, 5, []), (2, 0, [86, 87, 88, 89, 0, 0]), (9, 6, []), (9, 6, []), (9, 6, []), (9, 5, []), (2, 0, [91, 92, 93, 94, 0, 0]), (9, 6, []), (9, 6, []), (9, 6, []), (9, 5, []), (2, 0, [96, 97, 98, 99, 0, 0]), (9, 6, []), (9, 6, []), (9, 6, []), (9, 5, []), (2, 0, [101, 102, 103, 104, 0, 0]), (9, 6, []), (9, 6, []), (9, 6, []), (9, 5, []), (2, 0, [106, 107, 108, 109, 0, 0]), (9, 6, []), (9, 6, []), (9, 6, []), (9, 5, []), (2, 0, [111, 112, 113, 114, 0, 0]), (9, 6, []), (9, 6, []), (9, 6, []), (9, 5, []), (2, 0, [116, 117, 118, 119, 0, 0]), (9, 6, []), (9, 6, []), (9, 6, []), (9, 5, []), (2, 0, [121, 122, 123, 124, 0, 0]), (9, 6, []), (9, 6, []), (9, 6, []), (9, 5, []), (2, 0, [126, 127, 128, 129, 0, 0]), (9, 6, []), (9, 6, []), (9, 6, []), (9, 5, []), (2, 0, [131, 132, 133, 134, 0, 0]), (9, 6, []), (9, 6, []), (9, 6, []), (9, 5, []), (2, 0, [136, 137, 138, 139, 0, 0]), (9, 6, []), (9, 6, []), (9, 6, []), (9, 5, []), (2, 0, [141, 142, 143, 144, 0, 0]), (9, 6, []), (9, 6, []), (9, 6, []), (9, 5, []), (2, 0, [146, 147, 148, 149, 0, 0]), (9, 6, []), (9, 6, []), (9, 6, []), (9, 5, []), (7, 0, [0, 151, 0, 0, 0, 0, 0, 0, 0, 0, 0, 0, 152, 0, 0, 153, 0, 0, 0, 0, 0, 0, 0, 0, 0, 0, 0, 0, 0, 0, 0, 0, 0, 0, 0, 0, 0, 0, 0, 0, 0, 0, 0, 0]), (9, 900, []), (9, 8, []), (9, 202, [])]
theorem G3_eq : fa G2 150 9 202 15 = G3 := by decide +kernel
def G4 : Dl := [(6, 0, [2, 7, 20, 33, 38, 0, 0, 39, 0, 40, 41, 43, 54, 0]), (4, 0, [3, 0, 0, 0, 0, 0, 0, 0, 0, 4, 5, 6, 0, 0, 0]), (8, 900, []), (10, 15, []), (9, 15, []), (9, 15, []), (3, 0, [0, 0, 0, 0, 0, 8, 9, 10, 11, 12, 0, 13, 14, 15, 0, 16, 17, 0, 18, 19]), (9, 6, []), (9, 6, []), (9, 6, []), (9, 6, []), (9, 6, []), (9, 5, []), (9, 5, []), (9, 5, []), (9, 4, []), (9, 4, []), (9, 4, []), (9, 4, []), (3, 0, [0, 0, 0, 0, 0, 21, 22, 23, 24, 25, 0, 26, 27, 28, 0, 29, 30, 0, 31, 32]), (9, 6, []), (9, 6, []), (9, 6, []), (9, 6, []), (9, 6, []), (9, 5, []), (9, 5, []), (9, 5, []), (9, 4, []), (9, 4, []), (9, 4, []), (9, 4, []), (2, 0, [34, 35, 36, 37, 0, 0]), (9, 6, []), (9, 6, []), (9, 6, []), (9, 5, []), (11, 16, [55, 60, 65, 70, 75, 80, 85, 90, 95, 100, 105, 110, 115, 120, 125, 130]), (11, 3, [135, 140, 145]), (0, 0, [0, 0, 0, 0, 0, 0, 0, 0]), (5, 0, [42, 0]), (9, 20, []), (1, 0, [44, 51, 52, 53, 0, 0, 0, 0, 0]), (12, 6, [45, 46, 47, 48, 49, 50]), (9, 5, []), (9, 5, []), (9, 5, []), (9, 5, []), (9, 5, []), (9, 5, []), (9, 6, []), (9, 5, []), (9, 5, []), (9, 61, []), (2, 0, [56, 57, 58, 59, 0, 0]), (9, 6, []), (9, 6, []), (9, 6, []), (9, 5, []), (2, 0, [61, 62, 63, 64, 0, 0]), (9, 6, []), (9, 6, []), (9, 6, []), (9, 5, []), (2, 0, [66, 67, 68, 69, 0, 0]), (9, 6, []), (9, 6, []), (9, 6, []), (9, 5, []), (2, 0, [71, 72, 73, 74, 0, 0]), (9, 6, []), (9, 6, []), (9, 6, []), (9, 5, []), (2, 0, [76, 77, 78, 79, 0, 0]), (9, 6, []), (9, 6, []), (9, 6, []), (9, 5, []), (2, 0, [81, 82, 83, 84, 0, 0]), (9, 6, []), (9, 6, []), (9, 6, []), (9, 5, []), (2, 0, [86, 87, 88, 89, 0, 0]), (9, 6, []), (9, 6, []), (9, 6, []), (9, 5, []), (2, 0, [91, 92, 93, 94, 0, 0]), (9, 6, []), (9, 6, []), (9, 6, []), (9, 5, []), (2, 0, [96, 97, 98, 99, 0, 0]), (9, 6, []), (9, 6, []), (9, 6, []), (9, 5, []), (2, 0, [101, 102, 103, 104, 0, 0]), (9, 6, []), (9, 6, []), (9, 6, []), (9, 5, []), (2, 0, [106, 107, 108, 109, 0, 0]), (9, 6, []), (9, 6, []), (9, 6, []), (9, 5, []), (2, 0, [111, 112, 113, 114, 0, 0]), (9, 6, []), (9, 6, []), (9, 6, []), (9, 5, []), (2, 0, [116, 117, 118, 119, 0, 0]), (9, 6, []), (9, 6, []), (9, 6, []), (9, 5, []), (2, 0, [121, 122, 123, 124, 0, 0]), (9, 6, []), (9, 6, []), (9, 6, []), (9, 5, []), (2, 0, [126, 127, 128, 129, 0, 0]), (9, 6, []), (9, 6, []), (9, 6, []), (9, 5, []), (2, 0, [131, 132, 133, 134, 0, 0]), (9, 6, []), (9, 6, []), (9, 6, []), (9, 5, []), (2, 0, [136, 137, 138, 139, 0, 0]), (9, 6, []), (9, 6, []), (9, 6, []), (9, 5, []), (2, 0, [141, 142, 143, 144, 0, 0]), (9, 6, []), (9, 6, []), (9, 6, []), (9, 5, []), (2, 0, [146, 147, 148, 149, 0, 0]), (9, 6, []), (9, 6, []), (9, 6, []), (9, 5, []), (7, 0, [0, 151, 0, 0, 0, 0, 0, 0, 0, 0, 0, 0, 152, 0, 0, 153, 154, 0, 0, 0, 0, 0, 0, 0, 0, 0, 0, 0, 0, 0, 0, 0, 0, 0, 0, 0, 0, 0, 0, 0, 0, 0, 0, 0]), (9, 900, []), (9, 8, []), (9, 202, []), (9, 202, [])]
theorem G4_eq : fa G3 150 9 202 16 = G4 := by decide +kernel
def G5 : Dl := [(6, 0, [2, 7, 20, 33, 38, 0, 0, 39, 0, 40, 41, 43, 54, 0]), (4, 0, [3, 0, 0, 0, 0, 0, 0, 0, 0, 4, 5, 6, 0, 0, 0]), (8, 900, []), (10, 15, []), (9, 15, []), (9, 15, []), (3, 0, [0, 0, 0, 0, 0, 8, 9, 10, 11, 12, 0, 13, 14, 15, 0, 16, 17, 0, 18, 19]), (9, 6, []), (9, 6, []), (9, 6, []), (9, 6, []), (9, 6, []), (9, 5, []), (9, 5, []), (9, 5, []), (9, 4, []), (9, 4, []), (9, 4, []), (9, 4, []), (3, 0, [0, 0, 0, 0, 0, 21, 22, 23, 24, 25, 0, 26, 27, 28, 0, 29, 30, 0, 31, 32]), (9, 6, []), (9, 6, []), (9, 6, []), (9, 6, []), (9, 6, []), (9, 5, []), (9, 5, []), (9, 5, []), (9, 4, []), (9, 4, []), (9, 4, []), (9, 4, []), (2, 0, [34, 35, 36, 37, 0, 0]), (9, 6, []), (9, 6, []), (9, 6, []), (9, 5, []), (11, 16, [55, 60, 65, 70, 75, 80, 85, 90, 95, 100, 105, 110, 115, 120, 125, 130]), (11, 3, [135, 140, 145]), (0, 0, [0, 0, 0, 0, 0, 0, 0, 0]), (5, 0, [42, 0]), (9, 20, []), (1, 0, [44, 51, 52, 53, 0, 0, 0, 0, 0]), (12, 6, [45, 46, 47, 48, 49, 50]), (9, 5, []), (9, 5, []), (9, 5, []), (9, 5, []), (9, 5, []), (9, 5, []), (9, 6, []), (9, 5, []), (9, 5, []), (9, 61, []), (2, 0, [56, 57, 58, 59, 0, 0]), (9, 6, []), (9, 6, []), (9, 6, []), (9, 5, []), (2, 0, [61, 62, 63, 64, 0, 0]), (9, 6, []), (9, 6, []), (9, 6, []), (9, 5, []), (2, 0, [66, 67, 68, 69, 0, 0]), (9, 6, []), (9, 6, []), (9, 6, []), (9, 5, []), (2, 0, [71, 72, 73, 74, 0, 0]), (9, 6, []), (9, 6, []), (9, 6, []), (9, 5, []), (2, 0, [76, 77, 78, 79, 0, 0]), (9, 6, []), (9, 6, []), (9, 6, []), (9, 5, []), (2, 0, [81, 82, 83, 84, 0, 0]), (9, 6, []), (9, 6, []), (9, 6, []), (9, 5, []), (2, 0, [86, 87, 88, 89, 0, 0]), (9, 6, []), (9, 6, []), (9, 6, []), (9, 5, []), (2, 0, [91, 92, 93, 94, 0, 0]), (9, 6, []), (9, 6, []), (9, 6, []), (9, 5, []), (2, 0, [96, 97, 98, 99, 0, 0]), (9, 6, []), (9, 6, []), (9, 6, []), (9, 5, []), (2, 0, [101, 102, 103, 104, 0, 0]), (9, 6, []), (9, 6, []), (9, 6, []), (9, 5, []), (2, 0, [106, 107, 108, 109, 0, 0]), (9, 6, []), (9, 6, []), (9, 6, []), (9, 5, []), (2, 0, [111, 112, 113, 114, 0, 0]), (9, 6, []), (9, 6, []), (9, 6, []), (9, 5, []), (2, 0, [116, 117, 118, 119, 0, 0]), (9, 6, []), (9, 6, []), (9, 6, []), (9, 5, []), (2, 0, [121, 122, 123, 124, 0, 0]), (9, 6, []), (9, 6, []), (9, 6, []), (9, 5, []), (2, 0, [126, 127, 128, 129, 0, 0]), (9, 6, []), (9, 6, []), (9, 6, []), (9, 5, []), (2, 0, [131, 132, 133, 134, 0, 0]), (9, 6, []), (9, 6, []), (9, 6, []), (9, 5, []), (2, 0, [136, 137, 138, 139, 0, 0]), (9, 6, []), (9, 6, []), (9, 6, []), (9, 5, []), (2, 0, [141, 142, 143, 144, 0, 0]), (9, 6, []), (9, 6, []), (9, 6, []), (9, 5, []), (2, 0, [146, 147, 148, 149, 0, 0]), (9, 6, []), (9, 6, []), (9, 6, []), (9, 5, []), (7, 0, [0, 151, 0, 0, 0, 0, 0, 0, 0, 0, 0, 0, 152, 0, 0, 153, 154, 155, 0, 0, 0, 0, 0, 0, 0, 0, 0, 0, 0, 0, 0, 0, 0, 0, 0, 0, 0, 0, 0, 0, 0, 0, 0, 0]), (9, 900, []), (9, 8, []), (9, 202, []), (9, 202, []), (9, 25, [])]
theorem G5_eq : fa G4 150 9 25 17 = G5 := by decide +kernel
def G6 : Dl := [(6, 0, [2, 7, 20, 33, 38, 0, 0, 39, 0, 40, 41, 43, 54, 0]), (4, 0, [3, 0, 0, 0, 0, 0, 0, 0, 0, 4, 5, 6, 0, 0, 0]), (8, 900, []), (10, 15, []), (9, 15, []), (9, 15, []), (3, 0, [0, 0, 0, 0, 0, 8, 9, 10, 11, 12, 0, 13, 14, 15, 0, 16, 17, 0, 18, 19]), (9, 6, []), (9, 6, []), (9, 6, []), (9, 6, []), (9, 6, []), (9, 5, []), (9, 5, []), (9, 5, []), (9, 4, []), (9, 4, []), (9, 4, []), (9, 4, []), (3, 0, [0, 0, 0, 0, 0, 21, 22, 23, 24, 25, 0, 26, 27, 28, 0, 29, 30, 0, 31, 32]), (9, 6, []), (9, 6, []), (9, 6, []), (9, 6, []), (9, 6, []), (9, 5, []), (9, 5, []), (9, 5, []), (9, 4, []), (9, 4, []), (9, 4, []), (9, 4, []), (2, 0, [34, 35, 36, 37, 0, 0]), (9, 6, []), (9, 6, []), (9, 6, []), (9, 5, []), (11, 16, [55, 60, 65, 70, 75, 80, 85, 90, 95, 100, 105, 110, 115, 120, 125, 130]), (11, 3, [135, 140, 145]), (0, 0, [0, 0, 0, 0, 0, 0, 0, 0]), (5, 0, [42, 0]), (9, 20, []), (1, 0, [44, 51, 52, 53, 0, 0, 0, 0, 0]), (12, 6, [45, 46, 47, 48, 49, 50]), (9, 5, []), (9, 5, []), (9, 5, []), (9, 5, []), (9, 5, []), (9, 5, []), (9, 6, []), (9, 5, []), (9, 5, []), (9, 61, []), (2, 0, [56, 57, 58, 59, 0, 0]), (9, 6, []), (9, 6, []), (9, 6, []), (9, 5, []), (2, 0, [61, 62, 63, 64, 0, 0]), (9, 6, []), (9, 6, []), (9, 6, []), (9, 5, []), (2, 0, [66, 67, 68, 69, 0, 0]), (9, 6, []), (9, 6, []), (9, 6, []), (9, 5, []), (2, 0, [71, 72, 73, 74, 0, 0]), (9, 6, []), (9, 6, []), (9, 6, []), (9, 5, []), (2, 0, [76, 77, 78, 79, 0, 0]), (9, 6, []), (9, 6, []), (9, 6, []), (9, 5, []), (2, 0, [81, 82, 83, 84, 0, 0]), (9, 6, []), (9, 6, []), (9, 6, []), (9, 5, []), (2, 0, [86, 87, 88, 89, 0, 0]), (9, 6, []), (9, 6, []), (9, 6, []), (9, 5, []), (2, 0, [91, 92, 93, 94, 0, 0]), (9, 6, []), (9, 6, []), (9, 6, []), (9, 5, []), (2, 0, [96, 97, 98, 99, 0, 0]), (9, 6, []), (9, 6, []), (9, 6, []), (9, 5, []), (2, 0, [101, 102, 103, 104, 0, 0]), (9, 6, []), (9, 6, []), (9, 6, []), (9, 5, []), (2, 0, [106, 107, 108, 109, 0, 0]), (9, 6, []), (9, 6, []), (9, 6, []), (9, 5, []), (2, 0, [111, 112, 113, 114, 0, 0]), (9, 6, []), (9, 6, []), (9, 6, []), (9, 5, []), (2, 0, [116, 117, 118, 119, 0, 0]), (9, 6, []), (9, 6, []), (9, 6, []), (9, 5, []), (2, 0, [121, 122, 123, 124, 0, 0]), (9, 6, []), (9, 6, []), (9, 6, []), (9, 5, []), (2, 0, [126, 127, 128, 129, 0, 0]), (9, 6, []), (9, 6, []), (9, 6, []), (9, 5, []), (2, 0, [131, 132, 133, 134, 0, 0]), (9, 6, []), (9, 6, []), (9, 6, []), (9, 5, []), (2, 0, [136, 137, 138, 139, 0, 0]), (9, 6, []), (9, 6, []), (9, 6, []), (9, 5, []), (2, 0, [141, 142, 143, 144, 0, 0]), (9, 6, []), (9, 6, []), (9, 6, []), (9, 5, []), (2, 0, [146, 147, 148, 149, 0, 0]), (9, 6, []), (9, 6, []), (9, 6, []), (9, 5, []), (7, 0, [0, 151, 0, 0, 0, 0, 0, 0, 0, 0, 0, 0, 152, 0, 0, 153, 154, 155, 156, 0, 0, 0, 0, 0, 0, 0, 0, 0, 0, 0, 0, 0, 0, 0, 0, 0, 0, 0, 0, 0, 0, 0, 0, 0]), (9, 900, []), (9, 8, []), (9, 202, []), (9, 202, []), (9, 25, []), (9, 25, [])]
theorem G6_eq : fa G5 150 9 25 18 = G6 := by decide +kernel
def G7 : Dl := [(6, 0, [2, 7, 20, 33, 38, 0, 0, 39, 0, 40, 41, 43, 54, 0]), (4, 0, [3, 0, 0, 0, 0, 0, 0, 0, 0, 4, 5, 6, 0, 0, 0]), (8, 900, []), (10, 15, []), (9, 15, []), (9, 15, []), (3, 0, [0, 0, 0, 0, 0, 8, 9, 10, 11, 12, 0, 13, 14, 15, 0, 16, 17, 0, 18, 19]), (9, 6, []), (9, 6, []), (9, 6, []), (9, 6, []), (9, 6, []), (9, 5, []), (9, 5, []), (9, 5, []), (9, 4, []), (9, 4, []), (9, 4, []), (9, 4, []), (3, 0, [0, 0, 0, 0, 0, 21, 22, 23, 24, 25, 0, 26, 27, 28, 0, 29, 30, 0, 31, 32]), (9, 6, []), (9, 6, []), (9, 6, []), (9, 6, []), (9, 6, []), (9, 5, []), (9, 5, []), (9, 5, []), (9, 4, []), (9, 4, []), (9, 4, []), (9, 4, []), (2, 0, [34, 35, 36, 37, 0, 0]), (9, 6, []), (9, 6, []), (9, 6, []), (9, 5, []), (11, 16, [55, 60, 65, 70, 75, 80, 85, 90, 95, 100, 105, 110, 115, 120, 125, 130]), (11, 3, [135, 140, 145]), (0, 0, [0, 0, 0, 0, 0, 0, 0, 0]), (5, 0, [42, 0]), (9, 20, []), (1, 0, [44, 51, 52, 53, 0, 0, 0, 0, 0]), (12, 6, [45, 46, 47, 48, 49, 50]), (9, 5, []), (9, 5, []), (9, 5, []), (9, 5, []), (9, 5, []), (9, 5, []), (9, 6, []), (9, 5, []), (9, 5, []), (9, 61, []), (2, 0, [56, 57, 58, 59, 0, 0]), (9, 6, []), (9, 6, []), (9, 6, []), (9, 5, []), (2, 0, [61, 62, 63, 64, 0, 0]), (9, 6, []), (9, 6, []), (9, 6, []), (9, 5, []), (2, 0, [66, 67, 68, 69, 0, 0]), (9, 6, []), (9, 6, []), (9, 6, []), (9, 5, []), (2, 0, [71, 72, 73, 74, 0, 0]), (9, 6, []), (9, 6, []), (9, 6, []), (9, 5, []), (2, 0, [76, 77, 78, 79, 0, 0]), (9, 6, []), (9, 6, []), (9, 6, []), (9, 5, []), (2, 0, [81, 82, 83, 84, 0, 0]), (9, 6, []), (9, 6, []), (9, 6, []), (9, 5, []), (2, 0, [86, 87, 88, 89, 0, 0]), (9, 6, []), (9, 6, []), (9, 6, []), (9, 5, []), (2, 0, [91, 92, 93, 94, 0, 0]), (9, 6, []), (9, 6, []), (9, 6, []), (9, 5, []), (2, 0, [96, 97, 98, 99, 0, 0]), (9, 6, []), (9, 6, []), (9, 6, []), (9, 5, []), (2, 0, [101, 102, 103, 104, 0, 0]), (9, 6, []), (9, 6, []), (9, 6, []), (9, 5, []), (2, 0, [106, 107, 108, 109, 0, 0]), (9, 6, []), (9, 6, []), (9, 6, []), (9, 5, []), (2, 0, [111, 112, 113, 114, 0, 0]), (9, 6, []), (9, 6, []), (9, 6, []), (9, 5, []), (2, 0, [116, 117, 118, 119, 0, 0]), (9, 6, []), (9, 6, []), (9, 6, []), (9, 5, []), (2, 0, [121, 122, 123, 124, 0, 0]), (9, 6, []), (9, 6, []), (9, 6, []), (9, 5, []), (2, 0, [126, 127, 128, 129, 0, 0]), (9, 6, []), (9, 6, []), (9, 6, []), (9, 5, []), (2, 0, [131, 132, 133, 134, 0, 0]), (9, 6, []), (9, 6, []), (9, 6, []), (9, 5, []), (2, 0, [136, 137, 138, 139, 0, 0]), (9, 6, []), (9, 6, []), (9, 6, []), (9, 5, []), (2, 0, [141, 142, 143, 144, 0, 0]), (9, 6, []), (9, 6, []), (9, 6, []), (9, 5, []), (2, 0, [146, 147, 148, 149, 0, 0]), (9, 6, []), (9, 6, []), (9, 6, []), (9, 5, []), (7, 0, [0, 151, 0, 0, 0, 0, 0, 0, 0, 0, 0, 0, 152, 0, 0, 153, 154, 155, 156, 157, 0, 0, 0, 0, 0, 0, 0, 0, 0, 0, 0, 0, 0, 0, 0, 0, 0, 0, 0, 0, 0, 0, 0, 0]), (9, 900, []), (9, 8, []), (9, 202, []), (9, 202, []), (9, 25, []), (9, 25, []), (9, 25, [])]
theorem G7_eq : fa G6 150 9 25 19 = G7 := by decide +kernel
def G8 : Dl := [(6, 0, [2, 7, 20, 33, 38, 0, 0, 39, 0, 40, 41, 43, 54, 0]), (4, 0, [3, 0, 0, 0, 0, 0, 0, 0, 0, 4, 5, 6, 0, 0, 0]), (8, 900, []), (10, 15, []), (9, 15, []), (9, 15, []), (3, 0, [0, 0, 0, 0, 0, 8, 9, 10, 11, 12, 0, 13, 14, 15, 0, 16, 17, 0, 18, 19]), (9, 6, []), (9, 6, []), (9, 6, []), (9, 6, []), (9, 6, []), (9, 5, []), (9, 5, []), (9, 5, []), (9, 4, []), (9, 4, []), (9, 4, []), (9, 4, []), (3, 0, [0, 0, 0, 0, 0, 21, 22, 23, 24, 25, 0, 26, 27, 28, 0, 29, 30, 0, 31, 32]), (9, 6, []), (9, 6, []), (9, 6, []), (9, 6, []), (9, 6, []), (9, 5, []), (9, 5, []), (9, 5, []), (9, 4, []), (9, 4, []), (9, 4, []), (9, 4, []), (2, 0, [34, 35, 36, 37, 0, 0]), (9, 6, []), (9, 6, []), (9, 6, []), (9, 5, []), (11, 16, [55, 60, 65, 70, 75, 80, 85, 90, 95, 100, 105, 110, 115, 120, 125, 130]), (11, 3, [135, 140, 145]), (0, 0, [0, 0, 0, 0, 0, 0, 0, 0]), (5, 0, [42, 0]), (9, 20, []), (1, 0, [44, 51, 52, 53, 0, 0, 0, 0, 0]), (12, 6, [45, 46, 47, 48, 49, 50]), (9, 5, []), (9, 5, []), (9, 5, []), (9, 5, []), (9, 5, []), (9, 5, []), (9, 6, []), (9, 5, []), (9, 5, []), (9, 61, []), (2, 0, [56, 57, 58, 59, 0, 0]), (9, 6, []), (9, 6, []), (9, 6, []), (9, 5, []), (2, 0, [61, 62, 63, 64, 0, 0]), (9, 6, []), (9, 6, []), (9, 6, []), (9, 5, []), (2, 0, [66, 67, 68, 69, 0, 0]), (9, 6, []), (9, 6, []), (9, 6, []), (9, 5, []), (2, 0, [71, 72, 73, 74, 0, 0]), (9, 6, []), (9, 6, []), (9, 6, []), (9, 5, []), (2, 0, [76, 77, 78, 79, 0, 0]), (9, 6, []), (9, 6, []), (9, 6, []), (9, 5, []), (2, 0, [81, 82, 83, 84, 0, 0]), (9, 6, []), (9, 6, []), (9, 6, []), (9, 5, []), (2, 0, [86, 87, 88, 89, 0, 0]), (9, 6, []), (9, 6, []), (9, 6, []), (9, 5, []), (2, 0, [91, 92, 93, 94, 0, 0]), (9, 6, []), (9, 6, []), (9, 6, []), (9, 5, []), (2, 0, [96, 97, 98, 99, 0, 0]), (9, 6, []), (9, 6, []), (9, 6, []), (9, 5, []), (2, 0, [101, 102, 103, 104, 0, 0]), (9, 6, []), (9, 6, []), (9, 6, []), (9, 5, []), (2, 0, [106, 107, 108, 109, 0, 0]), (9, 6, []), (9, 6, []), (9, 6, []), (9, 5, []), (2, 0, [111, 112, 113, 114, 0, 0]), (9, 6, []), (9, 6, []), (9, 6, []), (9, 5, []), (2, 0, [116, 117, 118, 119, 0, 0]), (9, 6, []), (9, 6, []), (9, 6, []), (9, 5, []), (2, 0, [121, 122, 123, 124, 0, 0]), (9, 6, []), (9, 6, []), (9, 6, []), (9, 5, []), (2, 0, [126, 127, 128, 129, 0, 0]), (9, 6, []), (9, 6, []), (9, 6, []), (9, 5, []), (2, 0, [131, 132, 133, 134, 0, 0]), (9, 6, []), (9, 6, []), (9, 6, []), (9, 5, []), (2, 0, [136, 137, 138, 139, 0, 0]), (9, 6, []), (9, 6, []), (9, 6, []), (9, 5, []), (2, 0, [141, 142, 143, 144, 0, 0]), (9, 6, []), (9, 6, []), (9, 6, []), (9, 5, []), (2, 0, [146, 147, 148, 149, 0, 0]), (9, 6, []), (9, 6, []), (9, 6, []), (9, 5, []), (7, 0, [0, 151, 0, 0, 0, 0, 0, 0, 0, 0, 0, 0, 152, 0, 0, 153, 154, 155, 156, 157, 158, 0, 0, 0, 0, 0, 0, 0, 0, 0, 0, 0, 0, 0, 0, 0, 0, 0, 0, 0, 0, 0, 0, 0]), (9, 900, []), (9, 8, []), (9, 202, []), (9, 202, []), (9, 25, []), (9, 25, []), (9, 25, []), (9, 400, [])]
theorem G8_eq : fa G7 150 9 400 20 = G8 := by decide +kernel
def G9 : Dl := [(6, 0, [2, 7, 20, 33, 38, 0, 0, 39, 0, 40, 41, 43, 54, 0]), (4, 0, [3, 0, 0, 0, 0, 0, 0, 0, 0, 4, 5, 6, 0, 0, 0]), (8, 900, []), (10, 15, []), (9, 15, []), (9, 15, []), (3, 0, [0, 0, 0, 0, 0, 8, 9, 10, 11, 12, 0, 13, 14, 15, 0, 16, 17, 0, 18, 19]), (9, 6, []), (9, 6, []), (9, 6, []), (9, 6, []), (9, 6, []), (9, 5, []), (9, 5, []), (9, 5, []), (9, 4, []), (9, 4, []), (9, 4, []), (9, 4, []), (3, 0, [0, 0, 0, 0, 0, 21, 22, 23, 24, 25, 0, 26, 27, 28, 0, 29, 30, 0, 31, 32]), (9, 6, []), (9, 6, []), (9, 6, []), (9, 6, []), (9, 6, []), (9, 5, []), (9, 5, []), (9, 5, []), (9, 4, []), (9, 4, []), (9, 4, []), (9, 4, []), (2, 0, [34, 35, 36, 37, 0, 0]), (9, 6, []), (9, 6, []), (9, 6, []), (9, 5, []), (11, 16, [55, 60, 65, 70, 75, 80, 85, 90, 95, 100, 105, 110, 115, 120, 125, 130]), (11, 3, [135, 140, 145]), (0, 0, [0, 0, 0, 0, 0, 0, 0, 0]), (5, 0, [42, 0]), (9, 20, []), (1, 0, [44, 51, 52, 53, 0, 0, 0, 0, 0]), (12, 6, [45, 46, 47, 48, 49, 50]), (9, 5, []), (9, 5, []), (9, 5, []), (9, 5, []), (9, 5, []), (9, 5, []), (9, 6, []), (9, 5, []), (9, 5, []), (9, 61, []), (2, 0, [56, 57, 58, 59, 0, 0]), (9, 6, []), (9, 6, []), (9, 6, []), (9, 5, []), (2, 0, [61, 62, 63, 64, 0, 0]), (9, 6, []), (9, 6, []), (9, 6, []), (9, 5, []), (2, 0, [66, 67, 68, 69, 0, 0]), (9, 6, []), (9, 6, []), (9, 6, []), (9, 5, []), (2, 0, [71, 72, 73, 74, 0, 0]), (9, 6, []), (9, 6, []), (9, 6, []), (9, 5, []), (2, 0, [76, 77, 78, 79, 0, 0]), (9, 6, []), (9, 6, []), (9, 6, []), (9, 5, []), (2, 0, [81, 82, 83, 84, 0, 0]), (9, 6, []), (9, 6, []), (9, 6, []), (9, 5, []), (2, 0, [86, 87, 88, 89, 0, 0]), (9, 6, []), (9, 6, []), (9, 6, []), (9, 5, []), (2, 0, [91, 92, 93, 94, 0, 0]), (9, 6, []), (9, 6, []), (9, 6, []), (9, 5, []), (2, 0, [96, 97, 98, 99, 0, 0]), (9, 6, []), (9, 6, []), (9, 6, []), (9, 5, []), (2, 0, [101, 102, 103, 104, 0, 0]), (9, 6, []), (9, 6, []), (9, 6, []), (9, 5, []), (2, 0, [106, 107, 108, 109, 0, 0]), (9, 6, []), (9, 6, []), (9, 6, []), (9, 5, []), (2, 0, [111, 112, 113, 114, 0, 0]), (9, 6, []), (9, 6, []), (9, 6, []), (9, 5, []), (2, 0, [116, 117, 118, 119, 0, 0]), (9, 6, []), (9, 6, []), (9, 6, []), (9, 5, []), (2, 0, [121, 122, 123, 124, 0, 0]), (9, 6, []), (9, 6, []), (9, 6, []), (9, 5, []), (2, 0, [126, 127, 128, 129, 0, 0]), (9, 6, []), (9, 6, []), (9, 6, []), (9, 5, []), (2, 0, [131, 132, 133, 134, 0, 0]), (9, 6, []), (9, 6, []), (9, 6, []), (9, 5, []), (2, 0, [136, 137, 138, 139, 0, 0]), (9, 6, []), (9, 6, []), (9, 6, []), (9, 5, []), (2, 0, [141, 142, 143, 144, 0, 0]), (9, 6, []), (9, 6, []), (9, 6, []), (9, 5, []), (2, 0, [146, 147, 148, 149, 0, 0]), (9, 6, []), (9, 6, []), (9, 6, []), (9, 5, []), (7, 0, [0, 151, 0, 0, 0, 0, 0, 0, 0, 0, 0, 0, 152, 0, 0, 153, 154, 155, 156, 157, 158, 159, 0, 0, 0, 0, 0, 0, 0, 0, 0, 0, 0, 0, 0, 0, 0, 0, 0, 0, 0, 0, 0, 0]), (9, 900, []), (9, 8, []), (9, 202, []), (9, 202, []), (9, 25, []), (9, 25, []), (9, 25, []), (9, 400, []), (9, 75, [])]
theorem G9_eq : fa G8 150 9 75 21 = G9 := by decide +kernel
def G10 : Dl := [(6, 0, [2, 7, 20, 33, 38, 0, 0, 39, 0, 40, 41, 43, 54, 0]), (4, 0, [3, 0, 0, 0, 0, 0, 0, 0, 0, 4, 5, 6, 0, 0, 0]), (8, 900, []), (10, 15, []), (9, 15, []), (9, 15, []), (3, 0, [0, 0, 0, 0, 0, 8, 9, 10, 11, 12, 0, 13, 14, 15, 0, 16, 17, 0, 18, 19]), (9, 6, []), (9, 6, []), (9, 6, []), (9, 6, []), (9, 6, []), (9, 5, []), (9, 5, []), (9, 5, []), (9, 4, []), (9, 4, []), (9, 4, []), (9, 4, []), (3, 0, [0, 0, 0, 0, 0, 21, 22, 23, 24, 25, 0, 26, 27, 28, 0, 29, 30, 0, 31, 32]), (9, 6, []), (9, 6, []), (9, 6, []), (9, 6, []), (9, 6, []), (9, 5, []), (9, 5, []), (9, 5, []), (9, 4, []), (9, 4, []), (9, 4, []), (9, 4, []), (2, 0, [34, 35, 36, 37, 0, 0]), (9, 6, []), (9, 6, []), (9, 6, []), (9, 5, []), (11, 16, [55, 60, 65, 70, 75, 80, 85, 90, 95, 100, 105, 110, 115, 120, 125, 130]), (11, 3, [135, 140, 145]), (0, 0, [0, 0, 0, 0, 0, 0, 0, 0]), (5, 0, [42, 0]), (9, 20, []), (1, 0, [44, 51, 52, 53, 0, 0, 0, 0, 0]), (12, 6, [45, 46, 47, 48, 49, 50]), (9, 5, []), (9, 5, []), (9, 5, []), (9, 5, []), (9, 5, []), (9, 5, []), (9, 6, []), (9, 5, []), (9, 5, []), (9, 61, []), (2, 0, [56, 57, 58, 59, 0, 0]), (9, 6, []), (9, 6, []), (9, 6, []), (9, 5, []), (2, 0, [61, 62, 63, 64, 0, 0]), (9, 6, []), (9, 6, []), (9, 6, []), (9, 5, []), (2, 0, [66, 67, 68, 69, 0, 0]), (9, 6, []), (9, 6, []), (9, 6, []), (9, 5, []), (2, 0, [71, 72, 73, 74, 0, 0]), (9, 6, []), (9, 6, []), (9, 6, []), (9, 5, []), (2, 0, [76, 77, 78, 79, 0, 0]), (9, 6, []), (9, 6, []), (9, 6, []), (9, 5, []), (2, 0, [81, 82, 83, 84, 0, 0]), (9, 6, []), (9, 6, []), (9, 6, []), (9, 5, []), (2, 0, [86, 87, 88, 89, 0, 0]), (9, 6, []), (9, 6, []), (9, 6, []), (9, 5, []), (2, 0, [91, 92, 93, 94, 0, 0]), (9, 6, []), (9, 6, []), (9, 6, []), (9, 5, []), (2, 0, [96, 97, 98, 99, 0, 0]), (9, 6, []), (9, 6, []), (9, 6, []), (9, 5, []), (2, 0, [101, 102, 103, 104, 0, 0]), (9, 6, []), (9, 6, []), (9, 6, []), (9, 5, []), (2, 0, [106, 107, 108, 109, 0, 0]), (9, 6, []), (9, 6, []), (9, 6, []), (9, 5, []), (2, 0, [111, 112, 113, 114, 0, 0]), (9, 6, []), (9, 6, []), (9, 6, []), (9, 5, []), (2, 0, [116, 117, 118, 119, 0, 0]), (9, 6, []), (9, 6, []), (9, 6, []), (9, 5, []), (2, 0, [121, 122, 123, 124, 0, 0]), (9, 6, []), (9, 6, []), (9, 6, []), (9, 5, []), (2, 0, [126, 127, 128, 129, 0, 0]), (9, 6, []), (9, 6, []), (9, 6, []), (9, 5, []), (2, 0, [131, 132, 133, 134, 0, 0]), (9, 6, []), (9, 6, []), (9, 6, []), (9, 5, []), (2, 0, [136, 137, 138, 139, 0, 0]), (9, 6, []), (9, 6, []), (9, 6, []), (9, 5, []), (2, 0, [141, 142, 143, 144, 0, 0]), (9, 6, []), (9, 6, []), (9, 6, []), (9, 5, []), (2, 0, [146, 147, 148, 149, 0, 0]), (9, 6, []), (9, 6, []), (9, 6, []), (9, 5, []), (7, 0, [0, 151, 0, 0, 0, 0, 0, 0, 0, 0, 0, 0, 152, 0, 0, 153, 154, 155, 156, 157, 158, 159, 0, 0, 160, 0, 0, 0, 0, 0, 0, 0, 0, 0, 0, 0, 0, 0, 0, 0, 0, 0, 0, 0]), (9, 900, []), (9, 8, []), (9, 202, []), (9, 202, []), (9, 25, []), (9, 25, []), (9, 25, []), (9, 400, []), (9, 75, []), (9, 5, [])]
theorem G10_eq : fa G9 150 9 5 24 = G10 := by decide +kernel
def G11 : Dl := [(6, 0, [2, 7, 20, 33, 38, 0, 0, 39, 0, 40, 41, 43, 54, 0]), (4, 0, [3, 0, 0, 0, 0, 0, 0, 0, 0, 4, 5, 6, 0, 0, 0]), (8, 900, []), (10, 15, []), (9, 15, []), (9, 15, []), (3, 0, [0, 0, 0, 0, 0, 8, 9, 10, 11, 12, 0, 13, 14, 15, 0, 16, 17, 0, 18, 19]), (9, 6, []), (9, 6, []), (9, 6, []), (9, 6, []), (9, 6, []), (9, 5, []), (9, 5, []), (9, 5, []), (9, 4, []), (9, 4, []), (9, 4, []), (9, 4, []), (3, 0, [0, 0, 0, 0, 0, 21, 22, 23, 24, 25, 0, 26, 27, 28, 0, 29, 30, 0, 31, 32]), (9, 6, []), (9, 6, []), (9, 6, []), (9, 6, []), (9, 6, []), (9, 5, []), (9, 5, []), (9, 5, []), (9, 4, []), (9, 4, []), (9, 4, []), (9, 4, []), (2, 0, [34, 35, 36, 37, 0, 0]), (9, 6, []), (9, 6, []), (9, 6, []), (9, 5, []), (11, 16, [55, 60, 65, 70, 75, 80, 85, 90, 95, 100, 105, 110, 115, 120, 125, 130]), (11, 3, [135, 140, 145]), (0, 0, [0, 0, 0, 0, 0, 0, 0, 0]), (5, 0, [42, 0]), (9, 20, []), (1, 0, [44, 51, 52, 53, 0, 0, 0, 0, 0]), (12, 6, [45, 46, 47, 48, 49, 50]), (9, 5, []), (9, 5, []), (9, 5, []), (9, 5, []), (9, 5, []), (9, 5, []), (9, 6, []), (9, 5, []), (9, 5, []), (9, 61, []), (2, 0, [56, 57, 58, 59, 0, 0]), (9, 6, []), (9, 6, []), (9, 6, []), (9, 5, []), (2, 0, [61, 62, 63, 64, 0, 0]), (9, 6, []), (9, 6, []), (9, 6, []), (9, 5, []), (2, 0, [66, 67, 68, 69, 0, 0]), (9, 6, []), (9, 6, []), (9, 6, []), (9, 5, []), (2, 0, [71, 72, 73, 74, 0, 0]), (9, 6, []), (9, 6, []), (9, 6, []), (9, 5, []), (2, 0, [76, 77, 78, 79, 0, 0]), (9, 6, []), (9, 6, []), (9, 6, []), (9, 5, []), (2, 0, [81, 82, 83, 84, 0, 0]), (9, 6, []), (9, 6, []), (9, 6, []), (9, 5, []), (2, 0, [86, 87, 88, 89, 0, 0]), (9, 6, []), (9, 6, []), (9, 6, []), (9, 5, []), (2, 0, [91, 92, 93, 94, 0, 0]), (9, 6, []), (9, 6, []), (9, 6, []), (9, 5, []), (2, 0, [96, 97, 98, 99, 0, 0]), (9, 6, []), (9, 6, []), (9, 6, []), (9, 5, []), (2, 0, [101, 102, 103, 104, 0, 0]), (9, 6, []), (9, 6, []), (9, 6, []), (9, 5, []), (2, 0, [106, 107, 108, 109, 0, 0]), (9, 6, []), (9, 6, []), (9, 6, []), (9, 5, []), (2, 0, [111, 112, 113, 114, 0, 0]), (9, 6, []), (9, 6, []), (9, 6, []), (9, 5, []), (2, 0, [116, 117, 118, 119, 0, 0]), (9, 6, []), (9, 6, []), (9, 6, []), (9, 5, []), (2, 0, [121, 122, 123, 124, 0, 0]), (9, 6, []), (9, 6, []), (9, 6, []), (9, 5, []), (2, 0, [126, 127, 128, 129, 0, 0]), (9, 6, []), (9, 6, []), (9, 6, []), (9, 5, []), (2, 0, [131, 132, 133, 134, 0, 0]), (9, 6, []), (9, 6, []), (9, 6, []), (9, 5, []), (2, 0, [136, 137, 138, 139, 0, 0]), (9, 6, []), (9, 6, []), (9, 6, []), (9, 5, []), (2, 0, [141, 142, 143, 144, 0, 0]), (9, 6, []), (9, 6, []), (9, 6, []), (9, 5, []), (2, 0, [146, 147, 148, 149, 0, 0]), (9, 6, []), (9, 6, []), (9, 6, []), (9, 5, []), (7, 0, [0, 151, 0, 0, 0, 0, 0, 0, 0, 0, 0, 0, 152, 0, 0, 153, 154, 155, 156, 157, 158, 159, 0, 0, 160, 161, 0, 0, 0, 0, 0, 0, 0, 0, 0, 0, 0, 0, 0, 0, 0, 0, 0, 0]), (9, 900, []), (9, 8, []), (9, 202, []), (9, 202, []), (9, 25, []), (9, 25, []), (9, 25, []), (9, 400, []), (9, 75, []), (9, 5, []), (9, 25, [])]
theorem G11_eq : fa G10 150 9 25 25 = G11 := by decide +kernel
def G12 : Dl := [(6, 0, [2, 7, 20, 33, 38, 0, 0, 39, 0, 40, 41, 43, 54, 0]), (4, 0, [3, 0, 0, 0, 0, 0, 0, 0, 0, 4, 5, 6, 0, 0, 0]), (8, 900, []), (10, 15, []), (9, 15, []), (9, 15, []), (3, 0, [0, 0, 0, 0, 0, 8, 9, 10, 11, 12, 0, 13, 14, 15, 0, 16, 17, 0, 18, 19]), (9, 6, []), (9, 6, []), (9, 6, []), (9, 6, []), (9, 6, []), (9, 5, []), (9, 5, []), (9, 5, []), (9, 4, []), (9, 4, []), (9, 4, []), (9, 4, []), (3, 0, [0, 0, 0, 0, 0, 21, 22, 23, 24, 25, 0, 26, 27, 28, 0, 29, 30, 0, 31, 32]), (9, 6, []), (9, 6, []), (9, 6, []), (9, 6, []), (9, 6, []), (9, 5, []), (9, 5, []), (9, 5, []), (9, 4, []), (9, 4, []), (9, 4, []), (9, 4, []), (2, 0, [34, 35, 36, 37, 0, 0]), (9, 6, []), (9, 6, []), (9, 6, []), (9, 5, []), (11, 16, [55, 60, 65, 70, 75, 80, 85, 90, 95, 100, 105, 110, 115, 120, 125, 130]), (11, 3, [135, 140, 145]), (0, 0, [0, 0, 0, 0, 0, 0, 0, 0]), (5, 0, [42, 0]), (9, 20, []), (1, 0, [44, 51, 52, 53, 0, 0, 0, 0, 0]), (12, 6, [45, 46, 47, 48, 49, 50]), (9, 5, []), (9, 5, []), (9, 5, []), (9, 5, []), (9, 5, []), (9, 5, []), (9, 6, []), (9, 5, []), (9, 5, []), (9, 61, []), (2, 0, [56, 57, 58, 59, 0, 0]), (9, 6, []), (9, 6, []), (9, 6, []), (9, 5, []), (2, 0, [61, 62, 63, 64, 0, 0]), (9, 6, []), (9, 6, []), (9, 6, []), (9, 5, []), (2, 0, [66, 67, 68, 69, 0, 0]), (9, 6, []), (9, 6, []), (9, 6, []), (9, 5, []), (2, 0, [71, 72, 73, 74, 0, 0]), (9, 6, []), (9, 6, []), (9, 6, []), (9, 5, []), (2, 0, [76, 77, 78, 79, 0, 0]), (9, 6, []), (9, 6, []), (9, 6, []), (9, 5, []), (2, 0, [81, 82, 83, 84, 0, 0]), (9, 6, []), (9, 6, []), (9, 6, []), (9, 5, []), (2, 0, [86, 87, 88, 89, 0, 0]), (9, 6, []), (9, 6, []), (9, 6, []), (9, 5, []), (2, 0, [91, 92, 93, 94, 0, 0]), (9, 6, []), (9, 6, []), (9, 6, []), (9, 5, []), (2, 0, [96, 97, 98, 99, 0, 0]), (9, 6, []), (9, 6, []), (9, 6, []), (9, 5, []), (2, 0, [101, 102, 103, 104, 0, 0]), (9, 6, []), (9, 6, []), (9, 6, []), (9, 5, []), (2, 0, [106, 107, 108, 109, 0, 0]), (9, 6, []), (9, 6, []), (9, 6, []), (9, 5, []), (2, 0, [111, 112, 113, 114, 0, 0]), (9, 6, []), (9, 6, []), (9, 6, []), (9, 5, []), (2, 0, [116, 117, 118, 119, 0, 0]), (9, 6, []), (9, 6, []), (9, 6, []), (9, 5, []), (2, 0, [121, 122, 123, 124, 0, 0]), (9, 6, []), (9, 6, []), (9, 6, []), (9, 5, []), (2, 0, [126, 127, 128, 129, 0, 0]), (9, 6, []), (9, 6, []), (9, 6, []), (9, 5, []), (2, 0, [131, 132, 133, 134, 0, 0]), (9, 6, []), (9, 6, []), (9, 6, []), (9, 5, []), (2, 0, [136, 137, 138, 139, 0, 0]), (9, 6, []), (9, 6, []), (9, 6, []), (9, 5, []), (2, 0, [141, 142, 143, 144, 0, 0]), (9, 6, []), (9, 6, []), (9, 6, []), (9, 5, []), (2, 0, [146, 147, 148, 149, 0, 0]), (9, 6, []), (9, 6, []), (9, 6, []), (9, 5, []), (7, 0, [0, 151, 0, 0, 0, 0, 0, 0, 0, 0, 0, 0, 152, 0, 0, 153, 154, 155, 156, 157, 158, 159, 0, 0, 160, 161, 0, 162, 0, 0, 0, 0, 0, 0, 0, 0, 0, 0, 0, 0, 0, 0, 0, 0]), (9, 900, []), (9, 8, []), (9, 202, []), (9, 202, []), (9, 25, []), (9, 25, []), (9, 25, []), (9, 400, []), (9, 75, []), (9, 5, []), (9, 25, []), (9, 5, [])]
theorem G12_eq : fa G11 150 9 5 27 = G12 := by decide +kernel
def G13 : Dl := [(6, 0, [2, 7, 20, 33, 38, 0, 0, 39, 0, 40, 41, 43, 54, 0]), (4, 0, [3, 0, 0, 0, 0, 0, 0, 0, 0, 4, 5, 6, 0, 0, 0]), (8, 900, []), (10, 15, []), (9, 15, []), (9, 15, []), (3, 0, [0, 0, 0, 0, 0, 8, 9, 10, 11, 12, 0, 13, 14, 15, 0, 16, 17, 0, 18, 19]), (9, 6, []), (9, 6, []), (9, 6, []), (9, 6, []), (9, 6, []), (9, 5, []), (9, 5, []), (9, 5, []), (9, 4, []), (9, 4, []), (9, 4, []), (9, 4, []), (3, 0, [0, 0, 0, 0, 0, 21, 22, 23, 24, 25, 0, 26, 27, 28, 0, 29, 30, 0, 31, 32]), (9, 6, []), (9, 6, []), (9, 6, []), (9, 6, []), (9, 6, []), (9, 5, []), (9, 5, []), (9, 5, []), (9, 4, []), (9, 4, []), (9, 4, []), (9, 4, []), (2, 0, [34, 35, 36, 37, 0, 0]), (9, 6, []), (9, 6, []), (9, 6, []), (9, 5, []), (11, 16, [55, 60, 65, 70, 75, 80, 85, 90, 95, 100, 105, 110, 115, 120, 125, 130]), (11, 3, [135, 140, 145]), (0, 0, [0, 0, 0, 0, 0, 0, 0, 0]), (5, 0, [42, 0]), (9, 20, []), (1, 0, [44, 51, 52, 53, 0, 0, 0, 0, 0]), (12, 6, [45, 46, 47, 48, 49, 50]), (9, 5, []), (9, 5, []), (9, 5, []), (9, 5, []), (9, 5, []), (9, 5, []), (9, 6, []), (9, 5, []), (9, 5, []), (9, 61, []), (2, 0, [56, 57, 58, 59, 0, 0]), (9, 6, []), (9, 6, []), (9, 6, []), (9, 5, []), (2, 0, [61, 62, 63, 64, 0, 0]), (9, 6, []), (9, 6, []), (9, 6, []), (9, 5, []), (2, 0, [66, 67, 68, 69, 0, 0]), (9, 6, []), (9, 6, []), (9, 6, []), (9, 5, []), (2, 0, [71, 72, 73, 74, 0, 0]), (9, 6, []), (9, 6, []), (9, 6, []), (9, 5, []), (2, 0, [76, 77, 78, 79, 0, 0]), (9, 6, []), (9, 6, []), (9, 6, []), (9, 5, []), (2, 0, [81, 82, 83, 84, 0, 0]), (9, 6, []), (9, 6, []), (9, 6, []), (9, 5, []), (2, 0, [86, 87, 88, 89, 0, 0]), (9, 6, []), (9, 6, []), (9, 6, []), (9, 5, []), (2, 0, [91, 92, 93, 94, 0, 0]), (9, 6, []), (9, 6, []), (9, 6, []), (9, 5, []), (2, 0, [96, 97, 98, 99, 0, 0]), (9, 6, []), (9, 6, []), (9, 6, []), (9, 5, []), (2, 0, [101, 102, 103, 104, 0, 0]), (9, 6, []), (9, 6, []), (9, 6, []), (9, 5, []), (2, 0, [106, 107, 108, 109, 0, 0]), (9, 6, []), (9, 6, []), (9, 6, []), (9, 5, []), (2, 0, [111, 112, 113, 114, 0, 0]), (9, 6, []), (9, 6, []), (9, 6, []), (9, 5, []), (2, 0, [116, 117, 118, 119, 0, 0]), (9, 6, []), (9, 6, []), (9, 6, []), (9, 5, []), (2, 0, [121, 122, 123, 124, 0, 0]), (9, 6, []), (9, 6, []), (9, 6, []), (9, 5, []), (2, 0, [126, 127, 128, 129, 0, 0]), (9, 6, []), (9, 6, []), (9, 6, []), (9, 5, []), (2, 0, [131, 132, 133, 134, 0, 0]), (9, 6, []), (9, 6, []), (9, 6, []), (9, 5, []), (2, 0, [136, 137, 138, 139, 0, 0]), (9, 6, []), (9, 6, []), (9, 6, []), (9, 5, []), (2, 0, [141, 142, 143, 144, 0, 0]), (9, 6, []), (9, 6, []), (9, 6, []), (9, 5, []), (2, 0, [146, 147, 148, 149, 0, 0]), (9, 6, []), (9, 6, []), (9, 6, []), (9, 5, []), (7, 0, [0, 151, 0, 0, 0, 0, 0, 0, 0, 0, 0, 0, 152, 0, 0, 153, 154, 155, 156, 157, 158, 159, 0, 0, 160, 161, 0, 162, 163, 0, 0, 0, 0, 0, 0, 0, 0, 0, 0, 0, 0, 0, 0, 0]), (9, 900, []), (9, 8, []), (9, 202, []), (9, 202, []), (9, 25, []), (9, 25, []), (9, 25, []), (9, 400, []), (9, 75, []), (9, 5, []), (9, 25, []), (9, 5, []), (9, 5, [])]
theorem G13_eq : fa G12 150 9 5 28 = G13 := by decide +kernel
def G14 : Dl := [(6, 0, [2, 7, 20, 33, 38, 0, 0, 39, 0, 40, 41, 43, 54, 0]), (4, 0, [3, 0, 0, 0, 0, 0, 0, 0, 0, 4, 5, 6, 0, 0, 0]), (8, 900, []), (10, 15, []), (9, 15, []), (9, 15, []), (3, 0, [0, 0, 0, 0, 0, 8, 9, 10, 11, 12, 0, 13, 14, 15, 0, 16, 17, 0, 18, 19]), (9, 6, []), (9, 6, []), (9, 6, []), (9, 6, []), (9, 6, []), (9, 5, []), (9, 5, []), (9, 5, []), (9, 4, []), (9, 4, []), (9, 4, []), (9, 4, []), (3, 0, [0, 0, 0, 0, 0, 21, 22, 23, 24, 25, 0, 26, 27, 28, 0, 29, 30, 0, 31, 32]), (9, 6, []), (9, 6, []), (9, 6, []), (9, 6, []), (9, 6, []), (9, 5, []), (9, 5, []), (9, 5, []), (9, 4, []), (9, 4, []), (9, 4, []), (9, 4, []), (2, 0, [34, 35, 36, 37, 0, 0]), (9, 6, []), (9, 6, []), (9, 6, []), (9, 5, []), (11, 16, [55, 60, 65, 70, 75, 80, 85, 90, 95, 100, 105, 110, 115, 120, 125, 130]), (11, 3, [135, 140, 145]), (0, 0, [0, 0, 0, 0, 0, 0, 0, 0]), (5, 0, [42, 0]), (9, 20, []), (1, 0, [44, 51, 52, 53, 0, 0, 0, 0, 0]), (12, 6, [45, 46, 47, 48, 49, 50]), (9, 5, []), (9, 5, []), (9, 5, []), (9, 5, []), (9, 5, []), (9, 5, []), (9, 6, []), (9, 5, []), (9, 5, []), (9, 61, []), (2, 0, [56, 57, 58, 59, 0, 0]), (9, 6, []), (9, 6, []), (9, 6, []), (9, 5, []), (2, 0, [61, 62, 63, 64, 0, 0]), (9, 6, []), (9, 6, []), (9, 6, []), (9, 5, []), (2, 0, [66, 67, 68, 69, 0, 0]), (9, 6, []), (9, 6, []), (9, 6, []), (9, 5, []), (2, 0, [71, 72, 73, 74, 0, 0]), (9, 6, []), (9, 6, []), (9, 6, []), (9, 5, []), (2, 0, [76, 77, 78, 79, 0, 0]), (9, 6, []), (9, 6, []), (9, 6, []), (9, 5, []), (2, 0, [81, 82, 83, 84, 0, 0]), (9, 6, []), (9, 6, []), (9, 6, []), (9, 5, []), (2, 0, [86, 87, 88, 89, 0, 0]), (9, 6, []), (9, 6, []), (9, 6, []), (9, 5, []), (2, 0, [91, 92, 93, 94, 0, 0]), (9, 6, []), (9, 6, []), (9, 6, []), (9, 5, []), (2, 0, [96, 97, 98, 99, 0, 0]), (9, 6, []), (9, 6, []), (9, 6, []), (9, 5, []), (2, 0, [101, 102, 103, 104, 0, 0]), (9, 6, []), (9, 6, []), (9, 6, []), (9, 5, []), (2, 0, [106, 107, 108, 109, 0, 0]), (9, 6, []), (9, 6, []), (9, 6, []), (9, 5, []), (2, 0, [111, 112, 113, 114, 0, 0]), (9, 6, []), (9, 6, []), (9, 6, []), (9, 5, []), (2, 0, [116, 117, 118, 119, 0, 0]), (9, 6, []), (9, 6, []), (9, 6, []), (9, 5, []), (2, 0, [121, 122, 123, 124, 0, 0]), (9, 6, []), (9, 6, []), (9, 6, []), (9, 5, []), (2, 0, [126, 127, 128, 129, 0, 0]), (9, 6, []), (9, 6, []), (9, 6, []), (9, 5, []), (2, 0, [131, 132, 133, 134, 0, 0]), (9, 6, []), (9, 6, []), (9, 6, []), (9, 5, []), (2, 0, [136, 137, 138, 139, 0, 0]), (9, 6, []), (9, 6, []), (9, 6, []), (9, 5, []), (2, 0, [141, 142, 143, 144, 0, 0]), (9, 6, []), (9, 6, []), (9, 6, []), (9, 5, []), (2, 0, [146, 147, 148, 149, 0, 0]), (9, 6, []), (9, 6, []), (9, 6, []), (9, 5, []), (7, 0, [0, 151, 0, 0, 0, 0, 0, 0, 0, 0, 0, 0, 152, 0, 0, 153, 154, 155, 156, 157, 158, 159, 0, 0, 160, 161, 0, 162, 163, 0, 0, 0, 0, 164, 0, 0, 0, 0, 0, 0, 0, 0, 0, 0]), (9, 900, []), (9, 8, []), (9, 202, []), (9, 202, []), (9, 25, []), (9, 25, []), (9, 25, []), (9, 400, []), (9, 75, []), (9, 5, []), (9, 25, []), (9, 5, []), (9, 5, []), (9, 20, [])]
theorem G14_eq : fa G13 150 9 20 33 = G14 := by decide +kernel
def G15 : Dl := [(6, 0, [2, 7, 20, 33, 38, 0, 0, 39, 0, 40, 41, 43, 54, 0]), (4, 0, [3, 0, 0, 0, 0, 0, 0, 0, 0, 4, 5, 6, 0, 0, 0]), (8, 900, []), (10, 15, []), (9, 15, []), (9, 15, []), (3, 0, [0, 0, 0, 0, 0, 8, 9, 10, 11, 12, 0, 13, 14, 15, 0, 16, 17, 0, 18, 19]), (9, 6, []), (9, 6, []), (9, 6, []), (9, 6, []), (9, 6, []), (9, 5, []), (9, 5, []), (9, 5, []), (9, 4, []), (9, 4, []), (9, 4, []), (9, 4, []), (3, 0, [0, 0, 0, 0, 0, 21, 22, 23, 24, 25, 0, 26, 27, 28, 0, 29, 30, 0, 31, 32]), (9, 6, []), (9, 6, []), (9, 6, []), (9, 6, []), (9, 6, []), (9, 5, []), (9, 5, []), (9, 5, []), (9, 4, []), (9, 4, []), (9, 4, []), (9, 4, []), (2, 0, [34, 35, 36, 37, 0, 0]), (9, 6, []), (9, 6, []), (9, 6, []), (9, 5, []), (11, 16, [55, 60, 65, 70, 75, 80, 85, 90, 95, 100, 105, 110, 115, 120, 125, 130]), (11, 3, [135, 140, 145]), (0, 0, [0, 0, 0, 0, 0, 0, 0, 0]), (5, 0, [42, 0]), (9, 20, []), (1, 0, [44, 51, 52, 53, 0, 0, 0, 0, 0]), (12, 6, [45, 46, 47, 48, 49, 50]), (9, 5, []), (9, 5, []), (9, 5, []), (9, 5, []), (9, 5, []), (9, 5, []), (9, 6, []), (9, 5, []), (9, 5, []), (9, 61, []), (2, 0, [56, 57, 58, 59, 0, 0]), (9, 6, []), (9, 6, []), (9, 6, []), (9, 5, []), (2, 0, [61, 62, 63, 64, 0, 0]), (9, 6, []), (9, 6, []), (9, 6, []), (9, 5, []), (2, 0, [66, 67, 68, 69, 0, 0]), (9, 6, []), (9, 6, []), (9, 6, []), (9, 5, []), (2, 0, [71, 72, 73, 74, 0, 0]), (9, 6, []), (9, 6, []), (9, 6, []), (9, 5, []), (2, 0, [76, 77, 78, 79, 0, 0]), (9, 6, []), (9, 6, []), (9, 6, []), (9, 5, []), (2, 0, [81, 82, 83, 84, 0, 0]), (9, 6, []), (9, 6, []), (9, 6, []), (9, 5, []), (2, 0, [86, 87, 88, 89, 0, 0]), (9, 6, []), (9, 6, []), (9, 6, []), (9, 5, []), (2, 0, [91, 92, 93, 94, 0, 0]), (9, 6, []), (9, 6, []), (9, 6, []), (9, 5, []), (2, 0, [96, 97, 98, 99, 0, 0]), (9, 6, []), (9, 6, []), (9, 6, []), (9, 5, []), (2, 0, [101, 102, 103, 104, 0, 0]), (9, 6, []), (9, 6, []), (9, 6, []), (9, 5, []), (2, 0, [106, 107, 108, 109, 0, 0]), (9, 6, []), (9, 6, []), (9, 6, []), (9, 5, []), (2, 0, [111, 112, 113, 114, 0, 0]), (9, 6, []), (9, 6, []), (9, 6, []), (9, 5, []), (2, 0, [116, 117, 118, 119, 0, 0]), (9, 6, []), (9, 6, []), (9, 6, []), (9, 5, []), (2, 0, [121, 122, 123, 124, 0, 0]), (9, 6, []), (9, 6, []), (9, 6, []), (9, 5, []), (2, 0, [126, 127, 128, 129, 0, 0]), (9, 6, []), (9, 6, []), (9, 6, []), (9, 5, []), (2, 0, [131, 132, 133, 134, 0, 0]), (9, 6, []), (9, 6, []), (9, 6, []), (9, 5, []), (2, 0, [136, 137, 138, 139, 0, 0]), (9, 6, []), (9, 6, []), (9, 6, []), (9, 5, []), (2, 0, [141, 142, 143, 144, 0, 0]), (9, 6, []), (9, 6, []), (9, 6, []), (9, 5, []), (2, 0, [146, 147, 148, 149, 0, 0]), (9, 6, []), (9, 6, []), (9, 6, []), (9, 5, []), (7, 0, [0, 151, 0, 0, 0, 0, 0, 0, 0, 0, 0, 0, 152, 0, 0, 153, 154, 155, 156, 157, 158, 159, 0, 0, 160, 161, 0, 162, 163, 0, 0, 0, 0, 164, 165, 0, 0, 0, 0, 0, 0, 0, 0, 0]), (9, 900, []), (9, 8, []), (9, 202, []), (9, 202, []), (9, 25, []), (9, 25, []), (9, 25, []), (9, 400, []), (9, 75, []), (9, 5, []), (9, 25, []), (9, 5, []), (9, 5, []), (9, 20, []), (9, 6, [])]
theorem G15_eq : fa G14 150 9 6 34 = G15 := by decide +kernel
def G16 : Dl := [(6, 0, [2, 7, 20, 33, 38, 0, 0, 39, 0, 40, 41, 43, 54, 0]), (4, 0, [3, 0, 0, 0, 0, 0, 0, 0, 0, 4, 5, 6, 0, 0, 0]), (8, 900, []), (10, 15, []), (9, 15, []), (9, 15, []), (3, 0, [0, 0, 0, 0, 0, 8, 9, 10, 11, 12, 0, 13, 14, 15, 0, 16, 17, 0, 18, 19]), (9, 6, []), (9, 6, []), (9, 6, []), (9, 6, []), (9, 6, []), (9, 5, []), (9, 5, []), (9, 5, []), (9, 4, []), (9, 4, []), (9, 4, []), (9, 4, []), (3, 0, [0, 0, 0, 0, 0, 21, 22, 23, 24, 25, 0, 26, 27, 28, 0, 29, 30, 0, 31, 32]), (9, 6, []), (9, 6, []), (9, 6, []), (9, 6, []), (9, 6, []), (9, 5, []), (9, 5, []), (9, 5, []), (9, 4, []), (9, 4, []), (9, 4, []), (9, 4, []), (2, 0, [34, 35, 36, 37, 0, 0]), (9, 6, []), (9, 6, []), (9, 6, []), (9, 5, []), (11, 16, [55, 60, 65, 70, 75, 80, 85, 90, 95, 100, 105, 110, 115, 120, 125, 130]), (11, 3, [135, 140, 145]), (0, 0, [0, 0, 0, 0, 0, 0, 0, 0]), (5, 0, [42, 0]), (9, 20, []), (1, 0, [44, 51, 52, 53, 0, 0, 0, 0, 0]), (12, 6, [45, 46, 47, 48, 49, 50]), (9, 5, []), (9, 5, []), (9, 5, []), (9, 5, []), (9, 5, []), (9, 5, []), (9, 6, []), (9, 5, []), (9, 5, []), (9, 61, []), (2, 0, [56, 57, 58, 59, 0, 0]), (9, 6, []), (9, 6, []), (9, 6, []), (9, 5, []), (2, 0, [61, 62, 63, 64, 0, 0]), (9, 6, []), (9, 6, []), (9, 6, []), (9, 5, []), (2, 0, [66, 67, 68, 69, 0, 0]), (9, 6, []), (9, 6, []), (9, 6, []), (9, 5, []), (2, 0, [71, 72, 73, 74, 0, 0]), (9, 6, []), (9, 6, []), (9, 6, []), (9, 5, []), (2, 0, [76, 77, 78, 79, 0, 0]), (9, 6, []), (9, 6, []), (9, 6, []), (9, 5, []), (2, 0, [81, 82, 83, 84, 0, 0]), (9, 6, []), (9, 6, []), (9, 6, []), (9, 5, []), (2, 0, [86, 87, 88, 89, 0, 0]), (9, 6, []), (9, 6, []), (9, 6, []), (9, 5, []), (2, 0, [91, 92, 93, 94, 0, 0]), (9, 6, []), (9, 6, []), (9, 6, []), (9, 5, []), (2, 0, [96, 97, 98, 99, 0, 0]), (9, 6, []), (9, 6, []), (9, 6, []), (9, 5, []), (2, 0, [101, 102, 103, 104, 0, 0]), (9, 6, []), (9, 6, []), (9, 6, []), (9, 5, []), (2, 0, [106, 107, 108, 109, 0, 0]), (9, 6, []), (9, 6, []), (9, 6, []), (9, 5, []), (2, 0, [111, 112, 113, 114, 0, 0]), (9, 6, []), (9, 6, []), (9, 6, []), (9, 5, []), (2, 0, [116, 117, 118, 119, 0, 0]), (9, 6, []), (9, 6, []), (9, 6, []), (9, 5, []), (2, 0, [121, 122, 123, 124, 0, 0]), (9, 6, []), (9, 6, []), (9, 6, []), (9, 5, []), (2, 0, [126, 127, 128, 129, 0, 0]), (9, 6, []), (9, 6, []), (9, 6, []), (9, 5, []), (2, 0, [131, 132, 133, 134, 0, 0]), (9, 6, []), (9, 6, []), (9, 6, []), (9, 5, []), (2, 0, [136, 137, 138, 139, 0, 0]), (9, 6, []), (9, 6, []), (9, 6, []), (9, 5, []), (2, 0, [141, 142, 143, 144, 0, 0]), (9, 6, []), (9, 6, []), (9, 6, []), (9, 5, []), (2, 0, [146, 147, 148, 149, 0, 0]), (9, 6, []), (9, 6, []), (9, 6, []), (9, 5, []), (7, 0, [0, 151, 0, 0, 0, 0, 0, 0, 0, 0, 0, 0, 152, 0, 0, 153, 154, 155, 156, 157, 158, 159, 0, 0, 160, 161, 0, 162, 163, 0, 0, 0, 0, 164, 165, 166, 0, 0, 0, 0, 0, 0, 0, 0]), (9, 900, []), (9, 8, []), (9, 202, []), (9, 202, []), (9, 25, []), (9, 25, []), (9, 25, []), (9, 400, []), (9, 75, []), (9, 5, []), (9, 25, []), (9, 5, []), (9, 5, []), (9, 20, []), (9, 6, []), (9, 4, [])]
theorem G16_eq : fa G15 150 9 4 35 = G16 := by decide +kernel
theorem cX7_eq : cX7 G0 150 = G16 := by
  unfold cX7
  rw [G1_eq, G2_eq, G3_eq, G4_eq, G5_eq, G6_eq, G7_eq, G8_eq, G9_eq, G10_eq, G11_eq, G12_eq, G13_eq, G14_eq, G15_eq, G16_eq]
def GZ : Dl := [(6, 0, [2, 7, 20, 33, 38, 0, 0, 39, 0, 40, 41, 43, 54, 0]), (4, 0, [3, 0, 0, 0, 0, 0, 0, 0, 0, 4, 5, 6, 0, 0, 0]), (8, 900, []), (10, 15, []), (9, 15, []), (9, 15, []), (3, 0, [0, 0, 0, 0, 0, 8, 9, 10, 11, 12, 0, 13, 14, 15, 0, 16, 17, 0, 18, 19]), (9, 6, []), (9, 6, []), (9, 6, []), (9, 6, []), (9, 6, []), (9, 5, []), (9, 5, []), (9, 5, []), (9, 4, []), (9, 4, []), (9, 4, []), (9, 4, []), (3, 0, [0, 0, 0, 0, 0, 21, 22, 23, 24, 25, 0, 26, 27, 28, 0, 29, 30, 0, 31, 32]), (9, 6, []), (9, 6, []), (9, 6, []), (9, 6, []), (9, 6, []), (9, 5, []), (9, 5, []), (9, 5, []), (9, 4, []), (9, 4, []), (9, 4, []), (9, 4, []), (2, 0, [34, 35, 36, 37, 0, 0]), (9, 6, []), (9, 6, []), (9, 6, []), (9, 5, []), (11, 16, [55, 60, 65, 70, 75, 80, 85, 90, 95, 100, 105, 110, 115, 120, 125, 130]), (11, 3, [135, 140, 145]), (0, 0, [0, 0, 0, 0, 0, 0, 0, 0]), (5, 0, [42, 0]), (9, 20, []), (1, 0, [44, 51, 52, 53, 0, 0, 0, 0, 0]), (12, 6, [45, 46, 47, 48, 49, 50]), (9, 5, []), (9, 5, []), (9, 5, []), (9, 5, []), (9, 5, []), (9, 5, []), (9, 6, []), (9, 5, []), (9, 5, []), (9, 61, []), (2, 0, [56, 57, 58, 59, 0, 0]), (9, 6, []), (9, 6, []), (9, 6, []), (9, 5, []), (2, 0, [61, 62, 63, 64, 0, 0]), (9, 6, []), (9, 6, []), (9, 6, []), (9, 5, []), (2, 0, [66, 67, 68, 69, 0, 0]), (9, 6, []), (9, 6, []), (9, 6, []), (9, 5, []), (2, 0, [71, 72, 73, 74, 0, 0]), (9, 6, []), (9, 6, []), (9, 6, []), (9, 5, []), (2, 0, [76, 77, 78, 79, 0, 0]), (9, 6, []), (9, 6, []), (9, 6, []), (9, 5, []), (2, 0, [81, 82, 83, 84, 0, 0]), (9, 6, []), (9, 6, []), (9, 6, []), (9, 5, []), (2, 0, [86, 87, 88, 89, 0, 0]), (9, 6, []), (9, 6, []), (9, 6, []), (9, 5, []), (2, 0, [91, 92, 93, 94, 0, 0]), (9, 6, []), (9, 6, []), (9, 6, []), (9, 5, []), (2, 0, [96, 97, 98, 99, 0, 0]), (9, 6, []), (9, 6, []), (9, 6, []), (9, 5, []), (2, 0, [101, 102, 103, 104, 0, 0]), (9, 6, []), (9, 6, []), (9, 6, []), (9, 5, []), (2, 0, [106, 107, 108, 109, 0, 0]), (9, 6, []), (9, 6, []), (9, 6, []), (9, 5, []), (2, 0, [111, 112, 113, 114, 0, 0]), (9, 6, []), (9, 6, []), (9, 6, []), (9, 5, []), (2, 0, [116, 117, 118, 119, 0, 0]), (9, 6, []), (9, 6, []), (9, 6, []), (9, 5, []), (2, 0, [121, 122, 123, 124, 0, 0]), (9, 6, []), (9, 6, []), (9, 6, []), (9, 5, []), (2, 0, [126, 127, 128, 129, 0, 0]), (9, 6, []), (9, 6, []), (9, 6, []), (9, 5, []), (2, 0, [131, 132, 133, 134, 0, 0]), (9, 6, []), (9, 6, []), (9, 6, []), (9, 5, []), (2, 0, [136, 137, 138, 139, 0, 0]), (9, 6, []), (9, 6, []), (9, 6, []), (9, 5, []), (2, 0, [141, 142, 143, 144, 0, 0]), (9, 6, []), (9, 6, []), (9, 6, []), (9, 5, []), (2, 0, [146, 147, 148, 149, 0, 0]), (9, 6, []), (9, 6, []), (9, 6, []), (9, 5, []), (7, 0, [0, 151, 0, 0, 0, 0, 0, 0, 0, 0, 0, 0, 152, 0, 0, 153, 154, 155, 156, 157, 158, 159, 0, 0, 160, 161, 0, 162, 163, 0, 0, 0, 0, 164, 165, 166, 0, 0, 0, 0, 0, 0, 0, 0]), (9, 900, []), (9, 8, []), (9, 202, []), (9, 202, []), (9, 25, []), (9, 25, []), (9, 25, []), (9, 400, []), (9, 75, []), (9, 5, []), (9, 25, []), (9, 5, []), (9, 5, []), (9, 20, []), (9, 6, []), (9, 4, []), (10, 1, [])]
theorem GZ_eq : dA G16 10 1 0 = GZ := by decide +kernel
end
