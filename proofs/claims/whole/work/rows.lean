section
-- ===== PART A: goes FIRST, ahead of the names: the tables' words, and 'selects' of the private methods out of them =====
/-- a private method of a class that the tables say can be made, by its rows of tables_1 -/
def lw_okq (q : MethodName × Nat) : Prop := (q.1.cls ≠ "java/lang/invoke/MethodHandle" ∧ q.1.cls ≠ "java/lang/invoke/VarHandle") ∧ Cond.instantiable q.1.cls q.2 ∈ tables_1 ∧ Cond.privateMethod q.1 ∈ tables_1 ∧ Cond.instanceMethod q.1 ∈ tables_1
theorem lw_p0 : lw_okq (⟨"GargoyleClose", "refuse", "(I)I"⟩, 14) := ⟨⟨by decide +kernel, by decide +kernel⟩, List.mem_of_getElem? (i := 21) (by decide +kernel), List.mem_of_getElem? (i := 373) (by decide +kernel), List.mem_of_getElem? (i := 374) (by decide +kernel)⟩
theorem lw_p1 : lw_okq (⟨"GargoyleClose$Reader", "take", "()V"⟩, 15) := ⟨⟨by decide +kernel, by decide +kernel⟩, List.mem_of_getElem? (i := 29) (by decide +kernel), List.mem_of_getElem? (i := 388) (by decide +kernel), List.mem_of_getElem? (i := 389) (by decide +kernel)⟩
theorem lw_p2 : lw_okq (⟨"GargoyleClose$Reader", "takeWord", "()V"⟩, 15) := ⟨⟨by decide +kernel, by decide +kernel⟩, List.mem_of_getElem? (i := 29) (by decide +kernel), List.mem_of_getElem? (i := 392) (by decide +kernel), List.mem_of_getElem? (i := 393) (by decide +kernel)⟩
theorem lw_p3 : lw_okq (⟨"GargoyleClose$Reader", "takeWhole", "()V"⟩, 15) := ⟨⟨by decide +kernel, by decide +kernel⟩, List.mem_of_getElem? (i := 29) (by decide +kernel), List.mem_of_getElem? (i := 397) (by decide +kernel), List.mem_of_getElem? (i := 398) (by decide +kernel)⟩
theorem lw_p4 : lw_okq (⟨"GargoyleClose$Reader", "readsLine", "()Z"⟩, 15) := ⟨⟨by decide +kernel, by decide +kernel⟩, List.mem_of_getElem? (i := 29) (by decide +kernel), List.mem_of_getElem? (i := 401) (by decide +kernel), List.mem_of_getElem? (i := 402) (by decide +kernel)⟩
theorem lw_p5 : lw_okq (⟨"GargoyleClose$Reader", "beginsLine", "()Z"⟩, 15) := ⟨⟨by decide +kernel, by decide +kernel⟩, List.mem_of_getElem? (i := 29) (by decide +kernel), List.mem_of_getElem? (i := 405) (by decide +kernel), List.mem_of_getElem? (i := 406) (by decide +kernel)⟩
theorem lw_p6 : lw_okq (⟨"GargoyleClose$Reader", "isWord", "(Ljava/lang/String;)Z"⟩, 15) := ⟨⟨by decide +kernel, by decide +kernel⟩, List.mem_of_getElem? (i := 29) (by decide +kernel), List.mem_of_getElem? (i := 410) (by decide +kernel), List.mem_of_getElem? (i := 411) (by decide +kernel)⟩
theorem lw_p7 : lw_okq (⟨"GargoyleClose$Reader", "fails", "(I)Z"⟩, 15) := ⟨⟨by decide +kernel, by decide +kernel⟩, List.mem_of_getElem? (i := 29) (by decide +kernel), List.mem_of_getElem? (i := 468) (by decide +kernel), List.mem_of_getElem? (i := 469) (by decide +kernel)⟩
theorem lw_p8 : lw_okq (⟨"GargoyleClose$Reader", "readsClose", "()Z"⟩, 15) := ⟨⟨by decide +kernel, by decide +kernel⟩, List.mem_of_getElem? (i := 29) (by decide +kernel), List.mem_of_getElem? (i := 472) (by decide +kernel), List.mem_of_getElem? (i := 473) (by decide +kernel)⟩
theorem lw_p9 : lw_okq (⟨"GargoyleClose$Reader", "labelled", "(Ljava/lang/String;II)Z"⟩, 15) := ⟨⟨by decide +kernel, by decide +kernel⟩, List.mem_of_getElem? (i := 29) (by decide +kernel), List.mem_of_getElem? (i := 477) (by decide +kernel), List.mem_of_getElem? (i := 478) (by decide +kernel)⟩
theorem lw_p10 : lw_okq (⟨"GargoyleClose$Reader", "bounded", "(II)Z"⟩, 15) := ⟨⟨by decide +kernel, by decide +kernel⟩, List.mem_of_getElem? (i := 29) (by decide +kernel), List.mem_of_getElem? (i := 481) (by decide +kernel), List.mem_of_getElem? (i := 482) (by decide +kernel)⟩
theorem lw_p11 : lw_okq (⟨"GargoyleClose$Reader", "readsWall", "()Z"⟩, 15) := ⟨⟨by decide +kernel, by decide +kernel⟩, List.mem_of_getElem? (i := 29) (by decide +kernel), List.mem_of_getElem? (i := 490) (by decide +kernel), List.mem_of_getElem? (i := 491) (by decide +kernel)⟩
theorem lw_p12 : lw_okq (⟨"GargoyleClose$Reader", "readsFace", "()Z"⟩, 15) := ⟨⟨by decide +kernel, by decide +kernel⟩, List.mem_of_getElem? (i := 29) (by decide +kernel), List.mem_of_getElem? (i := 512) (by decide +kernel), List.mem_of_getElem? (i := 513) (by decide +kernel)⟩
theorem lw_p13 : lw_okq (⟨"GargoyleClose$Reader", "tells", "(II)Z"⟩, 15) := ⟨⟨by decide +kernel, by decide +kernel⟩, List.mem_of_getElem? (i := 29) (by decide +kernel), List.mem_of_getElem? (i := 516) (by decide +kernel), List.mem_of_getElem? (i := 517) (by decide +kernel)⟩
theorem lw_p14 : lw_okq (⟨"GargoyleClose$Reader", "nameAt", "()I"⟩, 15) := ⟨⟨by decide +kernel, by decide +kernel⟩, List.mem_of_getElem? (i := 29) (by decide +kernel), List.mem_of_getElem? (i := 520) (by decide +kernel), List.mem_of_getElem? (i := 521) (by decide +kernel)⟩
theorem lw_p15 : lw_okq (⟨"GargoyleClose$Reader", "kindHere", "()I"⟩, 15) := ⟨⟨by decide +kernel, by decide +kernel⟩, List.mem_of_getElem? (i := 29) (by decide +kernel), List.mem_of_getElem? (i := 524) (by decide +kernel), List.mem_of_getElem? (i := 525) (by decide +kernel)⟩
def lw_privs_1 : List (MethodName × Nat) := [(⟨"GargoyleClose", "refuse", "(I)I"⟩, 14), (⟨"GargoyleClose$Reader", "take", "()V"⟩, 15), (⟨"GargoyleClose$Reader", "takeWord", "()V"⟩, 15), (⟨"GargoyleClose$Reader", "takeWhole", "()V"⟩, 15), (⟨"GargoyleClose$Reader", "readsLine", "()Z"⟩, 15), (⟨"GargoyleClose$Reader", "beginsLine", "()Z"⟩, 15), (⟨"GargoyleClose$Reader", "isWord", "(Ljava/lang/String;)Z"⟩, 15), (⟨"GargoyleClose$Reader", "fails", "(I)Z"⟩, 15), (⟨"GargoyleClose$Reader", "readsClose", "()Z"⟩, 15), (⟨"GargoyleClose$Reader", "labelled", "(Ljava/lang/String;II)Z"⟩, 15), (⟨"GargoyleClose$Reader", "bounded", "(II)Z"⟩, 15), (⟨"GargoyleClose$Reader", "readsWall", "()Z"⟩, 15), (⟨"GargoyleClose$Reader", "readsFace", "()Z"⟩, 15), (⟨"GargoyleClose$Reader", "tells", "(II)Z"⟩, 15), (⟨"GargoyleClose$Reader", "nameAt", "()I"⟩, 15), (⟨"GargoyleClose$Reader", "kindHere", "()I"⟩, 15)]
theorem lw_r1 : ∀ q ∈ lw_privs_1, lw_okq q := List.forall_mem_cons.mpr ⟨lw_p0, List.forall_mem_cons.mpr ⟨lw_p1, List.forall_mem_cons.mpr ⟨lw_p2, List.forall_mem_cons.mpr ⟨lw_p3, List.forall_mem_cons.mpr ⟨lw_p4, List.forall_mem_cons.mpr ⟨lw_p5, List.forall_mem_cons.mpr ⟨lw_p6, List.forall_mem_cons.mpr ⟨lw_p7, List.forall_mem_cons.mpr ⟨lw_p8, List.forall_mem_cons.mpr ⟨lw_p9, List.forall_mem_cons.mpr ⟨lw_p10, List.forall_mem_cons.mpr ⟨lw_p11, List.forall_mem_cons.mpr ⟨lw_p12, List.forall_mem_cons.mpr ⟨lw_p13, List.forall_mem_cons.mpr ⟨lw_p14, List.forall_mem_cons.mpr ⟨lw_p15, fun _ h => absurd h List.not_mem_nil⟩⟩⟩⟩⟩⟩⟩⟩⟩⟩⟩⟩⟩⟩⟩⟩
theorem lw_p16 : lw_okq (⟨"GargoyleClose$Reader", "readsCanon", "()Z"⟩, 15) := ⟨⟨by decide +kernel, by decide +kernel⟩, List.mem_of_getElem? (i := 29) (by decide +kernel), List.mem_of_getElem? (i := 538) (by decide +kernel), List.mem_of_getElem? (i := 539) (by decide +kernel)⟩
theorem lw_p17 : lw_okq (⟨"GargoyleClose$Reader", "named", "(I)I"⟩, 15) := ⟨⟨by decide +kernel, by decide +kernel⟩, List.mem_of_getElem? (i := 29) (by decide +kernel), List.mem_of_getElem? (i := 542) (by decide +kernel), List.mem_of_getElem? (i := 543) (by decide +kernel)⟩
theorem lw_p18 : lw_okq (⟨"GargoyleClose$Reader", "readsWalker", "()Z"⟩, 15) := ⟨⟨by decide +kernel, by decide +kernel⟩, List.mem_of_getElem? (i := 29) (by decide +kernel), List.mem_of_getElem? (i := 552) (by decide +kernel), List.mem_of_getElem? (i := 553) (by decide +kernel)⟩
theorem lw_p19 : lw_okq (⟨"GargoyleClose$Reader", "readsUnsure", "()Z"⟩, 15) := ⟨⟨by decide +kernel, by decide +kernel⟩, List.mem_of_getElem? (i := 29) (by decide +kernel), List.mem_of_getElem? (i := 558) (by decide +kernel), List.mem_of_getElem? (i := 559) (by decide +kernel)⟩
theorem lw_p20 : lw_okq (⟨"GargoyleClose$Reader", "readsDropped", "()Z"⟩, 15) := ⟨⟨by decide +kernel, by decide +kernel⟩, List.mem_of_getElem? (i := 29) (by decide +kernel), List.mem_of_getElem? (i := 566) (by decide +kernel), List.mem_of_getElem? (i := 567) (by decide +kernel)⟩
theorem lw_p21 : lw_okq (⟨"GargoyleClose", "answer", "(I)I"⟩, 14) := ⟨⟨by decide +kernel, by decide +kernel⟩, List.mem_of_getElem? (i := 21) (by decide +kernel), List.mem_of_getElem? (i := 578) (by decide +kernel), List.mem_of_getElem? (i := 579) (by decide +kernel)⟩
theorem lw_p22 : lw_okq (⟨"GargoyleClose", "isFace", "(I)Z"⟩, 14) := ⟨⟨by decide +kernel, by decide +kernel⟩, List.mem_of_getElem? (i := 21) (by decide +kernel), List.mem_of_getElem? (i := 594) (by decide +kernel), List.mem_of_getElem? (i := 595) (by decide +kernel)⟩
theorem lw_p23 : lw_okq (⟨"GargoyleClose", "canonOf", "(I)I"⟩, 14) := ⟨⟨by decide +kernel, by decide +kernel⟩, List.mem_of_getElem? (i := 21) (by decide +kernel), List.mem_of_getElem? (i := 602) (by decide +kernel), List.mem_of_getElem? (i := 603) (by decide +kernel)⟩
theorem lw_p24 : lw_okq (⟨"GargoyleClose", "isCanon", "(I)Z"⟩, 14) := ⟨⟨by decide +kernel, by decide +kernel⟩, List.mem_of_getElem? (i := 21) (by decide +kernel), List.mem_of_getElem? (i := 610) (by decide +kernel), List.mem_of_getElem? (i := 611) (by decide +kernel)⟩
theorem lw_p25 : lw_okq (⟨"GargoyleClose", "isCell", "(I)Z"⟩, 14) := ⟨⟨by decide +kernel, by decide +kernel⟩, List.mem_of_getElem? (i := 21) (by decide +kernel), List.mem_of_getElem? (i := 618) (by decide +kernel), List.mem_of_getElem? (i := 619) (by decide +kernel)⟩
theorem lw_p26 : lw_okq (⟨"GargoyleClose", "hasClose", "()Z"⟩, 14) := ⟨⟨by decide +kernel, by decide +kernel⟩, List.mem_of_getElem? (i := 21) (by decide +kernel), List.mem_of_getElem? (i := 638) (by decide +kernel), List.mem_of_getElem? (i := 639) (by decide +kernel)⟩
theorem lw_p27 : lw_okq (⟨"GargoyleClose", "canFollow", "(II)Z"⟩, 14) := ⟨⟨by decide +kernel, by decide +kernel⟩, List.mem_of_getElem? (i := 21) (by decide +kernel), List.mem_of_getElem? (i := 646) (by decide +kernel), List.mem_of_getElem? (i := 647) (by decide +kernel)⟩
theorem lw_p28 : lw_okq (⟨"GargoyleClose", "numberFits", "(III)Z"⟩, 14) := ⟨⟨by decide +kernel, by decide +kernel⟩, List.mem_of_getElem? (i := 21) (by decide +kernel), List.mem_of_getElem? (i := 650) (by decide +kernel), List.mem_of_getElem? (i := 651) (by decide +kernel)⟩
theorem lw_p29 : lw_okq (⟨"GargoyleClose", "follow", "(II)V"⟩, 14) := ⟨⟨by decide +kernel, by decide +kernel⟩, List.mem_of_getElem? (i := 21) (by decide +kernel), List.mem_of_getElem? (i := 655) (by decide +kernel), List.mem_of_getElem? (i := 656) (by decide +kernel)⟩
theorem lw_p30 : lw_okq (⟨"GargoyleClose", "startNow", "(II)V"⟩, 14) := ⟨⟨by decide +kernel, by decide +kernel⟩, List.mem_of_getElem? (i := 21) (by decide +kernel), List.mem_of_getElem? (i := 659) (by decide +kernel), List.mem_of_getElem? (i := 660) (by decide +kernel)⟩
theorem lw_p31 : lw_okq (⟨"GargoyleClose", "canLookAhead", "(III)Z"⟩, 14) := ⟨⟨by decide +kernel, by decide +kernel⟩, List.mem_of_getElem? (i := 21) (by decide +kernel), List.mem_of_getElem? (i := 700) (by decide +kernel), List.mem_of_getElem? (i := 701) (by decide +kernel)⟩
def lw_privs_2 : List (MethodName × Nat) := [(⟨"GargoyleClose$Reader", "readsCanon", "()Z"⟩, 15), (⟨"GargoyleClose$Reader", "named", "(I)I"⟩, 15), (⟨"GargoyleClose$Reader", "readsWalker", "()Z"⟩, 15), (⟨"GargoyleClose$Reader", "readsUnsure", "()Z"⟩, 15), (⟨"GargoyleClose$Reader", "readsDropped", "()Z"⟩, 15), (⟨"GargoyleClose", "answer", "(I)I"⟩, 14), (⟨"GargoyleClose", "isFace", "(I)Z"⟩, 14), (⟨"GargoyleClose", "canonOf", "(I)I"⟩, 14), (⟨"GargoyleClose", "isCanon", "(I)Z"⟩, 14), (⟨"GargoyleClose", "isCell", "(I)Z"⟩, 14), (⟨"GargoyleClose", "hasClose", "()Z"⟩, 14), (⟨"GargoyleClose", "canFollow", "(II)Z"⟩, 14), (⟨"GargoyleClose", "numberFits", "(III)Z"⟩, 14), (⟨"GargoyleClose", "follow", "(II)V"⟩, 14), (⟨"GargoyleClose", "startNow", "(II)V"⟩, 14), (⟨"GargoyleClose", "canLookAhead", "(III)Z"⟩, 14)]
theorem lw_r2 : ∀ q ∈ lw_privs_2, lw_okq q := List.forall_mem_cons.mpr ⟨lw_p16, List.forall_mem_cons.mpr ⟨lw_p17, List.forall_mem_cons.mpr ⟨lw_p18, List.forall_mem_cons.mpr ⟨lw_p19, List.forall_mem_cons.mpr ⟨lw_p20, List.forall_mem_cons.mpr ⟨lw_p21, List.forall_mem_cons.mpr ⟨lw_p22, List.forall_mem_cons.mpr ⟨lw_p23, List.forall_mem_cons.mpr ⟨lw_p24, List.forall_mem_cons.mpr ⟨lw_p25, List.forall_mem_cons.mpr ⟨lw_p26, List.forall_mem_cons.mpr ⟨lw_p27, List.forall_mem_cons.mpr ⟨lw_p28, List.forall_mem_cons.mpr ⟨lw_p29, List.forall_mem_cons.mpr ⟨lw_p30, List.forall_mem_cons.mpr ⟨lw_p31, fun _ h => absurd h List.not_mem_nil⟩⟩⟩⟩⟩⟩⟩⟩⟩⟩⟩⟩⟩⟩⟩⟩
theorem lw_p32 : lw_okq (⟨"GargoyleClose", "foretellWet", "(I)V"⟩, 14) := ⟨⟨by decide +kernel, by decide +kernel⟩, List.mem_of_getElem? (i := 21) (by decide +kernel), List.mem_of_getElem? (i := 704) (by decide +kernel), List.mem_of_getElem? (i := 705) (by decide +kernel)⟩
theorem lw_p33 : lw_okq (⟨"GargoyleClose", "wetDaysOf", "(II)I"⟩, 14) := ⟨⟨by decide +kernel, by decide +kernel⟩, List.mem_of_getElem? (i := 21) (by decide +kernel), List.mem_of_getElem? (i := 712) (by decide +kernel), List.mem_of_getElem? (i := 713) (by decide +kernel)⟩
theorem lw_p34 : lw_okq (⟨"GargoyleClose", "couldHave", "(II)Z"⟩, 14) := ⟨⟨by decide +kernel, by decide +kernel⟩, List.mem_of_getElem? (i := 21) (by decide +kernel), List.mem_of_getElem? (i := 739) (by decide +kernel), List.mem_of_getElem? (i := 740) (by decide +kernel)⟩
theorem lw_p35 : lw_okq (⟨"GargoyleClose", "costIf", "(III)I"⟩, 14) := ⟨⟨by decide +kernel, by decide +kernel⟩, List.mem_of_getElem? (i := 21) (by decide +kernel), List.mem_of_getElem? (i := 743) (by decide +kernel), List.mem_of_getElem? (i := 744) (by decide +kernel)⟩
theorem lw_p36 : lw_okq (⟨"GargoyleClose", "costOf", "(III)I"⟩, 14) := ⟨⟨by decide +kernel, by decide +kernel⟩, List.mem_of_getElem? (i := 21) (by decide +kernel), List.mem_of_getElem? (i := 747) (by decide +kernel), List.mem_of_getElem? (i := 748) (by decide +kernel)⟩
theorem lw_p37 : lw_okq (⟨"GargoyleClose", "tooFewFaces", "()Z"⟩, 14) := ⟨⟨by decide +kernel, by decide +kernel⟩, List.mem_of_getElem? (i := 21) (by decide +kernel), List.mem_of_getElem? (i := 759) (by decide +kernel), List.mem_of_getElem? (i := 760) (by decide +kernel)⟩
theorem lw_p38 : lw_okq (⟨"GargoyleClose", "makeMatch", "(I)V"⟩, 14) := ⟨⟨by decide +kernel, by decide +kernel⟩, List.mem_of_getElem? (i := 21) (by decide +kernel), List.mem_of_getElem? (i := 763) (by decide +kernel), List.mem_of_getElem? (i := 764) (by decide +kernel)⟩
theorem lw_p39 : lw_okq (⟨"GargoyleClose", "canWalk", "(II)Z"⟩, 14) := ⟨⟨by decide +kernel, by decide +kernel⟩, List.mem_of_getElem? (i := 21) (by decide +kernel), List.mem_of_getElem? (i := 807) (by decide +kernel), List.mem_of_getElem? (i := 808) (by decide +kernel)⟩
theorem lw_p40 : lw_okq (⟨"GargoyleClose", "isWalker", "(I)Z"⟩, 14) := ⟨⟨by decide +kernel, by decide +kernel⟩, List.mem_of_getElem? (i := 21) (by decide +kernel), List.mem_of_getElem? (i := 811) (by decide +kernel), List.mem_of_getElem? (i := 812) (by decide +kernel)⟩
theorem lw_p41 : lw_okq (⟨"GargoyleClose", "wayCost", "(II)I"⟩, 14) := ⟨⟨by decide +kernel, by decide +kernel⟩, List.mem_of_getElem? (i := 21) (by decide +kernel), List.mem_of_getElem? (i := 815) (by decide +kernel), List.mem_of_getElem? (i := 816) (by decide +kernel)⟩
theorem lw_p42 : lw_okq (⟨"GargoyleClose$Ways", "weight", "(I)I"⟩, 2) := ⟨⟨by decide +kernel, by decide +kernel⟩, List.mem_of_getElem? (i := 264) (by decide +kernel), List.mem_of_getElem? (i := 824) (by decide +kernel), List.mem_of_getElem? (i := 825) (by decide +kernel)⟩
theorem lw_p43 : lw_okq (⟨"GargoyleClose$Ways", "leastOnward", "(LGargoyleClose$Plan;I)I"⟩, 2) := ⟨⟨by decide +kernel, by decide +kernel⟩, List.mem_of_getElem? (i := 264) (by decide +kernel), List.mem_of_getElem? (i := 829) (by decide +kernel), List.mem_of_getElem? (i := 830) (by decide +kernel)⟩
theorem lw_p44 : lw_okq (⟨"GargoyleClose$Ways", "next", "(LGargoyleClose$Plan;II)I"⟩, 2) := ⟨⟨by decide +kernel, by decide +kernel⟩, List.mem_of_getElem? (i := 264) (by decide +kernel), List.mem_of_getElem? (i := 833) (by decide +kernel), List.mem_of_getElem? (i := 834) (by decide +kernel)⟩
theorem lw_p45 : lw_okq (⟨"GargoyleClose$Ways", "firstStep", "(LGargoyleClose$Plan;I)I"⟩, 2) := ⟨⟨by decide +kernel, by decide +kernel⟩, List.mem_of_getElem? (i := 264) (by decide +kernel), List.mem_of_getElem? (i := 853) (by decide +kernel), List.mem_of_getElem? (i := 854) (by decide +kernel)⟩
theorem lw_p46 : lw_okq (⟨"GargoyleClose", "stepsTogether", "(I)I"⟩, 14) := ⟨⟨by decide +kernel, by decide +kernel⟩, List.mem_of_getElem? (i := 21) (by decide +kernel), List.mem_of_getElem? (i := 865) (by decide +kernel), List.mem_of_getElem? (i := 866) (by decide +kernel)⟩
theorem lw_p47 : lw_okq (⟨"GargoyleClose", "fittingSets", "()I"⟩, 14) := ⟨⟨by decide +kernel, by decide +kernel⟩, List.mem_of_getElem? (i := 21) (by decide +kernel), List.mem_of_getElem? (i := 873) (by decide +kernel), List.mem_of_getElem? (i := 874) (by decide +kernel)⟩
def lw_privs_3 : List (MethodName × Nat) := [(⟨"GargoyleClose", "foretellWet", "(I)V"⟩, 14), (⟨"GargoyleClose", "wetDaysOf", "(II)I"⟩, 14), (⟨"GargoyleClose", "couldHave", "(II)Z"⟩, 14), (⟨"GargoyleClose", "costIf", "(III)I"⟩, 14), (⟨"GargoyleClose", "costOf", "(III)I"⟩, 14), (⟨"GargoyleClose", "tooFewFaces", "()Z"⟩, 14), (⟨"GargoyleClose", "makeMatch", "(I)V"⟩, 14), (⟨"GargoyleClose", "canWalk", "(II)Z"⟩, 14), (⟨"GargoyleClose", "isWalker", "(I)Z"⟩, 14), (⟨"GargoyleClose", "wayCost", "(II)I"⟩, 14), (⟨"GargoyleClose$Ways", "weight", "(I)I"⟩, 2), (⟨"GargoyleClose$Ways", "leastOnward", "(LGargoyleClose$Plan;I)I"⟩, 2), (⟨"GargoyleClose$Ways", "next", "(LGargoyleClose$Plan;II)I"⟩, 2), (⟨"GargoyleClose$Ways", "firstStep", "(LGargoyleClose$Plan;I)I"⟩, 2), (⟨"GargoyleClose", "stepsTogether", "(I)I"⟩, 14), (⟨"GargoyleClose", "fittingSets", "()I"⟩, 14)]
theorem lw_r3 : ∀ q ∈ lw_privs_3, lw_okq q := List.forall_mem_cons.mpr ⟨lw_p32, List.forall_mem_cons.mpr ⟨lw_p33, List.forall_mem_cons.mpr ⟨lw_p34, List.forall_mem_cons.mpr ⟨lw_p35, List.forall_mem_cons.mpr ⟨lw_p36, List.forall_mem_cons.mpr ⟨lw_p37, List.forall_mem_cons.mpr ⟨lw_p38, List.forall_mem_cons.mpr ⟨lw_p39, List.forall_mem_cons.mpr ⟨lw_p40, List.forall_mem_cons.mpr ⟨lw_p41, List.forall_mem_cons.mpr ⟨lw_p42, List.forall_mem_cons.mpr ⟨lw_p43, List.forall_mem_cons.mpr ⟨lw_p44, List.forall_mem_cons.mpr ⟨lw_p45, List.forall_mem_cons.mpr ⟨lw_p46, List.forall_mem_cons.mpr ⟨lw_p47, fun _ h => absurd h List.not_mem_nil⟩⟩⟩⟩⟩⟩⟩⟩⟩⟩⟩⟩⟩⟩⟩⟩
theorem lw_p48 : lw_okq (⟨"GargoyleClose", "setFits", "(I)Z"⟩, 14) := ⟨⟨by decide +kernel, by decide +kernel⟩, List.mem_of_getElem? (i := 21) (by decide +kernel), List.mem_of_getElem? (i := 877) (by decide +kernel), List.mem_of_getElem? (i := 878) (by decide +kernel)⟩
theorem lw_p49 : lw_okq (⟨"GargoyleClose", "dropFits", "(II)Z"⟩, 14) := ⟨⟨by decide +kernel, by decide +kernel⟩, List.mem_of_getElem? (i := 21) (by decide +kernel), List.mem_of_getElem? (i := 881) (by decide +kernel), List.mem_of_getElem? (i := 882) (by decide +kernel)⟩
theorem lw_p50 : lw_okq (⟨"GargoyleClose", "bestToAsk", "(I)I"⟩, 14) := ⟨⟨by decide +kernel, by decide +kernel⟩, List.mem_of_getElem? (i := 21) (by decide +kernel), List.mem_of_getElem? (i := 911) (by decide +kernel), List.mem_of_getElem? (i := 912) (by decide +kernel)⟩
theorem lw_p51 : lw_okq (⟨"GargoyleClose", "canGame", "(I)Z"⟩, 14) := ⟨⟨by decide +kernel, by decide +kernel⟩, List.mem_of_getElem? (i := 21) (by decide +kernel), List.mem_of_getElem? (i := 930) (by decide +kernel), List.mem_of_getElem? (i := 931) (by decide +kernel)⟩
theorem lw_p52 : lw_okq (⟨"GargoyleClose", "canChance", "(II)Z"⟩, 14) := ⟨⟨by decide +kernel, by decide +kernel⟩, List.mem_of_getElem? (i := 21) (by decide +kernel), List.mem_of_getElem? (i := 952) (by decide +kernel), List.mem_of_getElem? (i := 953) (by decide +kernel)⟩
theorem lw_p53 : lw_okq (⟨"GargoyleClose", "chance", "(IIZZ)J"⟩, 14) := ⟨⟨by decide +kernel, by decide +kernel⟩, List.mem_of_getElem? (i := 21) (by decide +kernel), List.mem_of_getElem? (i := 957) (by decide +kernel), List.mem_of_getElem? (i := 958) (by decide +kernel)⟩
theorem lw_p54 : lw_okq (⟨"GargoyleClose", "isCalm", "(I)Z"⟩, 14) := ⟨⟨by decide +kernel, by decide +kernel⟩, List.mem_of_getElem? (i := 21) (by decide +kernel), List.mem_of_getElem? (i := 983) (by decide +kernel), List.mem_of_getElem? (i := 984) (by decide +kernel)⟩
theorem lw_p55 : lw_okq (⟨"GargoyleClose", "firstDropBySeed", "(III)I"⟩, 14) := ⟨⟨by decide +kernel, by decide +kernel⟩, List.mem_of_getElem? (i := 21) (by decide +kernel), List.mem_of_getElem? (i := 991) (by decide +kernel), List.mem_of_getElem? (i := 992) (by decide +kernel)⟩
theorem lw_p56 : lw_okq (⟨"GargoyleClose", "keep", "()V"⟩, 14) := ⟨⟨by decide +kernel, by decide +kernel⟩, List.mem_of_getElem? (i := 21) (by decide +kernel), List.mem_of_getElem? (i := 999) (by decide +kernel), List.mem_of_getElem? (i := 1000) (by decide +kernel)⟩
theorem lw_p57 : lw_okq (⟨"java/lang/Throwable", "fillInStackTrace", "(I)Ljava/lang/Throwable;"⟩, 6) := ⟨⟨by decide +kernel, by decide +kernel⟩, List.mem_of_getElem? (i := 1089) (by decide +kernel), List.mem_of_getElem? (i := 1087) (by decide +kernel), List.mem_of_getElem? (i := 1088) (by decide +kernel)⟩
theorem lw_p58 : lw_okq (⟨"GargoyleCloseModel", "good", "()V"⟩, 44) := ⟨⟨by decide +kernel, by decide +kernel⟩, List.mem_of_getElem? (i := 1114) (by decide +kernel), List.mem_of_getElem? (i := 1265) (by decide +kernel), List.mem_of_getElem? (i := 1266) (by decide +kernel)⟩
theorem lw_p59 : lw_okq (⟨"GargoyleCloseModel", "no", "(I)I"⟩, 44) := ⟨⟨by decide +kernel, by decide +kernel⟩, List.mem_of_getElem? (i := 1114) (by decide +kernel), List.mem_of_getElem? (i := 1272) (by decide +kernel), List.mem_of_getElem? (i := 1273) (by decide +kernel)⟩
theorem lw_p60 : lw_okq (⟨"GargoyleCloseModel", "next", "()V"⟩, 44) := ⟨⟨by decide +kernel, by decide +kernel⟩, List.mem_of_getElem? (i := 1114) (by decide +kernel), List.mem_of_getElem? (i := 1276) (by decide +kernel), List.mem_of_getElem? (i := 1277) (by decide +kernel)⟩
theorem lw_p61 : lw_okq (⟨"GargoyleCloseModel", "see", "(I)I"⟩, 44) := ⟨⟨by decide +kernel, by decide +kernel⟩, List.mem_of_getElem? (i := 1114) (by decide +kernel), List.mem_of_getElem? (i := 1280) (by decide +kernel), List.mem_of_getElem? (i := 1281) (by decide +kernel)⟩
theorem lw_p62 : lw_okq (⟨"GargoyleCloseModel", "readLine", "()V"⟩, 44) := ⟨⟨by decide +kernel, by decide +kernel⟩, List.mem_of_getElem? (i := 1114) (by decide +kernel), List.mem_of_getElem? (i := 1290) (by decide +kernel), List.mem_of_getElem? (i := 1291) (by decide +kernel)⟩
theorem lw_p63 : lw_okq (⟨"GargoyleCloseModel", "isWord", "(Ljava/lang/String;)Z"⟩, 44) := ⟨⟨by decide +kernel, by decide +kernel⟩, List.mem_of_getElem? (i := 1114) (by decide +kernel), List.mem_of_getElem? (i := 1295) (by decide +kernel), List.mem_of_getElem? (i := 1296) (by decide +kernel)⟩
def lw_privs_4 : List (MethodName × Nat) := [(⟨"GargoyleClose", "setFits", "(I)Z"⟩, 14), (⟨"GargoyleClose", "dropFits", "(II)Z"⟩, 14), (⟨"GargoyleClose", "bestToAsk", "(I)I"⟩, 14), (⟨"GargoyleClose", "canGame", "(I)Z"⟩, 14), (⟨"GargoyleClose", "canChance", "(II)Z"⟩, 14), (⟨"GargoyleClose", "chance", "(IIZZ)J"⟩, 14), (⟨"GargoyleClose", "isCalm", "(I)Z"⟩, 14), (⟨"GargoyleClose", "firstDropBySeed", "(III)I"⟩, 14), (⟨"GargoyleClose", "keep", "()V"⟩, 14), (⟨"java/lang/Throwable", "fillInStackTrace", "(I)Ljava/lang/Throwable;"⟩, 6), (⟨"GargoyleCloseModel", "good", "()V"⟩, 44), (⟨"GargoyleCloseModel", "no", "(I)I"⟩, 44), (⟨"GargoyleCloseModel", "next", "()V"⟩, 44), (⟨"GargoyleCloseModel", "see", "(I)I"⟩, 44), (⟨"GargoyleCloseModel", "readLine", "()V"⟩, 44), (⟨"GargoyleCloseModel", "isWord", "(Ljava/lang/String;)Z"⟩, 44)]
theorem lw_r4 : ∀ q ∈ lw_privs_4, lw_okq q := List.forall_mem_cons.mpr ⟨lw_p48, List.forall_mem_cons.mpr ⟨lw_p49, List.forall_mem_cons.mpr ⟨lw_p50, List.forall_mem_cons.mpr ⟨lw_p51, List.forall_mem_cons.mpr ⟨lw_p52, List.forall_mem_cons.mpr ⟨lw_p53, List.forall_mem_cons.mpr ⟨lw_p54, List.forall_mem_cons.mpr ⟨lw_p55, List.forall_mem_cons.mpr ⟨lw_p56, List.forall_mem_cons.mpr ⟨lw_p57, List.forall_mem_cons.mpr ⟨lw_p58, List.forall_mem_cons.mpr ⟨lw_p59, List.forall_mem_cons.mpr ⟨lw_p60, List.forall_mem_cons.mpr ⟨lw_p61, List.forall_mem_cons.mpr ⟨lw_p62, List.forall_mem_cons.mpr ⟨lw_p63, fun _ h => absurd h List.not_mem_nil⟩⟩⟩⟩⟩⟩⟩⟩⟩⟩⟩⟩⟩⟩⟩⟩
theorem lw_p64 : lw_okq (⟨"GargoyleCloseModel", "closeLine", "()V"⟩, 44) := ⟨⟨by decide +kernel, by decide +kernel⟩, List.mem_of_getElem? (i := 1114) (by decide +kernel), List.mem_of_getElem? (i := 1301) (by decide +kernel), List.mem_of_getElem? (i := 1302) (by decide +kernel)⟩
theorem lw_p65 : lw_okq (⟨"GargoyleCloseModel", "wrong", "(II)V"⟩, 44) := ⟨⟨by decide +kernel, by decide +kernel⟩, List.mem_of_getElem? (i := 1114) (by decide +kernel), List.mem_of_getElem? (i := 1305) (by decide +kernel), List.mem_of_getElem? (i := 1306) (by decide +kernel)⟩
theorem lw_p66 : lw_okq (⟨"GargoyleCloseModel", "after", "(Ljava/lang/String;II)I"⟩, 44) := ⟨⟨by decide +kernel, by decide +kernel⟩, List.mem_of_getElem? (i := 1114) (by decide +kernel), List.mem_of_getElem? (i := 1310) (by decide +kernel), List.mem_of_getElem? (i := 1311) (by decide +kernel)⟩
theorem lw_p67 : lw_okq (⟨"GargoyleCloseModel", "must", "(Ljava/lang/String;)V"⟩, 44) := ⟨⟨by decide +kernel, by decide +kernel⟩, List.mem_of_getElem? (i := 1114) (by decide +kernel), List.mem_of_getElem? (i := 1314) (by decide +kernel), List.mem_of_getElem? (i := 1315) (by decide +kernel)⟩
theorem lw_p68 : lw_okq (⟨"GargoyleCloseModel", "takesWord", "(Ljava/lang/String;)Z"⟩, 44) := ⟨⟨by decide +kernel, by decide +kernel⟩, List.mem_of_getElem? (i := 1114) (by decide +kernel), List.mem_of_getElem? (i := 1318) (by decide +kernel), List.mem_of_getElem? (i := 1319) (by decide +kernel)⟩
theorem lw_p69 : lw_okq (⟨"GargoyleCloseModel", "number", "(II)I"⟩, 44) := ⟨⟨by decide +kernel, by decide +kernel⟩, List.mem_of_getElem? (i := 1114) (by decide +kernel), List.mem_of_getElem? (i := 1322) (by decide +kernel), List.mem_of_getElem? (i := 1323) (by decide +kernel)⟩
theorem lw_p70 : lw_okq (⟨"GargoyleCloseModel", "numberHere", "(II)I"⟩, 44) := ⟨⟨by decide +kernel, by decide +kernel⟩, List.mem_of_getElem? (i := 1114) (by decide +kernel), List.mem_of_getElem? (i := 1326) (by decide +kernel), List.mem_of_getElem? (i := 1327) (by decide +kernel)⟩
theorem lw_p71 : lw_okq (⟨"GargoyleCloseModel", "pass", "()V"⟩, 44) := ⟨⟨by decide +kernel, by decide +kernel⟩, List.mem_of_getElem? (i := 1114) (by decide +kernel), List.mem_of_getElem? (i := 1330) (by decide +kernel), List.mem_of_getElem? (i := 1331) (by decide +kernel)⟩
theorem lw_p72 : lw_okq (⟨"GargoyleCloseModel", "begins", "(Ljava/lang/String;Z)Z"⟩, 44) := ⟨⟨by decide +kernel, by decide +kernel⟩, List.mem_of_getElem? (i := 1114) (by decide +kernel), List.mem_of_getElem? (i := 1337) (by decide +kernel), List.mem_of_getElem? (i := 1338) (by decide +kernel)⟩
theorem lw_p73 : lw_okq (⟨"GargoyleCloseModel", "wallLine", "()V"⟩, 44) := ⟨⟨by decide +kernel, by decide +kernel⟩, List.mem_of_getElem? (i := 1114) (by decide +kernel), List.mem_of_getElem? (i := 1341) (by decide +kernel), List.mem_of_getElem? (i := 1342) (by decide +kernel)⟩
theorem lw_p74 : lw_okq (⟨"GargoyleCloseModel", "cellHere", "()I"⟩, 44) := ⟨⟨by decide +kernel, by decide +kernel⟩, List.mem_of_getElem? (i := 1114) (by decide +kernel), List.mem_of_getElem? (i := 1345) (by decide +kernel), List.mem_of_getElem? (i := 1346) (by decide +kernel)⟩
theorem lw_p75 : lw_okq (⟨"GargoyleCloseModel", "faceLine", "()V"⟩, 44) := ⟨⟨by decide +kernel, by decide +kernel⟩, List.mem_of_getElem? (i := 1114) (by decide +kernel), List.mem_of_getElem? (i := 1353) (by decide +kernel), List.mem_of_getElem? (i := 1354) (by decide +kernel)⟩
theorem lw_p76 : lw_okq (⟨"GargoyleCloseModel", "newName", "(I)V"⟩, 44) := ⟨⟨by decide +kernel, by decide +kernel⟩, List.mem_of_getElem? (i := 1114) (by decide +kernel), List.mem_of_getElem? (i := 1357) (by decide +kernel), List.mem_of_getElem? (i := 1358) (by decide +kernel)⟩
theorem lw_p77 : lw_okq (⟨"GargoyleCloseModel", "mustName", "()V"⟩, 44) := ⟨⟨by decide +kernel, by decide +kernel⟩, List.mem_of_getElem? (i := 1114) (by decide +kernel), List.mem_of_getElem? (i := 1361) (by decide +kernel), List.mem_of_getElem? (i := 1362) (by decide +kernel)⟩
theorem lw_p78 : lw_okq (⟨"GargoyleCloseModel", "find", "()I"⟩, 44) := ⟨⟨by decide +kernel, by decide +kernel⟩, List.mem_of_getElem? (i := 1114) (by decide +kernel), List.mem_of_getElem? (i := 1369) (by decide +kernel), List.mem_of_getElem? (i := 1370) (by decide +kernel)⟩
theorem lw_p79 : lw_okq (⟨"GargoyleCloseModel", "canonLine", "()V"⟩, 44) := ⟨⟨by decide +kernel, by decide +kernel⟩, List.mem_of_getElem? (i := 1114) (by decide +kernel), List.mem_of_getElem? (i := 1379) (by decide +kernel), List.mem_of_getElem? (i := 1380) (by decide +kernel)⟩
def lw_privs_5 : List (MethodName × Nat) := [(⟨"GargoyleCloseModel", "closeLine", "()V"⟩, 44), (⟨"GargoyleCloseModel", "wrong", "(II)V"⟩, 44), (⟨"GargoyleCloseModel", "after", "(Ljava/lang/String;II)I"⟩, 44), (⟨"GargoyleCloseModel", "must", "(Ljava/lang/String;)V"⟩, 44), (⟨"GargoyleCloseModel", "takesWord", "(Ljava/lang/String;)Z"⟩, 44), (⟨"GargoyleCloseModel", "number", "(II)I"⟩, 44), (⟨"GargoyleCloseModel", "numberHere", "(II)I"⟩, 44), (⟨"GargoyleCloseModel", "pass", "()V"⟩, 44), (⟨"GargoyleCloseModel", "begins", "(Ljava/lang/String;Z)Z"⟩, 44), (⟨"GargoyleCloseModel", "wallLine", "()V"⟩, 44), (⟨"GargoyleCloseModel", "cellHere", "()I"⟩, 44), (⟨"GargoyleCloseModel", "faceLine", "()V"⟩, 44), (⟨"GargoyleCloseModel", "newName", "(I)V"⟩, 44), (⟨"GargoyleCloseModel", "mustName", "()V"⟩, 44), (⟨"GargoyleCloseModel", "find", "()I"⟩, 44), (⟨"GargoyleCloseModel", "canonLine", "()V"⟩, 44)]
theorem lw_r5 : ∀ q ∈ lw_privs_5, lw_okq q := List.forall_mem_cons.mpr ⟨lw_p64, List.forall_mem_cons.mpr ⟨lw_p65, List.forall_mem_cons.mpr ⟨lw_p66, List.forall_mem_cons.mpr ⟨lw_p67, List.forall_mem_cons.mpr ⟨lw_p68, List.forall_mem_cons.mpr ⟨lw_p69, List.forall_mem_cons.mpr ⟨lw_p70, List.forall_mem_cons.mpr ⟨lw_p71, List.forall_mem_cons.mpr ⟨lw_p72, List.forall_mem_cons.mpr ⟨lw_p73, List.forall_mem_cons.mpr ⟨lw_p74, List.forall_mem_cons.mpr ⟨lw_p75, List.forall_mem_cons.mpr ⟨lw_p76, List.forall_mem_cons.mpr ⟨lw_p77, List.forall_mem_cons.mpr ⟨lw_p78, List.forall_mem_cons.mpr ⟨lw_p79, fun _ h => absurd h List.not_mem_nil⟩⟩⟩⟩⟩⟩⟩⟩⟩⟩⟩⟩⟩⟩⟩⟩
theorem lw_p80 : lw_okq (⟨"GargoyleCloseModel", "named", "(II)I"⟩, 44) := ⟨⟨by decide +kernel, by decide +kernel⟩, List.mem_of_getElem? (i := 1114) (by decide +kernel), List.mem_of_getElem? (i := 1383) (by decide +kernel), List.mem_of_getElem? (i := 1384) (by decide +kernel)⟩
theorem lw_p81 : lw_okq (⟨"GargoyleCloseModel", "walkerLine", "()V"⟩, 44) := ⟨⟨by decide +kernel, by decide +kernel⟩, List.mem_of_getElem? (i := 1114) (by decide +kernel), List.mem_of_getElem? (i := 1389) (by decide +kernel), List.mem_of_getElem? (i := 1390) (by decide +kernel)⟩
theorem lw_p82 : lw_okq (⟨"GargoyleCloseModel", "openCell", "()I"⟩, 44) := ⟨⟨by decide +kernel, by decide +kernel⟩, List.mem_of_getElem? (i := 1114) (by decide +kernel), List.mem_of_getElem? (i := 1394) (by decide +kernel), List.mem_of_getElem? (i := 1395) (by decide +kernel)⟩
theorem lw_p83 : lw_okq (⟨"GargoyleCloseModel", "unsureLine", "()V"⟩, 44) := ⟨⟨by decide +kernel, by decide +kernel⟩, List.mem_of_getElem? (i := 1114) (by decide +kernel), List.mem_of_getElem? (i := 1399) (by decide +kernel), List.mem_of_getElem? (i := 1400) (by decide +kernel)⟩
theorem lw_p84 : lw_okq (⟨"GargoyleCloseModel", "droppedLine", "()V"⟩, 44) := ⟨⟨by decide +kernel, by decide +kernel⟩, List.mem_of_getElem? (i := 1114) (by decide +kernel), List.mem_of_getElem? (i := 1403) (by decide +kernel), List.mem_of_getElem? (i := 1404) (by decide +kernel)⟩
theorem lw_p85 : lw_okq (⟨"GargoyleCloseModel", "isFace", "(I)Z"⟩, 44) := ⟨⟨by decide +kernel, by decide +kernel⟩, List.mem_of_getElem? (i := 1114) (by decide +kernel), List.mem_of_getElem? (i := 1423) (by decide +kernel), List.mem_of_getElem? (i := 1424) (by decide +kernel)⟩
theorem lw_p86 : lw_okq (⟨"GargoyleCloseModel", "canonOf", "(I)I"⟩, 44) := ⟨⟨by decide +kernel, by decide +kernel⟩, List.mem_of_getElem? (i := 1114) (by decide +kernel), List.mem_of_getElem? (i := 1427) (by decide +kernel), List.mem_of_getElem? (i := 1428) (by decide +kernel)⟩
theorem lw_p87 : lw_okq (⟨"GargoyleCloseModel", "isCanon", "(I)Z"⟩, 44) := ⟨⟨by decide +kernel, by decide +kernel⟩, List.mem_of_getElem? (i := 1114) (by decide +kernel), List.mem_of_getElem? (i := 1435) (by decide +kernel), List.mem_of_getElem? (i := 1436) (by decide +kernel)⟩
theorem lw_p88 : lw_okq (⟨"GargoyleCloseModel", "isCell", "(I)Z"⟩, 44) := ⟨⟨by decide +kernel, by decide +kernel⟩, List.mem_of_getElem? (i := 1114) (by decide +kernel), List.mem_of_getElem? (i := 1443) (by decide +kernel), List.mem_of_getElem? (i := 1444) (by decide +kernel)⟩
theorem lw_p89 : lw_okq (⟨"GargoyleCloseModel", "cells", "()I"⟩, 44) := ⟨⟨by decide +kernel, by decide +kernel⟩, List.mem_of_getElem? (i := 1114) (by decide +kernel), List.mem_of_getElem? (i := 1447) (by decide +kernel), List.mem_of_getElem? (i := 1448) (by decide +kernel)⟩
theorem lw_p90 : lw_okq (⟨"GargoyleCloseModel", "faceOver", "(I)I"⟩, 44) := ⟨⟨by decide +kernel, by decide +kernel⟩, List.mem_of_getElem? (i := 1114) (by decide +kernel), List.mem_of_getElem? (i := 1451) (by decide +kernel), List.mem_of_getElem? (i := 1452) (by decide +kernel)⟩
theorem lw_p91 : lw_okq (⟨"GargoyleCloseModel", "beside", "(I)I"⟩, 44) := ⟨⟨by decide +kernel, by decide +kernel⟩, List.mem_of_getElem? (i := 1114) (by decide +kernel), List.mem_of_getElem? (i := 1455) (by decide +kernel), List.mem_of_getElem? (i := 1456) (by decide +kernel)⟩
theorem lw_p92 : lw_okq (⟨"GargoyleCloseModel", "stepFrom", "(II)I"⟩, 44) := ⟨⟨by decide +kernel, by decide +kernel⟩, List.mem_of_getElem? (i := 1114) (by decide +kernel), List.mem_of_getElem? (i := 1459) (by decide +kernel), List.mem_of_getElem? (i := 1460) (by decide +kernel)⟩
theorem lw_p93 : lw_okq (⟨"GargoyleCloseModel", "isWall", "(I)Z"⟩, 44) := ⟨⟨by decide +kernel, by decide +kernel⟩, List.mem_of_getElem? (i := 1114) (by decide +kernel), List.mem_of_getElem? (i := 1463) (by decide +kernel), List.mem_of_getElem? (i := 1464) (by decide +kernel)⟩
theorem lw_p94 : lw_okq (⟨"GargoyleCloseModel", "aheadWhy", "(ZII)I"⟩, 44) := ⟨⟨by decide +kernel, by decide +kernel⟩, List.mem_of_getElem? (i := 1114) (by decide +kernel), List.mem_of_getElem? (i := 1475) (by decide +kernel), List.mem_of_getElem? (i := 1476) (by decide +kernel)⟩
theorem lw_p95 : lw_okq (⟨"GargoyleCloseModel", "why", "(ZZ)I"⟩, 44) := ⟨⟨by decide +kernel, by decide +kernel⟩, List.mem_of_getElem? (i := 1114) (by decide +kernel), List.mem_of_getElem? (i := 1479) (by decide +kernel), List.mem_of_getElem? (i := 1480) (by decide +kernel)⟩
def lw_privs_6 : List (MethodName × Nat) := [(⟨"GargoyleCloseModel", "named", "(II)I"⟩, 44), (⟨"GargoyleCloseModel", "walkerLine", "()V"⟩, 44), (⟨"GargoyleCloseModel", "openCell", "()I"⟩, 44), (⟨"GargoyleCloseModel", "unsureLine", "()V"⟩, 44), (⟨"GargoyleCloseModel", "droppedLine", "()V"⟩, 44), (⟨"GargoyleCloseModel", "isFace", "(I)Z"⟩, 44), (⟨"GargoyleCloseModel", "canonOf", "(I)I"⟩, 44), (⟨"GargoyleCloseModel", "isCanon", "(I)Z"⟩, 44), (⟨"GargoyleCloseModel", "isCell", "(I)Z"⟩, 44), (⟨"GargoyleCloseModel", "cells", "()I"⟩, 44), (⟨"GargoyleCloseModel", "faceOver", "(I)I"⟩, 44), (⟨"GargoyleCloseModel", "beside", "(I)I"⟩, 44), (⟨"GargoyleCloseModel", "stepFrom", "(II)I"⟩, 44), (⟨"GargoyleCloseModel", "isWall", "(I)Z"⟩, 44), (⟨"GargoyleCloseModel", "aheadWhy", "(ZII)I"⟩, 44), (⟨"GargoyleCloseModel", "why", "(ZZ)I"⟩, 44)]
theorem lw_r6 : ∀ q ∈ lw_privs_6, lw_okq q := List.forall_mem_cons.mpr ⟨lw_p80, List.forall_mem_cons.mpr ⟨lw_p81, List.forall_mem_cons.mpr ⟨lw_p82, List.forall_mem_cons.mpr ⟨lw_p83, List.forall_mem_cons.mpr ⟨lw_p84, List.forall_mem_cons.mpr ⟨lw_p85, List.forall_mem_cons.mpr ⟨lw_p86, List.forall_mem_cons.mpr ⟨lw_p87, List.forall_mem_cons.mpr ⟨lw_p88, List.forall_mem_cons.mpr ⟨lw_p89, List.forall_mem_cons.mpr ⟨lw_p90, List.forall_mem_cons.mpr ⟨lw_p91, List.forall_mem_cons.mpr ⟨lw_p92, List.forall_mem_cons.mpr ⟨lw_p93, List.forall_mem_cons.mpr ⟨lw_p94, List.forall_mem_cons.mpr ⟨lw_p95, fun _ h => absurd h List.not_mem_nil⟩⟩⟩⟩⟩⟩⟩⟩⟩⟩⟩⟩⟩⟩⟩⟩
theorem lw_p96 : lw_okq (⟨"GargoyleCloseModel", "daysOn", "(I)V"⟩, 44) := ⟨⟨by decide +kernel, by decide +kernel⟩, List.mem_of_getElem? (i := 1114) (by decide +kernel), List.mem_of_getElem? (i := 1483) (by decide +kernel), List.mem_of_getElem? (i := 1484) (by decide +kernel)⟩
theorem lw_p97 : lw_okq (⟨"GargoyleCloseModel", "vexedBy", "(I)V"⟩, 44) := ⟨⟨by decide +kernel, by decide +kernel⟩, List.mem_of_getElem? (i := 1114) (by decide +kernel), List.mem_of_getElem? (i := 1487) (by decide +kernel), List.mem_of_getElem? (i := 1488) (by decide +kernel)⟩
theorem lw_p98 : lw_okq (⟨"GargoyleCloseModel", "dayOn", "([IZ)V"⟩, 44) := ⟨⟨by decide +kernel, by decide +kernel⟩, List.mem_of_getElem? (i := 1114) (by decide +kernel), List.mem_of_getElem? (i := 1491) (by decide +kernel), List.mem_of_getElem? (i := 1492) (by decide +kernel)⟩
theorem lw_p99 : lw_okq (⟨"GargoyleCloseModel", "letsGo", "([II)I"⟩, 44) := ⟨⟨by decide +kernel, by decide +kernel⟩, List.mem_of_getElem? (i := 1114) (by decide +kernel), List.mem_of_getElem? (i := 1495) (by decide +kernel), List.mem_of_getElem? (i := 1496) (by decide +kernel)⟩
theorem lw_p100 : lw_okq (⟨"GargoyleCloseModel", "wetOften", "(II)I"⟩, 44) := ⟨⟨by decide +kernel, by decide +kernel⟩, List.mem_of_getElem? (i := 1114) (by decide +kernel), List.mem_of_getElem? (i := 1523) (by decide +kernel), List.mem_of_getElem? (i := 1524) (by decide +kernel)⟩
theorem lw_p101 : lw_okq (⟨"GargoyleCloseModel", "fallenOn", "([I)I"⟩, 44) := ⟨⟨by decide +kernel, by decide +kernel⟩, List.mem_of_getElem? (i := 1114) (by decide +kernel), List.mem_of_getElem? (i := 1543) (by decide +kernel), List.mem_of_getElem? (i := 1544) (by decide +kernel)⟩
theorem lw_p102 : lw_okq (⟨"GargoyleCloseModel", "planWhy", "(ZI)I"⟩, 44) := ⟨⟨by decide +kernel, by decide +kernel⟩, List.mem_of_getElem? (i := 1114) (by decide +kernel), List.mem_of_getElem? (i := 1551) (by decide +kernel), List.mem_of_getElem? (i := 1552) (by decide +kernel)⟩
theorem lw_p103 : lw_okq (⟨"GargoyleCloseModel", "mayHave", "(II)Z"⟩, 44) := ⟨⟨by decide +kernel, by decide +kernel⟩, List.mem_of_getElem? (i := 1114) (by decide +kernel), List.mem_of_getElem? (i := 1555) (by decide +kernel), List.mem_of_getElem? (i := 1556) (by decide +kernel)⟩
theorem lw_p104 : lw_okq (⟨"GargoyleCloseModel", "planAsNow", "()V"⟩, 44) := ⟨⟨by decide +kernel, by decide +kernel⟩, List.mem_of_getElem? (i := 1114) (by decide +kernel), List.mem_of_getElem? (i := 1559) (by decide +kernel), List.mem_of_getElem? (i := 1560) (by decide +kernel)⟩
theorem lw_p105 : lw_okq (⟨"GargoyleCloseModel", "goByPlan", "(I)V"⟩, 44) := ⟨⟨by decide +kernel, by decide +kernel⟩, List.mem_of_getElem? (i := 1114) (by decide +kernel), List.mem_of_getElem? (i := 1563) (by decide +kernel), List.mem_of_getElem? (i := 1564) (by decide +kernel)⟩
theorem lw_p106 : lw_okq (⟨"GargoyleCloseModel", "letsOf", "([I)I"⟩, 44) := ⟨⟨by decide +kernel, by decide +kernel⟩, List.mem_of_getElem? (i := 1114) (by decide +kernel), List.mem_of_getElem? (i := 1570) (by decide +kernel), List.mem_of_getElem? (i := 1571) (by decide +kernel)⟩
theorem lw_p107 : lw_okq (⟨"GargoyleCloseModel", "isBest", "(I)Z"⟩, 44) := ⟨⟨by decide +kernel, by decide +kernel⟩, List.mem_of_getElem? (i := 1114) (by decide +kernel), List.mem_of_getElem? (i := 1578) (by decide +kernel), List.mem_of_getElem? (i := 1579) (by decide +kernel)⟩
theorem lw_p108 : lw_okq (⟨"GargoyleCloseModel", "seekMatch", "(I)V"⟩, 44) := ⟨⟨by decide +kernel, by decide +kernel⟩, List.mem_of_getElem? (i := 1114) (by decide +kernel), List.mem_of_getElem? (i := 1586) (by decide +kernel), List.mem_of_getElem? (i := 1587) (by decide +kernel)⟩
theorem lw_p109 : lw_okq (⟨"GargoyleCloseModel", "tryPlans", "(III)V"⟩, 44) := ⟨⟨by decide +kernel, by decide +kernel⟩, List.mem_of_getElem? (i := 1114) (by decide +kernel), List.mem_of_getElem? (i := 1590) (by decide +kernel), List.mem_of_getElem? (i := 1591) (by decide +kernel)⟩
theorem lw_p110 : lw_okq (⟨"GargoyleCloseModel", "stepsOf", "(II)I"⟩, 44) := ⟨⟨by decide +kernel, by decide +kernel⟩, List.mem_of_getElem? (i := 1114) (by decide +kernel), List.mem_of_getElem? (i := 1606) (by decide +kernel), List.mem_of_getElem? (i := 1607) (by decide +kernel)⟩
theorem lw_p111 : lw_okq (⟨"GargoyleCloseModel", "layCosts", "(II)V"⟩, 44) := ⟨⟨by decide +kernel, by decide +kernel⟩, List.mem_of_getElem? (i := 1114) (by decide +kernel), List.mem_of_getElem? (i := 1610) (by decide +kernel), List.mem_of_getElem? (i := 1611) (by decide +kernel)⟩
def lw_privs_7 : List (MethodName × Nat) := [(⟨"GargoyleCloseModel", "daysOn", "(I)V"⟩, 44), (⟨"GargoyleCloseModel", "vexedBy", "(I)V"⟩, 44), (⟨"GargoyleCloseModel", "dayOn", "([IZ)V"⟩, 44), (⟨"GargoyleCloseModel", "letsGo", "([II)I"⟩, 44), (⟨"GargoyleCloseModel", "wetOften", "(II)I"⟩, 44), (⟨"GargoyleCloseModel", "fallenOn", "([I)I"⟩, 44), (⟨"GargoyleCloseModel", "planWhy", "(ZI)I"⟩, 44), (⟨"GargoyleCloseModel", "mayHave", "(II)Z"⟩, 44), (⟨"GargoyleCloseModel", "planAsNow", "()V"⟩, 44), (⟨"GargoyleCloseModel", "goByPlan", "(I)V"⟩, 44), (⟨"GargoyleCloseModel", "letsOf", "([I)I"⟩, 44), (⟨"GargoyleCloseModel", "isBest", "(I)Z"⟩, 44), (⟨"GargoyleCloseModel", "seekMatch", "(I)V"⟩, 44), (⟨"GargoyleCloseModel", "tryPlans", "(III)V"⟩, 44), (⟨"GargoyleCloseModel", "stepsOf", "(II)I"⟩, 44), (⟨"GargoyleCloseModel", "layCosts", "(II)V"⟩, 44)]
theorem lw_r7 : ∀ q ∈ lw_privs_7, lw_okq q := List.forall_mem_cons.mpr ⟨lw_p96, List.forall_mem_cons.mpr ⟨lw_p97, List.forall_mem_cons.mpr ⟨lw_p98, List.forall_mem_cons.mpr ⟨lw_p99, List.forall_mem_cons.mpr ⟨lw_p100, List.forall_mem_cons.mpr ⟨lw_p101, List.forall_mem_cons.mpr ⟨lw_p102, List.forall_mem_cons.mpr ⟨lw_p103, List.forall_mem_cons.mpr ⟨lw_p104, List.forall_mem_cons.mpr ⟨lw_p105, List.forall_mem_cons.mpr ⟨lw_p106, List.forall_mem_cons.mpr ⟨lw_p107, List.forall_mem_cons.mpr ⟨lw_p108, List.forall_mem_cons.mpr ⟨lw_p109, List.forall_mem_cons.mpr ⟨lw_p110, List.forall_mem_cons.mpr ⟨lw_p111, fun _ h => absurd h List.not_mem_nil⟩⟩⟩⟩⟩⟩⟩⟩⟩⟩⟩⟩⟩⟩⟩⟩
theorem lw_p112 : lw_okq (⟨"GargoyleCloseModel", "costOf", "(II)I"⟩, 44) := ⟨⟨by decide +kernel, by decide +kernel⟩, List.mem_of_getElem? (i := 1114) (by decide +kernel), List.mem_of_getElem? (i := 1615) (by decide +kernel), List.mem_of_getElem? (i := 1616) (by decide +kernel)⟩
theorem lw_p113 : lw_okq (⟨"GargoyleCloseModel", "isWalker", "(I)Z"⟩, 44) := ⟨⟨by decide +kernel, by decide +kernel⟩, List.mem_of_getElem? (i := 1114) (by decide +kernel), List.mem_of_getElem? (i := 1623) (by decide +kernel), List.mem_of_getElem? (i := 1624) (by decide +kernel)⟩
theorem lw_p114 : lw_okq (⟨"GargoyleCloseModel", "wayOf", "(II)I"⟩, 44) := ⟨⟨by decide +kernel, by decide +kernel⟩, List.mem_of_getElem? (i := 1114) (by decide +kernel), List.mem_of_getElem? (i := 1627) (by decide +kernel), List.mem_of_getElem? (i := 1628) (by decide +kernel)⟩
theorem lw_p115 : lw_okq (⟨"GargoyleCloseModel", "allSteps", "()I"⟩, 44) := ⟨⟨by decide +kernel, by decide +kernel⟩, List.mem_of_getElem? (i := 1114) (by decide +kernel), List.mem_of_getElem? (i := 1647) (by decide +kernel), List.mem_of_getElem? (i := 1648) (by decide +kernel)⟩
theorem lw_p116 : lw_okq (⟨"GargoyleCloseModel", "seekSets", "(I)I"⟩, 44) := ⟨⟨by decide +kernel, by decide +kernel⟩, List.mem_of_getElem? (i := 1114) (by decide +kernel), List.mem_of_getElem? (i := 1655) (by decide +kernel), List.mem_of_getElem? (i := 1656) (by decide +kernel)⟩
theorem lw_p117 : lw_okq (⟨"GargoyleCloseModel", "wrongBy", "(I)I"⟩, 44) := ⟨⟨by decide +kernel, by decide +kernel⟩, List.mem_of_getElem? (i := 1114) (by decide +kernel), List.mem_of_getElem? (i := 1659) (by decide +kernel), List.mem_of_getElem? (i := 1660) (by decide +kernel)⟩
theorem lw_p118 : lw_okq (⟨"GargoyleCloseModel", "askOf", "()I"⟩, 44) := ⟨⟨by decide +kernel, by decide +kernel⟩, List.mem_of_getElem? (i := 1114) (by decide +kernel), List.mem_of_getElem? (i := 1679) (by decide +kernel), List.mem_of_getElem? (i := 1680) (by decide +kernel)⟩
theorem lw_p119 : lw_okq (⟨"GargoyleCloseModel", "leavesOf", "(I)I"⟩, 44) := ⟨⟨by decide +kernel, by decide +kernel⟩, List.mem_of_getElem? (i := 1114) (by decide +kernel), List.mem_of_getElem? (i := 1683) (by decide +kernel), List.mem_of_getElem? (i := 1684) (by decide +kernel)⟩
theorem lw_p120 : lw_okq (⟨"GargoyleCloseModel", "seekRests", "(I)I"⟩, 44) := ⟨⟨by decide +kernel, by decide +kernel⟩, List.mem_of_getElem? (i := 1114) (by decide +kernel), List.mem_of_getElem? (i := 1709) (by decide +kernel), List.mem_of_getElem? (i := 1710) (by decide +kernel)⟩
theorem lw_p121 : lw_okq (⟨"GargoyleCloseModel", "tryCalms", "(II)V"⟩, 44) := ⟨⟨by decide +kernel, by decide +kernel⟩, List.mem_of_getElem? (i := 1114) (by decide +kernel), List.mem_of_getElem? (i := 1721) (by decide +kernel), List.mem_of_getElem? (i := 1722) (by decide +kernel)⟩
theorem lw_p122 : lw_okq (⟨"GargoyleCloseModel", "drawWhy", "(ZII)I"⟩, 44) := ⟨⟨by decide +kernel, by decide +kernel⟩, List.mem_of_getElem? (i := 1114) (by decide +kernel), List.mem_of_getElem? (i := 1736) (by decide +kernel), List.mem_of_getElem? (i := 1737) (by decide +kernel)⟩
theorem lw_p123 : lw_okq (⟨"GargoyleCloseModel", "note", "()V"⟩, 44) := ⟨⟨by decide +kernel, by decide +kernel⟩, List.mem_of_getElem? (i := 1114) (by decide +kernel), List.mem_of_getElem? (i := 1750) (by decide +kernel), List.mem_of_getElem? (i := 1751) (by decide +kernel)⟩
theorem lw_p124 : lw_okq (⟨"GargoyleCloseModel", "isNot", "(I)Z"⟩, 44) := ⟨⟨by decide +kernel, by decide +kernel⟩, List.mem_of_getElem? (i := 1114) (by decide +kernel), List.mem_of_getElem? (i := 1762) (by decide +kernel), List.mem_of_getElem? (i := 1763) (by decide +kernel)⟩
def lw_privs_8 : List (MethodName × Nat) := [(⟨"GargoyleCloseModel", "costOf", "(II)I"⟩, 44), (⟨"GargoyleCloseModel", "isWalker", "(I)Z"⟩, 44), (⟨"GargoyleCloseModel", "wayOf", "(II)I"⟩, 44), (⟨"GargoyleCloseModel", "allSteps", "()I"⟩, 44), (⟨"GargoyleCloseModel", "seekSets", "(I)I"⟩, 44), (⟨"GargoyleCloseModel", "wrongBy", "(I)I"⟩, 44), (⟨"GargoyleCloseModel", "askOf", "()I"⟩, 44), (⟨"GargoyleCloseModel", "leavesOf", "(I)I"⟩, 44), (⟨"GargoyleCloseModel", "seekRests", "(I)I"⟩, 44), (⟨"GargoyleCloseModel", "tryCalms", "(II)V"⟩, 44), (⟨"GargoyleCloseModel", "drawWhy", "(ZII)I"⟩, 44), (⟨"GargoyleCloseModel", "note", "()V"⟩, 44), (⟨"GargoyleCloseModel", "isNot", "(I)Z"⟩, 44)]
theorem lw_r8 : ∀ q ∈ lw_privs_8, lw_okq q := List.forall_mem_cons.mpr ⟨lw_p112, List.forall_mem_cons.mpr ⟨lw_p113, List.forall_mem_cons.mpr ⟨lw_p114, List.forall_mem_cons.mpr ⟨lw_p115, List.forall_mem_cons.mpr ⟨lw_p116, List.forall_mem_cons.mpr ⟨lw_p117, List.forall_mem_cons.mpr ⟨lw_p118, List.forall_mem_cons.mpr ⟨lw_p119, List.forall_mem_cons.mpr ⟨lw_p120, List.forall_mem_cons.mpr ⟨lw_p121, List.forall_mem_cons.mpr ⟨lw_p122, List.forall_mem_cons.mpr ⟨lw_p123, List.forall_mem_cons.mpr ⟨lw_p124, fun _ h => absurd h List.not_mem_nil⟩⟩⟩⟩⟩⟩⟩⟩⟩⟩⟩⟩⟩
def lw_privs : List (MethodName × Nat) := lw_privs_1 ++ (lw_privs_2 ++ (lw_privs_3 ++ (lw_privs_4 ++ (lw_privs_5 ++ (lw_privs_6 ++ (lw_privs_7 ++ (lw_privs_8)))))))
def lw_tbl : List Cond := k2_sels lw_privs ++ tables_1
theorem lw_privs_ok : ∀ q ∈ lw_privs, lw_okq q := by
  show ∀ q ∈ lw_privs_1 ++ (lw_privs_2 ++ (lw_privs_3 ++ (lw_privs_4 ++ (lw_privs_5 ++ (lw_privs_6 ++ (lw_privs_7 ++ (lw_privs_8))))))), lw_okq q
  exact List.forall_mem_append.mpr ⟨lw_r1, List.forall_mem_append.mpr ⟨lw_r2, List.forall_mem_append.mpr ⟨lw_r3, List.forall_mem_append.mpr ⟨lw_r4, List.forall_mem_append.mpr ⟨lw_r5, List.forall_mem_append.mpr ⟨lw_r6, List.forall_mem_append.mpr ⟨lw_r7, lw_r8⟩⟩⟩⟩⟩⟩⟩
-- ===== end of PART A; then your names; then what follows =====
def RX0 : String := "GargoyleClose$Course"
def TX0 : u_T := fun k => match k with
  | 0 => ("GargoyleClose$Course", "kind", "I", false)
  | 1 => ("GargoyleClose$Course", "wears", "I", false)
  | 2 => ("GargoyleClose$Course", "vexed", "I", false)
  | 3 => ("GargoyleClose$Course", "every", "I", false)
  | 4 => ("GargoyleClose$Course", "number", "I", false)
  | 5 => ("GargoyleClose$Course", "holds", "I", false)
  | 6 => ("GargoyleClose$Course", "bears", "I", false)
  | _ => ("GargoyleClose$Course", "drops", "I", false)
def tyX0 : Nat → FieldType := fun k => match k with
  | 0 => .int
  | 1 => .int
  | 2 => .int
  | 3 => .int
  | 4 => .int
  | 5 => .int
  | 6 => .int
  | _ => .int
abbrev wsX00 : List Cond := u_ws RX0 TX0 8
theorem nmX0 : ∀ a, a < 8 → ∀ b, b < 8 → a ≠ b → (TX0 a).2.1 ≠ (TX0 b).2.1 := by decide +kernel
theorem tyX0_ok : ∀ k, k < 8 → parseFieldDescriptor (TX0 k).2.2.1 = some (tyX0 k) := by decide +kernel
abbrev cX0_init : ByteArray := prog_2_method_1_code
def yX0_init : MethodName := ⟨RX0, "<init>", "()V"⟩
abbrev cX0_start : ByteArray := prog_2_method_2_code
def yX0_start : MethodName := ⟨RX0, "start", "(LGargoyleClose$Plan;III)V"⟩
abbrev cX0_pass : ByteArray := prog_2_method_3_code
def yX0_pass : MethodName := ⟨RX0, "pass", "(Z)Z"⟩
abbrev cX0_passAll : ByteArray := prog_2_method_4_code
def yX0_passAll : MethodName := ⟨RX0, "passAll", "(I)V"⟩
abbrev cX0_firstDrop : ByteArray := prog_2_method_5_code
def yX0_firstDrop : MethodName := ⟨RX0, "firstDrop", "(I)I"⟩
def RX1 : String := "GargoyleClose$Matching"
def TX1 : u_T := fun k => match k with
  | 0 => ("GargoyleClose$Matching", "more", "[[I", true)
  | 1 => ("GargoyleClose$Matching", "without", "[I", true)
  | 2 => ("GargoyleClose$Matching", "row", "[I", true)
  | 3 => ("GargoyleClose$Matching", "best", "[I", true)
  | 4 => ("GargoyleClose$Matching", "faces", "I", false)
  | 5 => ("GargoyleClose$Matching", "canons", "I", false)
  | 6 => ("GargoyleClose$Matching", "free", "I", false)
  | 7 => ("GargoyleClose$Matching", "idle", "I", false)
  | _ => ("GargoyleClose$Matching", "least", "I", false)
def tyX1 : Nat → FieldType := fun k => match k with
  | 0 => .array (.array .int)
  | 1 => .array .int
  | 2 => .array .int
  | 3 => .array .int
  | 4 => .int
  | 5 => .int
  | 6 => .int
  | 7 => .int
  | _ => .int
abbrev wsX10 : List Cond := u_ws RX1 TX1 9
theorem nmX1 : ∀ a, a < 9 → ∀ b, b < 9 → a ≠ b → (TX1 a).2.1 ≠ (TX1 b).2.1 := by decide +kernel
theorem tyX1_ok : ∀ k, k < 9 → parseFieldDescriptor (TX1 k).2.2.1 = some (tyX1 k) := by decide +kernel
abbrev cX1_init : ByteArray := prog_3_method_1_code
def yX1_init : MethodName := ⟨RX1, "<init>", "()V"⟩
abbrev cX1_clear : ByteArray := prog_3_method_2_code
def yX1_clear : MethodName := ⟨RX1, "clear", "(II)V"⟩
abbrev cX1_addFace : ByteArray := prog_3_method_3_code
def yX1_addFace : MethodName := ⟨RX1, "addFace", "(II)V"⟩
abbrev cX1_setCost : ByteArray := prog_3_method_4_code
def yX1_setCost : MethodName := ⟨RX1, "setCost", "(III)V"⟩
abbrev cX1_place : ByteArray := prog_3_method_5_code
def yX1_place : MethodName := ⟨RX1, "place", "(III)V"⟩
def RX2 : String := "GargoyleClose$Moment"
def TX2 : u_T := fun k => match k with
  | 0 => ("GargoyleClose$Moment", "holds", "[I", true)
  | 1 => ("GargoyleClose$Moment", "bears", "[I", true)
  | 2 => ("GargoyleClose$Moment", "drops", "[I", true)
  | 3 => ("GargoyleClose$Moment", "faceOf", "[I", true)
  | 4 => ("GargoyleClose$Moment", "days", "I", false)
  | _ => ("GargoyleClose$Moment", "wet", "I", false)
def tyX2 : Nat → FieldType := fun k => match k with
  | 0 => .array .int
  | 1 => .array .int
  | 2 => .array .int
  | 3 => .array .int
  | 4 => .int
  | _ => .int
abbrev wsX20 : List Cond := u_ws RX2 TX2 6
theorem nmX2 : ∀ a, a < 6 → ∀ b, b < 6 → a ≠ b → (TX2 a).2.1 ≠ (TX2 b).2.1 := by decide +kernel
theorem tyX2_ok : ∀ k, k < 6 → parseFieldDescriptor (TX2 k).2.2.1 = some (tyX2 k) := by decide +kernel
abbrev cX2_init : ByteArray := prog_4_method_1_code
def yX2_init : MethodName := ⟨RX2, "<init>", "()V"⟩
abbrev cX2_begin : ByteArray := prog_4_method_2_code
def yX2_begin : MethodName := ⟨RX2, "begin", "(LGargoyleClose$Plan;)V"⟩
abbrev cX2_copy : ByteArray := prog_4_method_3_code
def yX2_copy : MethodName := ⟨RX2, "copy", "(LGargoyleClose$Moment;)V"⟩
abbrev cX2_hasFallen : ByteArray := prog_4_method_4_code
def yX2_hasFallen : MethodName := ⟨RX2, "hasFallen", "(I)Z"⟩
def RX3 : String := "GargoyleClose$Plan"
def TX3 : u_T := fun k => match k with
  | 0 => ("GargoyleClose$Plan", "wide", "I", false)
  | 1 => ("GargoyleClose$Plan", "deep", "I", false)
  | 2 => ("GargoyleClose$Plan", "calm", "I", false)
  | 3 => ("GargoyleClose$Plan", "walls", "I", false)
  | 4 => ("GargoyleClose$Plan", "faces", "I", false)
  | 5 => ("GargoyleClose$Plan", "kind", "[I", true)
  | 6 => ("GargoyleClose$Plan", "holds", "[I", true)
  | 7 => ("GargoyleClose$Plan", "wears", "[I", true)
  | 8 => ("GargoyleClose$Plan", "at", "[I", true)
  | 9 => ("GargoyleClose$Plan", "dropDay", "[I", true)
  | 10 => ("GargoyleClose$Plan", "canons", "I", false)
  | 11 => ("GargoyleClose$Plan", "faceOf", "[I", true)
  | 12 => ("GargoyleClose$Plan", "vexed", "[I", true)
  | 13 => ("GargoyleClose$Plan", "every", "[I", true)
  | 14 => ("GargoyleClose$Plan", "walkers", "I", false)
  | 15 => ("GargoyleClose$Plan", "from", "[I", true)
  | 16 => ("GargoyleClose$Plan", "to", "[I", true)
  | 17 => ("GargoyleClose$Plan", "unsures", "I", false)
  | 18 => ("GargoyleClose$Plan", "unsure", "[I", true)
  | _ => ("GargoyleClose$Plan", "otherwise", "[I", true)
def tyX3 : Nat → FieldType := fun k => match k with
  | 0 => .int
  | 1 => .int
  | 2 => .int
  | 3 => .int
  | 4 => .int
  | 5 => .array .int
  | 6 => .array .int
  | 7 => .array .int
  | 8 => .array .int
  | 9 => .array .int
  | 10 => .int
  | 11 => .array .int
  | 12 => .array .int
  | 13 => .array .int
  | 14 => .int
  | 15 => .array .int
  | 16 => .array .int
  | 17 => .int
  | 18 => .array .int
  | _ => .array .int
abbrev wsX30 : List Cond := u_ws RX3 TX3 20
theorem nmX3 : ∀ a, a < 20 → ∀ b, b < 20 → a ≠ b → (TX3 a).2.1 ≠ (TX3 b).2.1 := by decide +kernel
theorem tyX3_ok : ∀ k, k < 20 → parseFieldDescriptor (TX3 k).2.2.1 = some (tyX3 k) := by decide +kernel
abbrev cX3_init : ByteArray := prog_5_method_1_code
def yX3_init : MethodName := ⟨RX3, "<init>", "()V"⟩
abbrev cX3_clear : ByteArray := prog_5_method_2_code
def yX3_clear : MethodName := ⟨RX3, "clear", "()V"⟩
abbrev cX3_cells : ByteArray := prog_5_method_3_code
def yX3_cells : MethodName := ⟨RX3, "cells", "()I"⟩
abbrev cX3_isWall : ByteArray := prog_5_method_4_code
def yX3_isWall : MethodName := ⟨RX3, "isWall", "(I)Z"⟩
abbrev cX3_wallCount : ByteArray := prog_5_method_5_code
def yX3_wallCount : MethodName := ⟨RX3, "wallCount", "()I"⟩
abbrev cX3_open : ByteArray := prog_5_method_6_code
def yX3_open : MethodName := ⟨RX3, "open", "()I"⟩
abbrev cX3_faceOver : ByteArray := prog_5_method_7_code
def yX3_faceOver : MethodName := ⟨RX3, "faceOver", "(I)I"⟩
abbrev cX3_toldCanonOf : ByteArray := prog_5_method_8_code
def yX3_toldCanonOf : MethodName := ⟨RX3, "toldCanonOf", "(I)I"⟩
abbrev cX3_unsureOf : ByteArray := prog_5_method_9_code
def yX3_unsureOf : MethodName := ⟨RX3, "unsureOf", "(I)I"⟩
abbrev cX3_vexedBy : ByteArray := prog_5_method_10_code
def yX3_vexedBy : MethodName := ⟨RX3, "vexedBy", "(II)I"⟩
abbrev cX3_droppedCount : ByteArray := prog_5_method_11_code
def yX3_droppedCount : MethodName := ⟨RX3, "droppedCount", "()I"⟩
def RX4 : String := "GargoyleClose$Reader"
def TX4 : u_T := fun k => match k with
  | 0 => ("GargoyleClose$Reader", "text", "[B", true)
  | 1 => ("GargoyleClose$Reader", "taped", "I", false)
  | 2 => ("GargoyleClose$Reader", "length", "I", false)
  | 3 => ("GargoyleClose$Reader", "plan", "LGargoyleClose$Plan;", false)
  | 4 => ("GargoyleClose$Reader", "sort", "I", false)
  | 5 => ("GargoyleClose$Reader", "start", "I", false)
  | 6 => ("GargoyleClose$Reader", "stop", "I", false)
  | 7 => ("GargoyleClose$Reader", "value", "I", false)
  | 8 => ("GargoyleClose$Reader", "letters", "J", false)
  | 9 => ("GargoyleClose$Reader", "names", "[J", true)
  | 10 => ("GargoyleClose$Reader", "nameSorts", "[I", true)
  | 11 => ("GargoyleClose$Reader", "nameNumbers", "[I", true)
  | 12 => ("GargoyleClose$Reader", "nameCount", "I", false)
  | 13 => ("GargoyleClose$Reader", "found", "I", false)
  | _ => ("GargoyleClose$Reader", "foundAt", "I", false)
def tyX4 : Nat → FieldType := fun k => match k with
  | 0 => .array .byte
  | 1 => .int
  | 2 => .int
  | 3 => .object "GargoyleClose$Plan"
  | 4 => .int
  | 5 => .int
  | 6 => .int
  | 7 => .int
  | 8 => .long
  | 9 => .array .long
  | 10 => .array .int
  | 11 => .array .int
  | 12 => .int
  | 13 => .int
  | _ => .int
abbrev wsX40 : List Cond := u_ws RX4 TX4 15
theorem nmX4 : ∀ a, a < 15 → ∀ b, b < 15 → a ≠ b → (TX4 a).2.1 ≠ (TX4 b).2.1 := by decide +kernel
theorem tyX4_ok : ∀ k, k < 15 → parseFieldDescriptor (TX4 k).2.2.1 = some (tyX4 k) := by decide +kernel
abbrev cX4_init : ByteArray := prog_6_method_1_code
def yX4_init : MethodName := ⟨RX4, "<init>", "()V"⟩
abbrev cX4_tape : ByteArray := prog_6_method_2_code
def yX4_tape : MethodName := ⟨RX4, "tape", "(I)V"⟩
abbrev cX4_reads : ByteArray := prog_6_method_3_code
def yX4_reads : MethodName := ⟨RX4, "reads", "(ILGargoyleClose$Plan;)Z"⟩
abbrev cX4_fails : ByteArray := prog_6_method_4_code
def yX4_fails : MethodName := ⟨RX4, "fails", "(I)Z"⟩
abbrev cX4_take : ByteArray := prog_6_method_5_code
def yX4_take : MethodName := ⟨RX4, "take", "()V"⟩
abbrev cX4_takeWord : ByteArray := prog_6_method_6_code
def yX4_takeWord : MethodName := ⟨RX4, "takeWord", "()V"⟩
abbrev cX4_takeWhole : ByteArray := prog_6_method_7_code
def yX4_takeWhole : MethodName := ⟨RX4, "takeWhole", "()V"⟩
abbrev cX4_isWord : ByteArray := prog_6_method_8_code
def yX4_isWord : MethodName := ⟨RX4, "isWord", "(Ljava/lang/String;)Z"⟩
abbrev cX4_beginsLine : ByteArray := prog_6_method_9_code
def yX4_beginsLine : MethodName := ⟨RX4, "beginsLine", "()Z"⟩
abbrev cX4_readsLine : ByteArray := prog_6_method_10_code
def yX4_readsLine : MethodName := ⟨RX4, "readsLine", "()Z"⟩
abbrev cX4_readsClose : ByteArray := prog_6_method_11_code
def yX4_readsClose : MethodName := ⟨RX4, "readsClose", "()Z"⟩
abbrev cX4_readsWall : ByteArray := prog_6_method_12_code
def yX4_readsWall : MethodName := ⟨RX4, "readsWall", "()Z"⟩
abbrev cX4_readsFace : ByteArray := prog_6_method_13_code
def yX4_readsFace : MethodName := ⟨RX4, "readsFace", "()Z"⟩
abbrev cX4_kindHere : ByteArray := prog_6_method_14_code
def yX4_kindHere : MethodName := ⟨RX4, "kindHere", "()I"⟩
abbrev cX4_readsCanon : ByteArray := prog_6_method_15_code
def yX4_readsCanon : MethodName := ⟨RX4, "readsCanon", "()Z"⟩
abbrev cX4_readsWalker : ByteArray := prog_6_method_16_code
def yX4_readsWalker : MethodName := ⟨RX4, "readsWalker", "()Z"⟩
abbrev cX4_readsUnsure : ByteArray := prog_6_method_17_code
def yX4_readsUnsure : MethodName := ⟨RX4, "readsUnsure", "()Z"⟩
abbrev cX4_readsDropped : ByteArray := prog_6_method_18_code
def yX4_readsDropped : MethodName := ⟨RX4, "readsDropped", "()Z"⟩
abbrev cX4_labelled : ByteArray := prog_6_method_19_code
def yX4_labelled : MethodName := ⟨RX4, "labelled", "(Ljava/lang/String;II)Z"⟩
abbrev cX4_bounded : ByteArray := prog_6_method_20_code
def yX4_bounded : MethodName := ⟨RX4, "bounded", "(II)Z"⟩
abbrev cX4_tells : ByteArray := prog_6_method_21_code
def yX4_tells : MethodName := ⟨RX4, "tells", "(II)Z"⟩
abbrev cX4_named : ByteArray := prog_6_method_22_code
def yX4_named : MethodName := ⟨RX4, "named", "(I)I"⟩
abbrev cX4_nameAt : ByteArray := prog_6_method_23_code
def yX4_nameAt : MethodName := ⟨RX4, "nameAt", "()I"⟩
def RX5 : String := "GargoyleClose$Ways"
def TX5 : u_T := fun k => match k with
  | 0 => ("GargoyleClose$Ways", "cost", "[I", true)
  | _ => ("GargoyleClose$Ways", "wet", "I", false)
def tyX5 : Nat → FieldType := fun k => match k with
  | 0 => .array .int
  | _ => .int
abbrev wsX50 : List Cond := u_ws RX5 TX5 2
theorem nmX5 : ∀ a, a < 2 → ∀ b, b < 2 → a ≠ b → (TX5 a).2.1 ≠ (TX5 b).2.1 := by decide +kernel
theorem tyX5_ok : ∀ k, k < 2 → parseFieldDescriptor (TX5 k).2.2.1 = some (tyX5 k) := by decide +kernel
abbrev cX5_init : ByteArray := prog_7_method_1_code
def yX5_init : MethodName := ⟨RX5, "<init>", "()V"⟩
abbrev cX5_beside : ByteArray := prog_7_method_2_code
def yX5_beside : MethodName := ⟨RX5, "beside", "(LGargoyleClose$Plan;I)I"⟩
abbrev cX5_fewest : ByteArray := prog_7_method_3_code
def yX5_fewest : MethodName := ⟨RX5, "fewest", "(LGargoyleClose$Plan;III)I"⟩
abbrev cX5_measure : ByteArray := prog_7_method_4_code
def yX5_measure : MethodName := ⟨RX5, "measure", "(LGargoyleClose$Plan;II)V"⟩
abbrev cX5_stepAt : ByteArray := prog_7_method_5_code
def yX5_stepAt : MethodName := ⟨RX5, "stepAt", "(LGargoyleClose$Plan;II)I"⟩
abbrev cX5_firstStep : ByteArray := prog_7_method_6_code
def yX5_firstStep : MethodName := ⟨RX5, "firstStep", "(LGargoyleClose$Plan;I)I"⟩
abbrev cX5_leastOnward : ByteArray := prog_7_method_7_code
def yX5_leastOnward : MethodName := ⟨RX5, "leastOnward", "(LGargoyleClose$Plan;I)I"⟩
abbrev cX5_weight : ByteArray := prog_7_method_8_code
def yX5_weight : MethodName := ⟨RX5, "weight", "(I)I"⟩
abbrev cX5_next : ByteArray := prog_7_method_9_code
def yX5_next : MethodName := ⟨RX5, "next", "(LGargoyleClose$Plan;II)I"⟩
def RX6 : String := "GargoyleClose"
def TX6 : u_T := fun k => match k with
  | 0 => ("GargoyleClose", "reader", "LGargoyleClose$Reader;", true)
  | 1 => ("GargoyleClose", "plan", "LGargoyleClose$Plan;", false)
  | 2 => ("GargoyleClose", "spare", "LGargoyleClose$Plan;", false)
  | 3 => ("GargoyleClose", "now", "LGargoyleClose$Moment;", true)
  | 4 => ("GargoyleClose", "kept", "[LGargoyleClose$Moment;", true)
  | 5 => ("GargoyleClose", "keptNext", "I", false)
  | 6 => ("GargoyleClose", "keptCount", "I", false)
  | 7 => ("GargoyleClose", "images", "[LGargoyleClose$Moment;", true)
  | 8 => ("GargoyleClose", "imageCount", "I", false)
  | 9 => ("GargoyleClose", "course", "LGargoyleClose$Course;", true)
  | 10 => ("GargoyleClose", "ways", "LGargoyleClose$Ways;", true)
  | 11 => ("GargoyleClose", "matching", "LGargoyleClose$Matching;", true)
  | 12 => ("GargoyleClose", "wetOn", "[I", true)
  | _ => ("GargoyleClose", "refusal", "I", false)
def tyX6 : Nat → FieldType := fun k => match k with
  | 0 => .object "GargoyleClose$Reader"
  | 1 => .object "GargoyleClose$Plan"
  | 2 => .object "GargoyleClose$Plan"
  | 3 => .object "GargoyleClose$Moment"
  | 4 => .array (.object "GargoyleClose$Moment")
  | 5 => .int
  | 6 => .int
  | 7 => .array (.object "GargoyleClose$Moment")
  | 8 => .int
  | 9 => .object "GargoyleClose$Course"
  | 10 => .object "GargoyleClose$Ways"
  | 11 => .object "GargoyleClose$Matching"
  | 12 => .array .int
  | _ => .int
abbrev wsX60 : List Cond := u_ws RX6 TX6 14
theorem nmX6 : ∀ a, a < 14 → ∀ b, b < 14 → a ≠ b → (TX6 a).2.1 ≠ (TX6 b).2.1 := by decide +kernel
theorem tyX6_ok : ∀ k, k < 14 → parseFieldDescriptor (TX6 k).2.2.1 = some (tyX6 k) := by decide +kernel
abbrev cX6_init : ByteArray := prog_1_method_1_code
def yX6_init : MethodName := ⟨RX6, "<init>", "()V"⟩
abbrev cX6_feed : ByteArray := prog_1_method_2_code
def yX6_feed : MethodName := ⟨RX6, "feed", "(IIIII)I"⟩
abbrev cX6_close : ByteArray := prog_1_method_3_code
def yX6_close : MethodName := ⟨RX6, "close", "(I)I"⟩
abbrev cX6_fault : ByteArray := prog_1_method_4_code
def yX6_fault : MethodName := ⟨RX6, "fault", "()I"⟩
abbrev cX6_where : ByteArray := prog_1_method_5_code
def yX6_where : MethodName := ⟨RX6, "where", "()I"⟩
abbrev cX6_face : ByteArray := prog_1_method_6_code
def yX6_face : MethodName := ⟨RX6, "face", "(II)I"⟩
abbrev cX6_canon : ByteArray := prog_1_method_7_code
def yX6_canon : MethodName := ⟨RX6, "canon", "(II)I"⟩
abbrev cX6_cell : ByteArray := prog_1_method_8_code
def yX6_cell : MethodName := ⟨RX6, "cell", "(II)I"⟩
abbrev cX6_burden : ByteArray := prog_1_method_9_code
def yX6_burden : MethodName := ⟨RX6, "burden", "()I"⟩
abbrev cX6_bears : ByteArray := prog_1_method_10_code
def yX6_bears : MethodName := ⟨RX6, "bears", "(II)I"⟩
abbrev cX6_holds : ByteArray := prog_1_method_11_code
def yX6_holds : MethodName := ⟨RX6, "holds", "(II)I"⟩
abbrev cX6_drops : ByteArray := prog_1_method_12_code
def yX6_drops : MethodName := ⟨RX6, "drops", "(II)I"⟩
abbrev cX6_dropsIn : ByteArray := prog_1_method_13_code
def yX6_dropsIn : MethodName := ⟨RX6, "dropsIn", "(I)I"⟩
abbrev cX6_fallsIn : ByteArray := prog_1_method_14_code
def yX6_fallsIn : MethodName := ⟨RX6, "fallsIn", "(I)I"⟩
abbrev cX6_wet : ByteArray := prog_1_method_15_code
def yX6_wet : MethodName := ⟨RX6, "wet", "(I)I"⟩
abbrev cX6_wetDays : ByteArray := prog_1_method_16_code
def yX6_wetDays : MethodName := ⟨RX6, "wetDays", "(II)I"⟩
abbrev cX6_wettest : ByteArray := prog_1_method_17_code
def yX6_wettest : MethodName := ⟨RX6, "wettest", "()I"⟩
abbrev cX6_sunny : ByteArray := prog_1_method_18_code
def yX6_sunny : MethodName := ⟨RX6, "sunny", "()I"⟩
abbrev cX6_heaviest : ByteArray := prog_1_method_19_code
def yX6_heaviest : MethodName := ⟨RX6, "heaviest", "()I"⟩
abbrev cX6_fallen : ByteArray := prog_1_method_20_code
def yX6_fallen : MethodName := ⟨RX6, "fallen", "(I)I"⟩
abbrev cX6_dropsIf : ByteArray := prog_1_method_21_code
def yX6_dropsIf : MethodName := ⟨RX6, "dropsIf", "(III)I"⟩
abbrev cX6_faceFor : ByteArray := prog_1_method_22_code
def yX6_faceFor : MethodName := ⟨RX6, "faceFor", "(II)I"⟩
abbrev cX6_match : ByteArray := prog_1_method_23_code
def yX6_match : MethodName := ⟨RX6, "match", "(I)I"⟩
abbrev cX6_matchDrops : ByteArray := prog_1_method_24_code
def yX6_matchDrops : MethodName := ⟨RX6, "matchDrops", "(I)I"⟩
abbrev cX6_matchAt : ByteArray := prog_1_method_25_code
def yX6_matchAt : MethodName := ⟨RX6, "matchAt", "(II)I"⟩
abbrev cX6_steps : ByteArray := prog_1_method_26_code
def yX6_steps : MethodName := ⟨RX6, "steps", "(II)I"⟩
abbrev cX6_wets : ByteArray := prog_1_method_27_code
def yX6_wets : MethodName := ⟨RX6, "wets", "(II)I"⟩
abbrev cX6_way : ByteArray := prog_1_method_28_code
def yX6_way : MethodName := ⟨RX6, "way", "(II)I"⟩
abbrev cX6_wayAt : ByteArray := prog_1_method_29_code
def yX6_wayAt : MethodName := ⟨RX6, "wayAt", "(III)I"⟩
abbrev cX6_dryDay : ByteArray := prog_1_method_30_code
def yX6_dryDay : MethodName := ⟨RX6, "dryDay", "(I)I"⟩
abbrev cX6_gate : ByteArray := prog_1_method_31_code
def yX6_gate : MethodName := ⟨RX6, "gate", "()I"⟩
abbrev cX6_fits : ByteArray := prog_1_method_32_code
def yX6_fits : MethodName := ⟨RX6, "fits", "()I"⟩
abbrev cX6_fitAt : ByteArray := prog_1_method_33_code
def yX6_fitAt : MethodName := ⟨RX6, "fitAt", "(I)I"⟩
abbrev cX6_could : ByteArray := prog_1_method_34_code
def yX6_could : MethodName := ⟨RX6, "could", "()I"⟩
abbrev cX6_surely : ByteArray := prog_1_method_35_code
def yX6_surely : MethodName := ⟨RX6, "surely", "()I"⟩
abbrev cX6_ask : ByteArray := prog_1_method_36_code
def yX6_ask : MethodName := ⟨RX6, "ask", "()I"⟩
abbrev cX6_askLeaves : ByteArray := prog_1_method_37_code
def yX6_askLeaves : MethodName := ⟨RX6, "askLeaves", "()I"⟩
abbrev cX6_judge : ByteArray := prog_1_method_38_code
def yX6_judge : MethodName := ⟨RX6, "judge", "()I"⟩
abbrev cX6_sulks : ByteArray := prog_1_method_39_code
def yX6_sulks : MethodName := ⟨RX6, "sulks", "(IZZZ)I"⟩
abbrev cX6_rests : ByteArray := prog_1_method_40_code
def yX6_rests : MethodName := ⟨RX6, "rests", "(I)I"⟩
abbrev cX6_rest : ByteArray := prog_1_method_41_code
def yX6_rest : MethodName := ⟨RX6, "rest", "(I)I"⟩
abbrev cX6_odds : ByteArray := prog_1_method_42_code
def yX6_odds : MethodName := ⟨RX6, "odds", "(IIZ)J"⟩
abbrev cX6_mean : ByteArray := prog_1_method_43_code
def yX6_mean : MethodName := ⟨RX6, "mean", "(IIZ)J"⟩
abbrev cX6_borne : ByteArray := prog_1_method_44_code
def yX6_borne : MethodName := ⟨RX6, "borne", "(III)I"⟩
abbrev cX6_firstWet : ByteArray := prog_1_method_45_code
def yX6_firstWet : MethodName := ⟨RX6, "firstWet", "(II)I"⟩
abbrev cX6_day : ByteArray := prog_1_method_46_code
def yX6_day : MethodName := ⟨RX6, "day", "()I"⟩
abbrev cX6_give : ByteArray := prog_1_method_47_code
def yX6_give : MethodName := ⟨RX6, "give", "(II)I"⟩
abbrev cX6_mend : ByteArray := prog_1_method_48_code
def yX6_mend : MethodName := ⟨RX6, "mend", "(I)Z"⟩
abbrev cX6_vex : ByteArray := prog_1_method_49_code
def yX6_vex : MethodName := ⟨RX6, "vex", "(II)I"⟩
abbrev cX6_undo : ByteArray := prog_1_method_50_code
def yX6_undo : MethodName := ⟨RX6, "undo", "()Z"⟩
abbrev cX6_image : ByteArray := prog_1_method_51_code
def yX6_image : MethodName := ⟨RX6, "image", "()I"⟩
abbrev cX6_back : ByteArray := prog_1_method_52_code
def yX6_back : MethodName := ⟨RX6, "back", "(I)Z"⟩
abbrev cX6_led : ByteArray := prog_1_method_53_code
def yX6_led : MethodName := ⟨RX6, "led", "(I)I"⟩
abbrev cX6_size : ByteArray := prog_1_method_54_code
def yX6_size : MethodName := ⟨RX6, "size", "(I)I"⟩
abbrev cX6_trouble : ByteArray := prog_1_method_55_code
def yX6_trouble : MethodName := ⟨RX6, "trouble", "()I"⟩
abbrev cX6_answer : ByteArray := prog_1_method_56_code
def yX6_answer : MethodName := ⟨RX6, "answer", "(I)I"⟩
abbrev cX6_refuse : ByteArray := prog_1_method_57_code
def yX6_refuse : MethodName := ⟨RX6, "refuse", "(I)I"⟩
abbrev cX6_within : ByteArray := prog_1_method_58_code
def yX6_within : MethodName := ⟨RX6, "within", "(III)Z"⟩
abbrev cX6_hasClose : ByteArray := prog_1_method_59_code
def yX6_hasClose : MethodName := ⟨RX6, "hasClose", "()Z"⟩
abbrev cX6_isFace : ByteArray := prog_1_method_60_code
def yX6_isFace : MethodName := ⟨RX6, "isFace", "(I)Z"⟩
abbrev cX6_isCanon : ByteArray := prog_1_method_61_code
def yX6_isCanon : MethodName := ⟨RX6, "isCanon", "(I)Z"⟩
abbrev cX6_isCell : ByteArray := prog_1_method_62_code
def yX6_isCell : MethodName := ⟨RX6, "isCell", "(I)Z"⟩
abbrev cX6_isWalker : ByteArray := prog_1_method_63_code
def yX6_isWalker : MethodName := ⟨RX6, "isWalker", "(I)Z"⟩
abbrev cX6_isSeed : ByteArray := prog_1_method_64_code
def yX6_isSeed : MethodName := ⟨RX6, "isSeed", "(I)Z"⟩
abbrev cX6_canonOf : ByteArray := prog_1_method_65_code
def yX6_canonOf : MethodName := ⟨RX6, "canonOf", "(I)I"⟩
abbrev cX6_canFollow : ByteArray := prog_1_method_66_code
def yX6_canFollow : MethodName := ⟨RX6, "canFollow", "(II)Z"⟩
abbrev cX6_canLookAhead : ByteArray := prog_1_method_67_code
def yX6_canLookAhead : MethodName := ⟨RX6, "canLookAhead", "(III)Z"⟩
abbrev cX6_canWalk : ByteArray := prog_1_method_68_code
def yX6_canWalk : MethodName := ⟨RX6, "canWalk", "(II)Z"⟩
abbrev cX6_canGame : ByteArray := prog_1_method_69_code
def yX6_canGame : MethodName := ⟨RX6, "canGame", "(I)Z"⟩
abbrev cX6_canChance : ByteArray := prog_1_method_70_code
def yX6_canChance : MethodName := ⟨RX6, "canChance", "(II)Z"⟩
abbrev cX6_numberFits : ByteArray := prog_1_method_71_code
def yX6_numberFits : MethodName := ⟨RX6, "numberFits", "(III)Z"⟩
abbrev cX6_startNow : ByteArray := prog_1_method_72_code
def yX6_startNow : MethodName := ⟨RX6, "startNow", "(II)V"⟩
abbrev cX6_follow : ByteArray := prog_1_method_73_code
def yX6_follow : MethodName := ⟨RX6, "follow", "(II)V"⟩
abbrev cX6_foretellWet : ByteArray := prog_1_method_74_code
def yX6_foretellWet : MethodName := ⟨RX6, "foretellWet", "(I)V"⟩
abbrev cX6_wetDaysOf : ByteArray := prog_1_method_75_code
def yX6_wetDaysOf : MethodName := ⟨RX6, "wetDaysOf", "(II)I"⟩
abbrev cX6_firstDropBySeed : ByteArray := prog_1_method_76_code
def yX6_firstDropBySeed : MethodName := ⟨RX6, "firstDropBySeed", "(III)I"⟩
abbrev cX6_draw : ByteArray := prog_1_method_77_code
def yX6_draw : MethodName := ⟨RX6, "draw", "(I)I"⟩
abbrev cX6_isCalm : ByteArray := prog_1_method_78_code
def yX6_isCalm : MethodName := ⟨RX6, "isCalm", "(I)Z"⟩
abbrev cX6_couldHave : ByteArray := prog_1_method_79_code
def yX6_couldHave : MethodName := ⟨RX6, "couldHave", "(II)Z"⟩
abbrev cX6_costOf : ByteArray := prog_1_method_80_code
def yX6_costOf : MethodName := ⟨RX6, "costOf", "(III)I"⟩
abbrev cX6_costIf : ByteArray := prog_1_method_81_code
def yX6_costIf : MethodName := ⟨RX6, "costIf", "(III)I"⟩
abbrev cX6_tooFewFaces : ByteArray := prog_1_method_82_code
def yX6_tooFewFaces : MethodName := ⟨RX6, "tooFewFaces", "()Z"⟩
abbrev cX6_makeMatch : ByteArray := prog_1_method_83_code
def yX6_makeMatch : MethodName := ⟨RX6, "makeMatch", "(I)V"⟩
abbrev cX6_wayCost : ByteArray := prog_1_method_84_code
def yX6_wayCost : MethodName := ⟨RX6, "wayCost", "(II)I"⟩
abbrev cX6_stepsTogether : ByteArray := prog_1_method_85_code
def yX6_stepsTogether : MethodName := ⟨RX6, "stepsTogether", "(I)I"⟩
abbrev cX6_fittingSets : ByteArray := prog_1_method_86_code
def yX6_fittingSets : MethodName := ⟨RX6, "fittingSets", "()I"⟩
abbrev cX6_setFits : ByteArray := prog_1_method_87_code
def yX6_setFits : MethodName := ⟨RX6, "setFits", "(I)Z"⟩
abbrev cX6_dropFits : ByteArray := prog_1_method_88_code
def yX6_dropFits : MethodName := ⟨RX6, "dropFits", "(II)Z"⟩
abbrev cX6_setsWith : ByteArray := prog_1_method_89_code
def yX6_setsWith : MethodName := ⟨RX6, "setsWith", "(II)I"⟩
abbrev cX6_leftAtMost : ByteArray := prog_1_method_90_code
def yX6_leftAtMost : MethodName := ⟨RX6, "leftAtMost", "(II)I"⟩
abbrev cX6_bestToAsk : ByteArray := prog_1_method_91_code
def yX6_bestToAsk : MethodName := ⟨RX6, "bestToAsk", "(I)I"⟩
abbrev cX6_share : ByteArray := prog_1_method_92_code
def yX6_share : MethodName := ⟨RX6, "share", "(IIIZ)I"⟩
abbrev cX6_isRest : ByteArray := prog_1_method_93_code
def yX6_isRest : MethodName := ⟨RX6, "isRest", "(III)Z"⟩
abbrev cX6_chance : ByteArray := prog_1_method_94_code
def yX6_chance : MethodName := ⟨RX6, "chance", "(IIZZ)J"⟩
abbrev cX6_greatestDivisor : ByteArray := prog_1_method_95_code
def yX6_greatestDivisor : MethodName := ⟨RX6, "greatestDivisor", "(JJ)J"⟩
abbrev cX6_keep : ByteArray := prog_1_method_96_code
def yX6_keep : MethodName := ⟨RX6, "keep", "()V"⟩
def RX7 : String := "GargoyleCloseModel"
def TX7 : u_T := fun k => match k with
  | 0 => ("GargoyleCloseModel", "thrown", "I", false)
  | 1 => ("GargoyleCloseModel", "tape", "[I", true)
  | 2 => ("GargoyleCloseModel", "taped", "I", false)
  | 3 => ("GargoyleCloseModel", "size", "I", false)
  | 4 => ("GargoyleCloseModel", "at", "I", false)
  | 5 => ("GargoyleCloseModel", "end", "I", false)
  | 6 => ("GargoyleCloseModel", "token", "I", false)
  | 7 => ("GargoyleCloseModel", "whole", "I", false)
  | 8 => ("GargoyleCloseModel", "nameSize", "I", false)
  | 9 => ("GargoyleCloseModel", "fault", "I", false)
  | 10 => ("GargoyleCloseModel", "place", "I", false)
  | 11 => ("GargoyleCloseModel", "trouble", "I", false)
  | 12 => ("GargoyleCloseModel", "letters", "[I", true)
  | 13 => ("GargoyleCloseModel", "failed", "Z", false)
  | 14 => ("GargoyleCloseModel", "hasClose", "Z", false)
  | 15 => ("GargoyleCloseModel", "\x72", "[I", true)
  | 16 => ("GargoyleCloseModel", "fresh", "[I", true)
  | 17 => ("GargoyleCloseModel", "told", "[I", true)
  | 18 => ("GargoyleCloseModel", "read", "[I", true)
  | 19 => ("GargoyleCloseModel", "st", "[I", true)
  | 20 => ("GargoyleCloseModel", "undone", "[I", true)
  | 21 => ("GargoyleCloseModel", "kept", "[I", true)
  | 22 => ("GargoyleCloseModel", "undos", "I", false)
  | 23 => ("GargoyleCloseModel", "images", "I", false)
  | 24 => ("GargoyleCloseModel", "vexed", "[I", true)
  | 25 => ("GargoyleCloseModel", "trial", "[I", true)
  | 26 => ("GargoyleCloseModel", "goneWall", "I", false)
  | 27 => ("GargoyleCloseModel", "plan", "[I", true)
  | 28 => ("GargoyleCloseModel", "bestPlan", "[I", true)
  | 29 => ("GargoyleCloseModel", "planFalls", "I", false)
  | 30 => ("GargoyleCloseModel", "planLets", "I", false)
  | 31 => ("GargoyleCloseModel", "bestFalls", "I", false)
  | 32 => ("GargoyleCloseModel", "bestLets", "I", false)
  | 33 => ("GargoyleCloseModel", "cost", "[I", true)
  | 34 => ("GargoyleCloseModel", "firstDay", "[I", true)
  | 35 => ("GargoyleCloseModel", "often", "[I", true)
  | 36 => ("GargoyleCloseModel", "setMany", "I", false)
  | 37 => ("GargoyleCloseModel", "someOf", "I", false)
  | 38 => ("GargoyleCloseModel", "allOf", "I", false)
  | 39 => ("GargoyleCloseModel", "firstRest", "I", false)
  | 40 => ("GargoyleCloseModel", "allWeight", "J", false)
  | 41 => ("GargoyleCloseModel", "dropWeight", "J", false)
  | 42 => ("GargoyleCloseModel", "bearSum", "J", false)
  | _ => ("GargoyleCloseModel", "wetFirst", "I", false)
def tyX7 : Nat → FieldType := fun k => match k with
  | 0 => .int
  | 1 => .array .int
  | 2 => .int
  | 3 => .int
  | 4 => .int
  | 5 => .int
  | 6 => .int
  | 7 => .int
  | 8 => .int
  | 9 => .int
  | 10 => .int
  | 11 => .int
  | 12 => .array .int
  | 13 => .boolean
  | 14 => .boolean
  | 15 => .array .int
  | 16 => .array .int
  | 17 => .array .int
  | 18 => .array .int
  | 19 => .array .int
  | 20 => .array .int
  | 21 => .array .int
  | 22 => .int
  | 23 => .int
  | 24 => .array .int
  | 25 => .array .int
  | 26 => .int
  | 27 => .array .int
  | 28 => .array .int
  | 29 => .int
  | 30 => .int
  | 31 => .int
  | 32 => .int
  | 33 => .array .int
  | 34 => .array .int
  | 35 => .array .int
  | 36 => .int
  | 37 => .int
  | 38 => .int
  | 39 => .int
  | 40 => .long
  | 41 => .long
  | 42 => .long
  | _ => .int
abbrev wsX70 : List Cond := u_ws RX7 TX7 44
theorem nmX7 : ∀ a, a < 44 → ∀ b, b < 44 → a ≠ b → (TX7 a).2.1 ≠ (TX7 b).2.1 := by decide +kernel
theorem tyX7_ok : ∀ k, k < 44 → parseFieldDescriptor (TX7 k).2.2.1 = some (tyX7 k) := by decide +kernel
abbrev cX7_init : ByteArray := prog_9_method_1_code
def yX7_init : MethodName := ⟨RX7, "<init>", "()V"⟩
abbrev cX7_thrown : ByteArray := prog_9_method_2_code
def yX7_thrown : MethodName := ⟨RX7, "thrown", "()I"⟩
abbrev cX7_good : ByteArray := prog_9_method_3_code
def yX7_good : MethodName := ⟨RX7, "good", "()V"⟩
abbrev cX7_no : ByteArray := prog_9_method_4_code
def yX7_no : MethodName := ⟨RX7, "no", "(I)I"⟩
abbrev cX7_isNot : ByteArray := prog_9_method_5_code
def yX7_isNot : MethodName := ⟨RX7, "isNot", "(I)Z"⟩
abbrev cX7_in : ByteArray := prog_9_method_6_code
def yX7_in : MethodName := ⟨RX7, "in", "(III)Z"⟩
abbrev cX7_hasBit : ByteArray := prog_9_method_7_code
def yX7_hasBit : MethodName := ⟨RX7, "hasBit", "(II)Z"⟩
abbrev cX7_ones : ByteArray := prog_9_method_8_code
def yX7_ones : MethodName := ⟨RX7, "ones", "(I)I"⟩
abbrev cX7_copy : ByteArray := prog_9_method_9_code
def yX7_copy : MethodName := ⟨RX7, "copy", "([II[III)V"⟩
abbrev cX7_lowest : ByteArray := prog_9_method_10_code
def yX7_lowest : MethodName := ⟨RX7, "lowest", "(JJZ)J"⟩
abbrev cX7_feed : ByteArray := prog_9_method_11_code
def yX7_feed : MethodName := ⟨RX7, "feed", "(IIIII)I"⟩
abbrev cX7_see : ByteArray := prog_9_method_12_code
def yX7_see : MethodName := ⟨RX7, "see", "(I)I"⟩
abbrev cX7_isSmall : ByteArray := prog_9_method_13_code
def yX7_isSmall : MethodName := ⟨RX7, "isSmall", "(I)Z"⟩
abbrev cX7_isDigit : ByteArray := prog_9_method_14_code
def yX7_isDigit : MethodName := ⟨RX7, "isDigit", "(I)Z"⟩
abbrev cX7_next : ByteArray := prog_9_method_15_code
def yX7_next : MethodName := ⟨RX7, "next", "()V"⟩
abbrev cX7_wrong : ByteArray := prog_9_method_16_code
def yX7_wrong : MethodName := ⟨RX7, "wrong", "(II)V"⟩
abbrev cX7_isWord : ByteArray := prog_9_method_17_code
def yX7_isWord : MethodName := ⟨RX7, "isWord", "(Ljava/lang/String;)Z"⟩
abbrev cX7_takesWord : ByteArray := prog_9_method_18_code
def yX7_takesWord : MethodName := ⟨RX7, "takesWord", "(Ljava/lang/String;)Z"⟩
abbrev cX7_must : ByteArray := prog_9_method_19_code
def yX7_must : MethodName := ⟨RX7, "must", "(Ljava/lang/String;)V"⟩
abbrev cX7_mustName : ByteArray := prog_9_method_20_code
def yX7_mustName : MethodName := ⟨RX7, "mustName", "()V"⟩
abbrev cX7_find : ByteArray := prog_9_method_21_code
def yX7_find : MethodName := ⟨RX7, "find", "()I"⟩
abbrev cX7_newName : ByteArray := prog_9_method_22_code
def yX7_newName : MethodName := ⟨RX7, "newName", "(I)V"⟩
abbrev cX7_named : ByteArray := prog_9_method_23_code
def yX7_named : MethodName := ⟨RX7, "named", "(II)I"⟩
abbrev cX7_pass : ByteArray := prog_9_method_24_code
def yX7_pass : MethodName := ⟨RX7, "pass", "()V"⟩
abbrev cX7_numberHere : ByteArray := prog_9_method_25_code
def yX7_numberHere : MethodName := ⟨RX7, "numberHere", "(II)I"⟩
abbrev cX7_number : ByteArray := prog_9_method_26_code
def yX7_number : MethodName := ⟨RX7, "number", "(II)I"⟩
abbrev cX7_after : ByteArray := prog_9_method_27_code
def yX7_after : MethodName := ⟨RX7, "after", "(Ljava/lang/String;II)I"⟩
abbrev cX7_close : ByteArray := prog_9_method_28_code
def yX7_close : MethodName := ⟨RX7, "close", "(I)I"⟩
abbrev cX7_begins : ByteArray := prog_9_method_29_code
def yX7_begins : MethodName := ⟨RX7, "begins", "(Ljava/lang/String;Z)Z"⟩
abbrev cX7_readLine : ByteArray := prog_9_method_30_code
def yX7_readLine : MethodName := ⟨RX7, "readLine", "()V"⟩
abbrev cX7_closeLine : ByteArray := prog_9_method_31_code
def yX7_closeLine : MethodName := ⟨RX7, "closeLine", "()V"⟩
abbrev cX7_cellHere : ByteArray := prog_9_method_32_code
def yX7_cellHere : MethodName := ⟨RX7, "cellHere", "()I"⟩
abbrev cX7_wallLine : ByteArray := prog_9_method_33_code
def yX7_wallLine : MethodName := ⟨RX7, "wallLine", "()V"⟩
abbrev cX7_faceLine : ByteArray := prog_9_method_34_code
def yX7_faceLine : MethodName := ⟨RX7, "faceLine", "()V"⟩
abbrev cX7_canonLine : ByteArray := prog_9_method_35_code
def yX7_canonLine : MethodName := ⟨RX7, "canonLine", "()V"⟩
abbrev cX7_openCell : ByteArray := prog_9_method_36_code
def yX7_openCell : MethodName := ⟨RX7, "openCell", "()I"⟩
abbrev cX7_walkerLine : ByteArray := prog_9_method_37_code
def yX7_walkerLine : MethodName := ⟨RX7, "walkerLine", "()V"⟩
abbrev cX7_unsureLine : ByteArray := prog_9_method_38_code
def yX7_unsureLine : MethodName := ⟨RX7, "unsureLine", "()V"⟩
abbrev cX7_droppedLine : ByteArray := prog_9_method_39_code
def yX7_droppedLine : MethodName := ⟨RX7, "droppedLine", "()V"⟩
abbrev cX7_fault : ByteArray := prog_9_method_40_code
def yX7_fault : MethodName := ⟨RX7, "fault", "()I"⟩
abbrev cX7_where : ByteArray := prog_9_method_41_code
def yX7_where : MethodName := ⟨RX7, "where", "()I"⟩
abbrev cX7_isFace : ByteArray := prog_9_method_42_code
def yX7_isFace : MethodName := ⟨RX7, "isFace", "(I)Z"⟩
abbrev cX7_isCanon : ByteArray := prog_9_method_43_code
def yX7_isCanon : MethodName := ⟨RX7, "isCanon", "(I)Z"⟩
abbrev cX7_cells : ByteArray := prog_9_method_44_code
def yX7_cells : MethodName := ⟨RX7, "cells", "()I"⟩
abbrev cX7_isCell : ByteArray := prog_9_method_45_code
def yX7_isCell : MethodName := ⟨RX7, "isCell", "(I)Z"⟩
abbrev cX7_isWalker : ByteArray := prog_9_method_46_code
def yX7_isWalker : MethodName := ⟨RX7, "isWalker", "(I)Z"⟩
abbrev cX7_why : ByteArray := prog_9_method_47_code
def yX7_why : MethodName := ⟨RX7, "why", "(ZZ)I"⟩
abbrev cX7_vexedBy : ByteArray := prog_9_method_48_code
def yX7_vexedBy : MethodName := ⟨RX7, "vexedBy", "(I)V"⟩
abbrev cX7_letsGo : ByteArray := prog_9_method_49_code
def yX7_letsGo : MethodName := ⟨RX7, "letsGo", "([II)I"⟩
abbrev cX7_dayOn : ByteArray := prog_9_method_50_code
def yX7_dayOn : MethodName := ⟨RX7, "dayOn", "([IZ)V"⟩
abbrev cX7_daysOn : ByteArray := prog_9_method_51_code
def yX7_daysOn : MethodName := ⟨RX7, "daysOn", "(I)V"⟩
abbrev cX7_letsOf : ByteArray := prog_9_method_52_code
def yX7_letsOf : MethodName := ⟨RX7, "letsOf", "([I)I"⟩
abbrev cX7_fallenOn : ByteArray := prog_9_method_53_code
def yX7_fallenOn : MethodName := ⟨RX7, "fallenOn", "([I)I"⟩
abbrev cX7_canonOf : ByteArray := prog_9_method_54_code
def yX7_canonOf : MethodName := ⟨RX7, "canonOf", "(I)I"⟩
abbrev cX7_face : ByteArray := prog_9_method_55_code
def yX7_face : MethodName := ⟨RX7, "face", "(II)I"⟩
abbrev cX7_canon : ByteArray := prog_9_method_56_code
def yX7_canon : MethodName := ⟨RX7, "canon", "(II)I"⟩
abbrev cX7_faceOver : ByteArray := prog_9_method_57_code
def yX7_faceOver : MethodName := ⟨RX7, "faceOver", "(I)I"⟩
abbrev cX7_isWall : ByteArray := prog_9_method_58_code
def yX7_isWall : MethodName := ⟨RX7, "isWall", "(I)Z"⟩
abbrev cX7_stepFrom : ByteArray := prog_9_method_59_code
def yX7_stepFrom : MethodName := ⟨RX7, "stepFrom", "(II)I"⟩
abbrev cX7_beside : ByteArray := prog_9_method_60_code
def yX7_beside : MethodName := ⟨RX7, "beside", "(I)I"⟩
abbrev cX7_cell : ByteArray := prog_9_method_61_code
def yX7_cell : MethodName := ⟨RX7, "cell", "(II)I"⟩
abbrev cX7_burden : ByteArray := prog_9_method_62_code
def yX7_burden : MethodName := ⟨RX7, "burden", "()I"⟩
abbrev cX7_aheadWhy : ByteArray := prog_9_method_63_code
def yX7_aheadWhy : MethodName := ⟨RX7, "aheadWhy", "(ZII)I"⟩
abbrev cX7_bears : ByteArray := prog_9_method_64_code
def yX7_bears : MethodName := ⟨RX7, "bears", "(II)I"⟩
abbrev cX7_holds : ByteArray := prog_9_method_65_code
def yX7_holds : MethodName := ⟨RX7, "holds", "(II)I"⟩
abbrev cX7_drops : ByteArray := prog_9_method_66_code
def yX7_drops : MethodName := ⟨RX7, "drops", "(II)I"⟩
abbrev cX7_dropsIn : ByteArray := prog_9_method_67_code
def yX7_dropsIn : MethodName := ⟨RX7, "dropsIn", "(I)I"⟩
abbrev cX7_fallsIn : ByteArray := prog_9_method_68_code
def yX7_fallsIn : MethodName := ⟨RX7, "fallsIn", "(I)I"⟩
abbrev cX7_wet : ByteArray := prog_9_method_69_code
def yX7_wet : MethodName := ⟨RX7, "wet", "(I)I"⟩
abbrev cX7_wetOften : ByteArray := prog_9_method_70_code
def yX7_wetOften : MethodName := ⟨RX7, "wetOften", "(II)I"⟩
abbrev cX7_wetDays : ByteArray := prog_9_method_71_code
def yX7_wetDays : MethodName := ⟨RX7, "wetDays", "(II)I"⟩
abbrev cX7_wettest : ByteArray := prog_9_method_72_code
def yX7_wettest : MethodName := ⟨RX7, "wettest", "()I"⟩
abbrev cX7_sunny : ByteArray := prog_9_method_73_code
def yX7_sunny : MethodName := ⟨RX7, "sunny", "()I"⟩
abbrev cX7_heaviest : ByteArray := prog_9_method_74_code
def yX7_heaviest : MethodName := ⟨RX7, "heaviest", "()I"⟩
abbrev cX7_fallen : ByteArray := prog_9_method_75_code
def yX7_fallen : MethodName := ⟨RX7, "fallen", "(I)I"⟩
abbrev cX7_planAsNow : ByteArray := prog_9_method_76_code
def yX7_planAsNow : MethodName := ⟨RX7, "planAsNow", "()V"⟩
abbrev cX7_goByPlan : ByteArray := prog_9_method_77_code
def yX7_goByPlan : MethodName := ⟨RX7, "goByPlan", "(I)V"⟩
abbrev cX7_mayHave : ByteArray := prog_9_method_78_code
def yX7_mayHave : MethodName := ⟨RX7, "mayHave", "(II)Z"⟩
abbrev cX7_planWhy : ByteArray := prog_9_method_79_code
def yX7_planWhy : MethodName := ⟨RX7, "planWhy", "(ZI)I"⟩
abbrev cX7_dropsIf : ByteArray := prog_9_method_80_code
def yX7_dropsIf : MethodName := ⟨RX7, "dropsIf", "(III)I"⟩
abbrev cX7_isBest : ByteArray := prog_9_method_81_code
def yX7_isBest : MethodName := ⟨RX7, "isBest", "(I)Z"⟩
abbrev cX7_faceFor : ByteArray := prog_9_method_82_code
def yX7_faceFor : MethodName := ⟨RX7, "faceFor", "(II)I"⟩
abbrev cX7_tryPlans : ByteArray := prog_9_method_83_code
def yX7_tryPlans : MethodName := ⟨RX7, "tryPlans", "(III)V"⟩
abbrev cX7_seekMatch : ByteArray := prog_9_method_84_code
def yX7_seekMatch : MethodName := ⟨RX7, "seekMatch", "(I)V"⟩
abbrev cX7_match : ByteArray := prog_9_method_85_code
def yX7_match : MethodName := ⟨RX7, "match", "(I)I"⟩
abbrev cX7_matchDrops : ByteArray := prog_9_method_86_code
def yX7_matchDrops : MethodName := ⟨RX7, "matchDrops", "(I)I"⟩
abbrev cX7_matchAt : ByteArray := prog_9_method_87_code
def yX7_matchAt : MethodName := ⟨RX7, "matchAt", "(II)I"⟩
abbrev cX7_costOf : ByteArray := prog_9_method_88_code
def yX7_costOf : MethodName := ⟨RX7, "costOf", "(II)I"⟩
abbrev cX7_layCosts : ByteArray := prog_9_method_89_code
def yX7_layCosts : MethodName := ⟨RX7, "layCosts", "(II)V"⟩
abbrev cX7_stepsOf : ByteArray := prog_9_method_90_code
def yX7_stepsOf : MethodName := ⟨RX7, "stepsOf", "(II)I"⟩
abbrev cX7_steps : ByteArray := prog_9_method_91_code
def yX7_steps : MethodName := ⟨RX7, "steps", "(II)I"⟩
abbrev cX7_wayOf : ByteArray := prog_9_method_92_code
def yX7_wayOf : MethodName := ⟨RX7, "wayOf", "(II)I"⟩
abbrev cX7_wets : ByteArray := prog_9_method_93_code
def yX7_wets : MethodName := ⟨RX7, "wets", "(II)I"⟩
abbrev cX7_way : ByteArray := prog_9_method_94_code
def yX7_way : MethodName := ⟨RX7, "way", "(II)I"⟩
abbrev cX7_wayAt : ByteArray := prog_9_method_95_code
def yX7_wayAt : MethodName := ⟨RX7, "wayAt", "(III)I"⟩
abbrev cX7_dryDay : ByteArray := prog_9_method_96_code
def yX7_dryDay : MethodName := ⟨RX7, "dryDay", "(I)I"⟩
abbrev cX7_allSteps : ByteArray := prog_9_method_97_code
def yX7_allSteps : MethodName := ⟨RX7, "allSteps", "()I"⟩
abbrev cX7_gate : ByteArray := prog_9_method_98_code
def yX7_gate : MethodName := ⟨RX7, "gate", "()I"⟩
abbrev cX7_wrongBy : ByteArray := prog_9_method_99_code
def yX7_wrongBy : MethodName := ⟨RX7, "wrongBy", "(I)I"⟩
abbrev cX7_seekSets : ByteArray := prog_9_method_100_code
def yX7_seekSets : MethodName := ⟨RX7, "seekSets", "(I)I"⟩
abbrev cX7_fits : ByteArray := prog_9_method_101_code
def yX7_fits : MethodName := ⟨RX7, "fits", "()I"⟩
abbrev cX7_fitAt : ByteArray := prog_9_method_102_code
def yX7_fitAt : MethodName := ⟨RX7, "fitAt", "(I)I"⟩
abbrev cX7_could : ByteArray := prog_9_method_103_code
def yX7_could : MethodName := ⟨RX7, "could", "()I"⟩
abbrev cX7_surely : ByteArray := prog_9_method_104_code
def yX7_surely : MethodName := ⟨RX7, "surely", "()I"⟩
abbrev cX7_leavesOf : ByteArray := prog_9_method_105_code
def yX7_leavesOf : MethodName := ⟨RX7, "leavesOf", "(I)I"⟩
abbrev cX7_askOf : ByteArray := prog_9_method_106_code
def yX7_askOf : MethodName := ⟨RX7, "askOf", "()I"⟩
abbrev cX7_ask : ByteArray := prog_9_method_107_code
def yX7_ask : MethodName := ⟨RX7, "ask", "()I"⟩
abbrev cX7_askLeaves : ByteArray := prog_9_method_108_code
def yX7_askLeaves : MethodName := ⟨RX7, "askLeaves", "()I"⟩
abbrev cX7_judge : ByteArray := prog_9_method_109_code
def yX7_judge : MethodName := ⟨RX7, "judge", "()I"⟩
abbrev cX7_canonHas : ByteArray := prog_9_method_110_code
def yX7_canonHas : MethodName := ⟨RX7, "canonHas", "(IZZ)I"⟩
abbrev cX7_breadHas : ByteArray := prog_9_method_111_code
def yX7_breadHas : MethodName := ⟨RX7, "breadHas", "(ZZ)I"⟩
abbrev cX7_sulks : ByteArray := prog_9_method_112_code
def yX7_sulks : MethodName := ⟨RX7, "sulks", "(IZZZ)I"⟩
abbrev cX7_seekRests : ByteArray := prog_9_method_113_code
def yX7_seekRests : MethodName := ⟨RX7, "seekRests", "(I)I"⟩
abbrev cX7_rests : ByteArray := prog_9_method_114_code
def yX7_rests : MethodName := ⟨RX7, "rests", "(I)I"⟩
abbrev cX7_rest : ByteArray := prog_9_method_115_code
def yX7_rest : MethodName := ⟨RX7, "rest", "(I)I"⟩
abbrev cX7_tryCalms : ByteArray := prog_9_method_116_code
def yX7_tryCalms : MethodName := ⟨RX7, "tryCalms", "(II)V"⟩
abbrev cX7_odds : ByteArray := prog_9_method_117_code
def yX7_odds : MethodName := ⟨RX7, "odds", "(IIZ)J"⟩
abbrev cX7_mean : ByteArray := prog_9_method_118_code
def yX7_mean : MethodName := ⟨RX7, "mean", "(IIZ)J"⟩
abbrev cX7_drawWhy : ByteArray := prog_9_method_119_code
def yX7_drawWhy : MethodName := ⟨RX7, "drawWhy", "(ZII)I"⟩
abbrev cX7_borne : ByteArray := prog_9_method_120_code
def yX7_borne : MethodName := ⟨RX7, "borne", "(III)I"⟩
abbrev cX7_firstWet : ByteArray := prog_9_method_121_code
def yX7_firstWet : MethodName := ⟨RX7, "firstWet", "(II)I"⟩
abbrev cX7_note : ByteArray := prog_9_method_122_code
def yX7_note : MethodName := ⟨RX7, "note", "()V"⟩
abbrev cX7_day : ByteArray := prog_9_method_123_code
def yX7_day : MethodName := ⟨RX7, "day", "()I"⟩
abbrev cX7_give : ByteArray := prog_9_method_124_code
def yX7_give : MethodName := ⟨RX7, "give", "(II)I"⟩
abbrev cX7_mend : ByteArray := prog_9_method_125_code
def yX7_mend : MethodName := ⟨RX7, "mend", "(I)Z"⟩
abbrev cX7_vex : ByteArray := prog_9_method_126_code
def yX7_vex : MethodName := ⟨RX7, "vex", "(II)I"⟩
abbrev cX7_undo : ByteArray := prog_9_method_127_code
def yX7_undo : MethodName := ⟨RX7, "undo", "()Z"⟩
abbrev cX7_image : ByteArray := prog_9_method_128_code
def yX7_image : MethodName := ⟨RX7, "image", "()I"⟩
abbrev cX7_back : ByteArray := prog_9_method_129_code
def yX7_back : MethodName := ⟨RX7, "back", "(I)Z"⟩
abbrev cX7_led : ByteArray := prog_9_method_130_code
def yX7_led : MethodName := ⟨RX7, "led", "(I)I"⟩
abbrev cX7_size : ByteArray := prog_9_method_131_code
def yX7_size : MethodName := ⟨RX7, "size", "(I)I"⟩
abbrev cX7_trouble : ByteArray := prog_9_method_132_code
def yX7_trouble : MethodName := ⟨RX7, "trouble", "()I"⟩
def RJx145de : String := "java/io/Serializable"
def RJx9f9b0 : String := "java/lang/CharSequence"
def RJxb160c : String := "java/lang/Comparable"
def RJ6 : String := "java/lang/Integer"
abbrev cJ6_bitCount_0f7a4 : ByteArray := prog_14_method_49_code
def yJ6_bitCount_0f7a4 : MethodName := ⟨RJ6, "bitCount", "(I)I"⟩
def RJ9 : String := "java/lang/Math"
abbrev cJ9_max_7cf53 : ByteArray := prog_15_method_65_code
def yJ9_max_7cf53 : MethodName := ⟨RJ9, "max", "(II)I"⟩
abbrev cJ9_max_f86c9 : ByteArray := prog_15_method_66_code
def yJ9_max_f86c9 : MethodName := ⟨RJ9, "max", "(JJ)J"⟩
abbrev cJ9_min_7cf53 : ByteArray := prog_15_method_69_code
def yJ9_min_7cf53 : MethodName := ⟨RJ9, "min", "(II)I"⟩
def RJ0 : String := "java/lang/String"
abbrev cJ0_length_8abf5 : ByteArray := prog_17_method_54_code
def yJ0_length_8abf5 : MethodName := ⟨RJ0, "length", "()I"⟩
abbrev cJ0_charAt_5068e : ByteArray := prog_17_method_56_code
def yJ0_charAt_5068e : MethodName := ⟨RJ0, "charAt", "(I)C"⟩
abbrev cJ0_coder_7d493 : ByteArray := prog_17_method_152_code
def yJ0_coder_7d493 : MethodName := ⟨RJ0, "coder", "()B"⟩
abbrev cJ0_isLatin1_aae02 : ByteArray := prog_17_method_154_code
def yJ0_isLatin1_aae02 : MethodName := ⟨RJ0, "isLatin1", "()Z"⟩
abbrev cJ0_checkIndex_df160 : ByteArray := prog_17_method_155_code
def yJ0_checkIndex_df160 : MethodName := ⟨RJ0, "checkIndex", "(II)V"⟩
def RJ1 : String := "java/lang/StringLatin1"
abbrev cJ1_charAt_3b067 : ByteArray := prog_18_method_2_code
def yJ1_charAt_3b067 : MethodName := ⟨RJ1, "charAt", "([BI)C"⟩
def RJ2 : String := "java/lang/StringUTF16"
abbrev cJ2_getChar_3b067 : ByteArray := prog_19_method_5_code
def yJ2_getChar_3b067 : MethodName := ⟨RJ2, "getChar", "([BI)C"⟩
abbrev cJ2_length_9d52b : ByteArray := prog_19_method_6_code
def yJ2_length_9d52b : MethodName := ⟨RJ2, "length", "([B)I"⟩
abbrev cJ2_charAt_3b067 : ByteArray := prog_19_method_83_code
def yJ2_charAt_3b067 : MethodName := ⟨RJ2, "charAt", "([BI)C"⟩
abbrev cJ2_checkIndex_2214a : ByteArray := prog_19_method_91_code
def yJ2_checkIndex_2214a : MethodName := ⟨RJ2, "checkIndex", "(I[B)V"⟩
def RJ10 : String := "java/lang/System"
def RJxfd54e : String := "java/lang/constant/Constable"
def RJx3cf43 : String := "java/lang/constant/ConstantDesc"
def RJ3 : String := "jdk/internal/util/Preconditions"
abbrev cJ3_checkIndex_8e157 : ByteArray := prog_25_method_11_code
def yJ3_checkIndex_8e157 : MethodName := ⟨RJ3, "checkIndex", "(IILjava/util/function/BiFunction;)I"⟩
def RL : String := "GargoyleCloseLaw"
abbrev cL_led : ByteArray := method_3_code
def yL_led : MethodName := ⟨RL, "led", "(LGargoyleClose;I[J)I"⟩
abbrev cL_law : ByteArray := code
def yL_law : MethodName := ⟨RL, "law", "([I)Z"⟩
abbrev vwCl : List vw_C := [(RX0, TX0, 8), (RX1, TX1, 9), (RX2, TX2, 6), (RX3, TX3, 20), (RX4, TX4, 15), (RX5, TX5, 2), (RX6, TX6, 14), (RX7, TX7, 44)]
end
section
/-! THE SHADOW: the pool's objects have names 1, 2, .. (0 is null, 4999 the script, 5000 + i the i-th String constant); a memory says what each name is (kind, length) and holds. Methods are walked over the memory; the rows below tie each step to the machine once and for all. -/
abbrev Ls : Type := List (Nat × Value)
/-- how many names; cells and slots used; (kind, length) of a name; ints, longs, references of a name by place -/
abbrev Mm : Type := (Nat × Nat × Nat × (Nat → Nat × Nat)) × (Nat → Nat → Int32) × (Nat → Nat → Int64) × (Nat → Nat → Nat)
def mN (M : Mm) : Nat := M.1.1
def mC (M : Mm) : Nat := M.1.2.1
def mS (M : Mm) : Nat := M.1.2.2.1
def mK (M : Mm) (a : Nat) : Nat × Nat := M.1.2.2.2 a
def mI (M : Mm) (a i : Nat) : Int32 := M.2.1 a i
def mL (M : Mm) (a i : Nat) : Int64 := M.2.2.1 a i
def mR (M : Mm) (a i : Nat) : Nat := M.2.2.2 a i
def wI (M : Mm) (a i : Nat) (v : Int32) : Mm := (M.1, fun b j => if b = a ∧ j = i then v else M.2.1 b j, M.2.2)
def wL (M : Mm) (a i : Nat) (v : Int64) : Mm := (M.1, M.2.1, fun b j => if b = a ∧ j = i then v else M.2.2.1 b j, M.2.2.2)
def wR (M : Mm) (a i : Nat) (v : Nat) : Mm := (M.1, M.2.1, M.2.2.1, fun b j => if b = a ∧ j = i then v else M.2.2.2 b j)
def wF (M : Mm) (a : Nat) (f : Nat → Int32) : Mm := (M.1, fun b j => if b = a then f j else M.2.1 b j, M.2.2)
/-- a new name, of a kind and length, n slots more -/
def wA (M : Mm) (k : Nat × Nat) (n : Nat) : Mm := ((mN M + 1, mC M + 1, mS M + n, fun b => if b = mN M + 1 then k else mK M b), (fun b j => if b = mN M + 1 then 0 else M.2.1 b j), (fun b j => if b = mN M + 1 then 0 else M.2.2.1 b j), (fun b j => if b = mN M + 1 then 0 else M.2.2.2 b j))
/-- a value as the machine has it -/
def iv (ad : Nat → Nat) (v : Value) : Value := match v with
  | .ref 0 => .null
  | .ref (k + 1) => .ref (ad (k + 1))
  | w => w
theorem iv_ref {ad : Nat → Nat} {a : Nat} (h : 0 < a) : iv ad (.ref a) = .ref (ad a) := by
  cases a with
  | zero => exact absurd h (Nat.lt_irrefl 0)
  | succ k => rfl
theorem iv_cat (ad : Nat → Nat) (v : Value) : (iv ad v).category = v.category := by
  cases v with
  | ref a => cases a <;> rfl
  | _ => rfl
/-- the kinds of a class's fields: 0 int, 1 long, 2 a reference -/
def tf (c : Nat) : List Nat := match c with
  | 0 => [0, 0, 0, 0, 0, 0, 0, 0]
  | 1 => [2, 2, 2, 2, 0, 0, 0, 0, 0]
  | 2 => [2, 2, 2, 2, 0, 0]
  | 3 => [0, 0, 0, 0, 0, 2, 2, 2, 2, 2, 0, 2, 2, 2, 0, 2, 2, 0, 2, 2]
  | 4 => [2, 0, 0, 2, 0, 0, 0, 0, 1, 2, 2, 2, 0, 0, 0]
  | 5 => [2, 0]
  | 6 => [2, 2, 2, 2, 2, 0, 0, 2, 0, 2, 2, 2, 2, 0]
  | 7 => [0, 2, 0, 0, 0, 0, 0, 0, 0, 0, 0, 0, 2, 0, 0, 2, 2, 2, 2, 2, 2, 2, 0, 0, 2, 2, 0, 2, 2, 0, 0, 0, 0, 2, 2, 2, 0, 0, 0, 0, 1, 1, 1, 0]
  | _ => []
def sv (M : Mm) (a k t : Nat) : Value := match t with
  | 0 => .int (mI M a k)
  | 1 => .long (mL M a k)
  | _ => .ref (mR M a k)
def eo (ad : Nat → Nat) (M : Mm) (a : Nat) (ts : List Nat) : List Value := (List.range ts.length).map (fun k => iv ad (sv M a k (ts.getD k 0)))
def er (ad : Nat → Nat) (M : Mm) (a : Nat) : Nat → Option Nat := fun i => match mR M a i with
  | 0 => none
  | n + 1 => some (ad (n + 1))
theorem er_rf (ad : Nat → Nat) (M : Mm) (a i : Nat) : va_rf (er ad M a i) = iv ad (.ref (mR M a i)) := by
  unfold er
  cases mR M a i <;> rfl
/-- the cell of a name -/
def en (g : Nat → ClassId) (ad : Nat → Nat) (M : Mm) (a : Nat) : va_E :=
  if (mK M a).1 < 8 then .inr ((mK M a).1, eo ad M a (tf (mK M a).1))
  else if (mK M a).1 = 10 then .inl (g 10, (mK M a).2, .inr (.inl (mL M a)))
  else if (mK M a).1 < 10 then .inl (g (mK M a).1, (mK M a).2, .inl (mI M a))
  else .inl (g (mK M a).1, (mK M a).2, .inr (.inr (.inr (.inr (er ad M a)))))
def wl (g : Nat → ClassId) (ad : Nat → Nat) (M : Mm) : va_W := (List.range (mN M)).map (fun i => (ad (i + 1), en g ad M (i + 1)))
theorem wl_at {g : Nat → ClassId} {ad : Nat → Nat} {M : Mm} {a : Nat} (h0 : 0 < a) (h1 : a ≤ mN M) : (wl g ad M)[a - 1]? = some (ad a, en g ad M a) := by
  unfold wl
  rw [List.getElem?_map, List.getElem?_range (by omega)]
  simp [show a - 1 + 1 = a by omega]
theorem wl_set {g : Nat → ClassId} {ad : Nat → Nat} {M M' : Mm} {a : Nat} (h0 : 0 < a) (h1 : a ≤ mN M) (hn : mN M' = mN M) (ho : ∀ b, b ≠ a → en g ad M' b = en g ad M b) : (wl g ad M).set (a - 1) (ad a, en g ad M' a) = wl g ad M' := by
  apply List.ext_getElem?
  intro i
  unfold wl
  rw [List.getElem?_set, hn]
  by_cases hi : a - 1 = i
  · subst hi
    rw [if_pos rfl, if_pos (by simp; omega), List.getElem?_map, List.getElem?_range (by omega)]
    simp [show a - 1 + 1 = a by omega]
  · rw [if_neg hi, List.getElem?_map, List.getElem?_map]
    by_cases hl : i < mN M
    · rw [List.getElem?_range hl]
      simp [ho (i + 1) (by omega)]
    · rw [List.getElem?_eq_none (by simp; omega)]
      rfl
theorem eo_at {ad : Nat → Nat} {M : Mm} {a : Nat} {ts : List Nat} {k : Nat} (h : k < ts.length) : (eo ad M a ts)[k]? = some (iv ad (sv M a k (ts.getD k 0))) := by
  unfold eo
  rw [List.getElem?_map, List.getElem?_range h]
  rfl
theorem eo_set {ad : Nat → Nat} {M M' : Mm} {a : Nat} {ts : List Nat} {k : Nat} (h : k < ts.length) (ho : ∀ j, j ≠ k → sv M' a j (ts.getD j 0) = sv M a j (ts.getD j 0)) : (eo ad M a ts).set k (iv ad (sv M' a k (ts.getD k 0))) = eo ad M' a ts := by
  apply List.ext_getElem?
  intro i
  unfold eo
  rw [List.getElem?_set]
  by_cases hi : k = i
  · subst hi
    rw [if_pos rfl, if_pos (by simp; omega), List.getElem?_map, List.getElem?_range h]
    rfl
  · rw [if_neg hi, List.getElem?_map, List.getElem?_map]
    by_cases hl : i < ts.length
    · rw [List.getElem?_range hl]
      simp only [Option.map_some]
      rw [ho i (fun e => hi e.symm)]
    · rw [List.getElem?_eq_none (by simp; omega)]
      rfl
/-- the array kinds' types -/
def tz (g : Nat → ClassId) : List (ClassId × FieldType) := [(g 8, .byte), (g 9, .int), (g 10, .long), (g 11, .object RX2), (g 12, .array .int)]
/-- a method: its name, code, locals, answer -/
abbrev Md : Type := MethodName × ByteArray × Nat × Option FieldType
/-- the tables' words that stay -/
def wB : List Cond := lw_tbl.filter goodWord
def wz (q : Md) : List Cond := .code q.1 q.2.1 q.2.2.1 q.2.2.2 :: wB
theorem wB_of {w : Cond} (i : Nat) (h : lw_tbl[i]? = some w) (hg : goodWord w = true) : w ∈ wB := List.mem_filter.mpr ⟨List.mem_of_getElem? h, hg⟩
theorem wz_good {q q' : Md} (h : Cond.code q'.1 q'.2.1 q'.2.2.1 q'.2.2.2 ∈ wB) : GoodIn (wz q) (wz q') := by
  have hb : ∀ w ∈ wB, w ∈ wz q ∧ ((w.onTables && w.keeps) = true ∨ ∃ ty, w = .arrayClass ty) := fun w hw => ⟨List.mem_cons_of_mem _ hw, good_of_word (List.mem_filter.mp hw).2⟩
  intro w hw
  rcases List.mem_cons.mp hw with e | hw
  · rw [e]; exact hb _ h
  · exact hb w hw
/-- the room of a method at depth d -/
def rz (d mc ms : Nat) : Room := { frames := d, cells := mc, slots := ms, locals := 64 * d }
/-- links to a nest mate's private members -/
def wN : List (String × Nat × MethodName) := [(RX6, 9, yX4_init), (RX6, 18, yX3_init), (RX6, 28, yX2_init), (RX6, 52, yX0_init), (RX6, 59, yX5_init), (RX6, 66, yX1_init), (RX4, 256, yX6_within)]
/-- the String constants: texts (those of the reader, those of the reference), places in the pools -/
def tS (i : Nat) : String := ["close", "wall", "face", "canon", "walker", "unsure", "dropped", "wide", "deep", "calm", "holds", "wears", "at", "bat", "lion", "pig", "vexed", "every", "from", "to", "day"].getD (i % 21) ""
def tB (i : Nat) : List Int32 := (tS i).toList.map (fun c => Int32.ofNat c.toNat)
def tQ : List (String × Nat × String × Nat) := [(RX4, 104, "close", 0), (RX4, 110, "wall", 1), (RX4, 112, "face", 2), (RX4, 114, "canon", 3), (RX4, 116, "walker", 4), (RX4, 118, "unsure", 5), (RX4, 120, "dropped", 6), (RX4, 149, "wide", 7), (RX4, 154, "deep", 8), (RX4, 156, "calm", 9), (RX4, 190, "holds", 10), (RX4, 194, "wears", 11), (RX4, 198, "at", 12), (RX4, 206, "bat", 13), (RX4, 208, "lion", 14), (RX4, 210, "pig", 15), (RX4, 224, "vexed", 16), (RX4, 228, "every", 17), (RX4, 232, "from", 18), (RX4, 236, "to", 19), (RX4, 254, "day", 20), (RX7, 131, "close", 21), (RX7, 133, "wall", 22), (RX7, 135, "face", 23), (RX7, 137, "canon", 24), (RX7, 139, "walker", 25), (RX7, 141, "unsure", 26), (RX7, 143, "dropped", 27), (RX7, 216, "wide", 28), (RX7, 222, "deep", 29), (RX7, 224, "calm", 30), (RX7, 243, "holds", 31), (RX7, 245, "wears", 32), (RX7, 247, "at", 33), (RX7, 237, "bat", 34), (RX7, 239, "lion", 35), (RX7, 241, "pig", 36), (RX7, 251, "vexed", 37), (RX7, 252, "every", 38), (RX7, 254, "from", 39), (RX7, 259, "to", 40), (RX7, 261, "day", 41)]
/-- what never changes: the classes, the nest mates' links, the String constants, the script -/
def ks (ad : Nat → Nat) (A : Nat → Prop) (U : State) (H : Heap) : Prop := ∀ i : Nat, i < 42 → va_O "java/lang/String" (ad (5000 + i)) A U H ∧ va_OF "java/lang/String" "coder" "B" (.int 0) (ad (5000 + i)) A U H ∧ va_OF "java/lang/String" "value" "[B" (.ref (ad (5100 + i))) (ad (5000 + i)) A U H ∧ va_T .byte (ad (5100 + i)) (tB i).length (fun j => .int ((tB i).getD j 0)) A U H
def kx (ad : Nat → Nat) (X : Nat × (Nat → Int32)) (A : Nat → Prop) (U : State) (H : Heap) : Prop := va_X (ad 4999) X.1 X.2 U H ∧ ad 4999 < H.size ∧ ¬ A (ad 4999)
def sx (D : va_G) (g : Nat → ClassId) (ad : Nat → Nat) (X : Nat × (Nat → Int32)) (A : Nat → Prop) (U : State) (H : Heap) : Prop :=
  va_K D vwCl (tz g) U ∧ (∀ x ∈ wN, va_Nw (.methodLinkNest x.1 x.2.1 x.2.2 RX6) U) ∧ va_AO RX2 U ∧ ks ad A U H ∧ (∀ x ∈ tQ, vk_R x.1 x.2.1 x.2.2.1 (ad (5000 + x.2.2.2)) U) ∧ va_Z "java/lang/String" "COMPACT_STRINGS" "Z" (.int 1) A U H ∧ kx ad X A U H
theorem kx_moved {ad : Nat → Nat} {X : Nat × (Nat → Int32)} {A : Nat → Prop} {u U : State} {H : Heap} (hvm : u.vm.Alike U.vm) (h : kx ad X A u H) : kx ad X A U H := by
  obtain ⟨⟨scr, h1, h2, h3⟩, h4⟩ := h
  exact ⟨⟨scr, h1, State.isArrayOf_alike hvm h2, h3⟩, h4⟩
theorem ks_moved {ad : Nat → Nat} {A : Nat → Prop} {u U : State} {H : Heap} (hvm : u.vm.Alike U.vm) (h : ks ad A u H) : ks ad A U H :=
  fun i hi => ⟨va_O.moved hvm (h i hi).1, va_OF.moved hvm (h i hi).2.1, va_OF.moved hvm (h i hi).2.2.1, va_T.moved hvm (h i hi).2.2.2⟩
theorem ks_kept {ad : Nat → Nat} {A : Nat → Prop} {U : State} {H H1 : Heap} (h : ks ad A U H) (hq : ∀ a : Nat, a < H.size → ¬ A a → H1[a]? = H[a]?) : ks ad A U H1 :=
  fun i hi => ⟨(h i hi).1.kept hq, (h i hi).2.1.kept hq, (h i hi).2.2.1.kept hq, (h i hi).2.2.2.kept hq⟩
theorem sx_kept {D : va_G} {g : Nat → ClassId} {ad : Nat → Nat} {X : Nat × (Nat → Int32)} {A : Nat → Prop} {U : State} {H H1 : Heap} (h : sx D g ad X A U H) (hz : H.size ≤ H1.size) (hq : ∀ a : Nat, a < H.size → ¬ A a → H1[a]? = H[a]?) : sx D g ad X A U H1 := by
  obtain ⟨h1, h2, h3, h4, h5, h6, h7, h8, h9⟩ := h
  exact ⟨h1, h2, h3, ks_kept h4 hq, h5, h6.kept hq, h7.kept (hq _ h8 h9), Nat.lt_of_lt_of_le h8 hz, h9⟩
theorem sx_warm {D : va_G} {g : Nat → ClassId} {ad : Nat → Nat} {X : Nat × (Nat → Int32)} {A : Nat → Prop} {u U : State} {H : Heap} (hW : u.WarmedH U.vm) (h : sx D g ad X A u H) : sx D g ad X A U H := by
  obtain ⟨h1, h2, h3, h4, h5, h6, h7⟩ := h
  exact ⟨va_K.moved hW.alike h1, fun x hx => (h2 x hx).warmM hW, h3.moved hW.alike, ks_moved hW.alike h4, fun x hx => (h5 x hx).warm hW, h6.moved hW.alike, kx_moved hW.alike h7⟩
theorem sx_same {D : va_G} {g : Nat → ClassId} {ad : Nat → Nat} {X : Nat × (Nat → Int32)} {A : Nat → Prop} {u U : State} {H : Heap} (hv : u.vm = U.vm) (h : sx D g ad X A u H) : sx D g ad X A U H := by
  obtain ⟨h1, h2, h3, h4, h5, h6, h7⟩ := h
  have ha : u.vm.Alike U.vm := by rw [hv]; exact Vm.Alike.refl _
  exact ⟨va_K.moved ha h1, fun x hx => va_Nw.same rfl hv (h2 x hx), h3.moved ha, ks_moved ha h4, fun x hx => (h5 x hx).same hv.symm, h6.moved ha, kx_moved ha h7⟩
theorem sx_ad {D : va_G} {g : Nat → ClassId} {ad ad' : Nat → Nat} {X : Nat × (Nat → Int32)} {A : Nat → Prop} {U : State} {H : Heap} (he : ∀ n, 4999 ≤ n → ad' n = ad n) (h : sx D g ad X A U H) : sx D g ad' X A U H := by
  obtain ⟨h1, h2, h3, h4, h5, h6, h7⟩ := h
  refine ⟨h1, h2, h3, fun i hi => ?_, fun x hx => ?_, h6, ?_⟩
  · rw [he (5000 + i) (by omega), he (5100 + i) (by omega)]; exact h4 i hi
  · rw [he _ (by omega)]; exact h5 x hx
  · unfold kx; rw [he _ (by omega)]; exact h7
end
section
abbrev KN : Type := Nat → Ls → List Value → Mm → Prop
abbrev KR : Type := Option Value → Mm → Prop
abbrev OP : Type := KN → KR → Ls → List Value → Mm → Prop
/-- references are names -/
def kO (M : Mm) : Prop := ∀ a i, mR M a i ≤ mN M
def lm (ad : Nat → Nat) (ls : Ls) : Ls := ls.map (fun x => (x.1, iv ad x.2))
def pz (D : va_G) (g : Nat → ClassId) (ad : Nat → Nat) (X : Nat × (Nat → Int32)) (A : Nat → Prop) (av : List Value) (M : Mm) : Array Value → State → Prop := fun v U => v = (av.map (iv ad)).toArray ∧ va_P D vwCl (wl g ad M) U.heap ∧ va_D A (wl g ad M) ∧ (∀ a, U.heap.size ≤ a → A a) ∧ kO M ∧ mN M ≤ 4000 ∧ sx D g ad X A U U.heap
def qz (D : va_G) (g : Nat → ClassId) (ad : Nat → Nat) (A : Nat → Prop) (na : Bool) (M : Mm) (kr : KR) : Array Value → State → Outcome → State → Prop := fun _ st o t => ∃ (r : Option Value) (M' : Mm) (ad' : Nat → Nat), o = .returned (r.map (iv ad')) ∧ kr r M' ∧ (na = true → ad' = ad ∧ M'.1 = M.1) ∧ (∀ n, n ≤ mN M ∨ 4999 ≤ n → ad' n = ad n) ∧ mN M ≤ mN M' ∧ mN M' ≤ 4000 ∧ kO M' ∧ va_P D vwCl (wl g ad' M') t.heap ∧ va_D A (wl g ad' M') ∧ va_F A st t
/-- A METHOD'S CONTRACT: called with av over the memory M it returns, and its answer and the memory then fulfil kr -/
def Ev (l : Launch) (X : Nat × (Nat → Int32)) (q : Md) (d : Nat) (na : Bool) (mc ms : Nat) (av : List Value) (M : Mm) (kr : KR) : Prop :=
  ∀ (D : va_G) (g : Nat → ClassId) (ad : Nat → Nat) (A : Nat → Prop), Met l q.1 (wz q) (rz d mc ms) (pz D g ad X A av M) (qz D g ad A na M kr) mc ms A
/-- what a frame knows -/
def fx (X : Nat × (Nat → Int32)) (q : Md) (p : Program) (s : State) (m : MethodId) (args : Array Value) (meth : Method) (c : Code) (D : va_G) (g : Nat → ClassId) (ad : Nat → Nat) (A : Nat → Prop) : Prop :=
  p.tables.exec = Jvm.exec ∧ c.code = q.2.1 ∧ c.maxLocals = q.2.2.1 ∧ meth.sig.returnType = q.2.2.2 ∧ meth.locks = false ∧ s.vm.findClass q.1.cls = some m.cls ∧ meth.name = q.1.name ∧ (∀ w ∈ wB, w.before args s = true) ∧ (∀ a, s.heap.size ≤ a → A a) ∧ sx D g ad X A s s.heap
/-- the heap is as the memory says -/
def rl (D : va_G) (g : Nat → ClassId) (A : Nat → Prop) (na : Bool) (n0 : Nat) (ad0 : Nat → Nat) (S0 : Nat × Nat × Nat × (Nat → Nat × Nat)) (s : State) (ad : Nat → Nat) (M : Mm) (H : Heap) (locs : List Loc) : Prop :=
  va_P D vwCl (wl g ad M) H ∧ va_D A (wl g ad M) ∧ va_S A s.heap H locs ∧ kO M ∧ n0 ≤ mN M ∧ mN M ≤ 4000 ∧ (∀ n, n ≤ n0 ∨ 4999 ≤ n → ad n = ad0 n) ∧ (na = true → ad = ad0 ∧ M.1 = S0)
/-- the method's end -/
def rt (q : Md) (pc : Nat) (r : Option Value) : Prop := (∃ v ty, r = some (.int v) ∧ q.2.2.2 = some ty ∧ narrow ty (.int v) = .int v ∧ decode q.2.1 pc = .ok (.ireturn, 1)) ∨ (∃ v, r = some (.long v) ∧ q.2.2.2 = some .long ∧ decode q.2.1 pc = .ok (.lreturn, 1)) ∨ (r = none ∧ q.2.2.2 = none ∧ decode q.2.1 pc = .ok (.return_, 1))
/-- A FRAME at pc with locals ls and stack st over M comes to its end, and kr -/
def Wf (l : Launch) (X : Nat × (Nat → Int32)) (q : Md) (d : Nat) (na : Bool) (b : Nat × Nat) (pc : Nat) (ls : Ls) (st : List Value) (M : Mm) (kr : KR) : Prop :=
  ∀ (p : Program) (e : Env) (R : Room) (s : State) (m : MethodId) (args : Array Value) (below : List Frame) (meth : Method) (c : Code) (Q : State → Prop) (D : va_G) (g : Nat → ClassId) (ad0 : Nat → Nat) (A : Nat → Prop) (n0 : Nat) (S0 : Nat × Nat × Nat × (Nat → Nat × Nat)) (c0 s0 : Nat) (ad : Nat → Nat) (H : Heap) (locs : List Loc) (la : Array Slot),
    fx X q p s m args meth c D g ad0 A → d ≤ R.frames → 64 * d ≤ R.locals → b.1 ≤ R.cells + c0 → b.2 ≤ R.slots + s0 → c0 ≤ mC M → s0 ≤ mS M → mC M ≤ b.1 → mS M ≤ b.2 → rl D g A na n0 ad0 S0 s ad M H locs → lv_has la q.2.2.1 (lm ad ls) →
    (∀ (pc' : Nat) (r : Option Value) (M' : Mm) (ad' : Nat → Nat) (H' : Heap) (locs' : List Loc) (la' : Array Slot), kr r M' → rl D g A na n0 ad0 S0 s ad' M' H' locs' → c0 ≤ mC M' → s0 ≤ mS M' → mC M' ≤ b.1 → mS M' ≤ b.2 → rt q pc' r → W p l e R s m args below meth c H' locs' (mC M' - c0) (mS M' - s0) Q (F0 m pc' la' (r.toList.map (iv ad')))) →
    W p l e R s m args below meth c H locs (mC M - c0) (mS M - s0) Q (F0 m pc la (st.map (iv ad)))
/-! locals -/
def lg : Ls → Nat → Option Value
  | [], _ => none
  | x :: t, i => cond (Nat.beq x.1 i) (some x.2) (lg t i)
theorem lg_mem : ∀ {ls : Ls} {i : Nat} {v : Value}, lg ls i = some v → (i, v) ∈ ls
  | [], _, _, h => by cases h
  | x :: t, i, v, h => by
    unfold lg at h
    cases hb : Nat.beq x.1 i with
    | true =>
      rw [hb] at h
      have e : x.1 = i := Nat.eq_of_beq_eq_true hb
      have e2 : x.2 = v := Option.some.inj h
      rw [← e, ← e2]
      exact List.mem_cons_self
    | false =>
      rw [hb] at h
      exact List.mem_cons_of_mem _ (lg_mem h)
theorem lg_has {ls : Ls} {i : Nat} {v : Value} {ad : Nat → Nat} {la : Array Slot} {nL : Nat} (h : lg ls i = some v) (hl : lv_has la nL (lm ad ls)) : la[i]? = some (.val (iv ad v)) :=
  hl.2.2 (i, iv ad v) (List.mem_map.mpr ⟨(i, v), lg_mem h, rfl⟩)
def li : Ls → Nat → Value → Ls
  | [], i, v => [(i, v)]
  | x :: t, i, v => cond (Nat.ble x.1 i) (x :: li t i v) ((i, v) :: x :: t)
theorem li_mem : ∀ {ls : Ls} {i : Nat} {v : Value} {x : Nat × Value}, x ∈ li ls i v → x = (i, v) ∨ x ∈ ls
  | [], i, v, x, h => Or.inl (List.mem_singleton.mp h)
  | y :: t, i, v, x, h => by
    unfold li at h
    cases hb : Nat.ble y.1 i with
    | true =>
      rw [hb] at h
      rcases List.mem_cons.mp h with e | h
      · exact Or.inr (by rw [e]; exact List.mem_cons_self)
      · rcases li_mem h with e | h
        · exact Or.inl e
        · exact Or.inr (List.mem_cons_of_mem _ h)
    | false =>
      rw [hb] at h
      rcases List.mem_cons.mp h with e | h
      · exact Or.inl e
      · exact Or.inr h
def lf (i : Nat) (two : Bool) (q : Nat × Value) : Bool := !(Nat.beq q.1 i) && (!(Nat.beq (q.1 + 1) i && Nat.beq q.2.category 2) && !(two && Nat.beq q.1 (i + 1)))
/-- a local's new value; the list stays in order -/
def lp (ls : Ls) (i : Nat) (v : Value) : Ls := li (ls.filter (lf i (Nat.beq v.category 2))) i v
theorem beqN (a b : Nat) : (a == b) = Nat.beq a b := by
  cases h : Nat.beq a b with
  | true => exact beq_iff_eq.mpr (Nat.eq_of_beq_eq_true h)
  | false => exact beq_eq_false_iff_ne.mpr (Nat.ne_of_beq_eq_false h)
theorem lp_1 {ls : Ls} {i nL : Nat} {v : Value} {ad : Nat → Nat} {la : Array Slot} (hc : v.category = 1) (h : lv_has la nL ((i, iv ad v) :: (lm ad ls).filter (fun q => !(q.1 == i) && !(q.1 + 1 == i && q.2.category == 2)))) : lv_has la nL (lm ad (lp ls i v)) := by
  refine ⟨h.1, h.2.1, fun q hq => ?_⟩
  obtain ⟨x, hx, rfl⟩ := List.mem_map.mp hq
  rcases li_mem hx with e | hx
  · rw [e]; exact h.2.2 _ List.mem_cons_self
  · obtain ⟨h1, h2⟩ := List.mem_filter.mp hx
    refine h.2.2 _ (List.mem_cons_of_mem _ (List.mem_filter.mpr ⟨List.mem_map.mpr ⟨x, h1, rfl⟩, ?_⟩))
    simp only [lf, Bool.and_eq_true] at h2
    simp only [beqN, iv_cat, Bool.and_eq_true]
    exact ⟨h2.1, h2.2.1⟩
theorem lp_2 {ls : Ls} {i nL : Nat} {v : Value} {ad : Nat → Nat} {la : Array Slot} (hc : v.category = 2) (h : lv_has la nL ((i, iv ad v) :: (lm ad ls).filter (fun q => !(q.1 == i) && (!(q.1 == i + 1) && !(q.1 + 1 == i && q.2.category == 2))))) : lv_has la nL (lm ad (lp ls i v)) := by
  refine ⟨h.1, h.2.1, fun q hq => ?_⟩
  obtain ⟨x, hx, rfl⟩ := List.mem_map.mp hq
  rcases li_mem hx with e | hx
  · rw [e]; exact h.2.2 _ List.mem_cons_self
  · obtain ⟨h1, h2⟩ := List.mem_filter.mp hx
    refine h.2.2 _ (List.mem_cons_of_mem _ (List.mem_filter.mpr ⟨List.mem_map.mpr ⟨x, h1, rfl⟩, ?_⟩))
    rw [hc] at h2
    simp only [lf, Bool.and_eq_true] at h2
    simp only [beqN, iv_cat, Bool.and_eq_true]
    refine ⟨h2.1, ?_, h2.2.1⟩
    simpa using h2.2.2
/-- fewer locals, by their places -/
def lk (ls : Ls) (ks : List Nat) : Ls := ls.filter (fun x => ks.any (fun k => Nat.beq k x.1))
theorem lm_sub {ls ls' : Ls} {nL : Nat} {ad : Nat → Nat} {la : Array Slot} (hs : ∀ x ∈ ls', x ∈ ls) (h : lv_has la nL (lm ad ls)) : lv_has la nL (lm ad ls') := by
  refine ⟨h.1, h.2.1, fun q hq => ?_⟩
  obtain ⟨x, hx, rfl⟩ := List.mem_map.mp hq
  exact h.2.2 _ (List.mem_map.mpr ⟨x, hs x hx, rfl⟩)
section FR
variable {l : Launch} {X : Nat × (Nat → Int32)} {q : Md} {d : Nat} {na : Bool} {b : Nat × Nat} {pc : Nat} {ls : Ls} {st : List Value} {M : Mm} {kr : KR}
theorem Wf.sub {ls' : Ls} (hs : ∀ x ∈ ls', x ∈ ls) (h : Wf l X q d na b pc ls' st M kr) : Wf l X q d na b pc ls st M kr := by
  intro p e R s m args below meth c Q D g ad0 A n0 S0 c0 s0 ad H locs la hf h1 h2 h3 h4 h5 h6 h7 h8 hr hl hk
  exact h p e R s m args below meth c Q D g ad0 A n0 S0 c0 s0 ad H locs la hf h1 h2 h3 h4 h5 h6 h7 h8 hr (lm_sub hs hl) hk
theorem Wf.keep (ks : List Nat) (h : Wf l X q d na b pc (lk ls ks) st M kr) : Wf l X q d na b pc ls st M kr := Wf.sub (fun _ hx => (List.mem_filter.mp hx).1) h
/-- a step that leaves the heap alone -/
theorem Wf.pure {pc' : Nat} {ls' : Ls} {st' : List Value} (h : ∀ (p : Program) (e : Env) (R : Room) (s : State) (m : MethodId) (args : Array Value) (below : List Frame) (meth : Method) (c : Code) (H : Heap) (locs : List Loc) (cells slots : Nat) (Q : State → Prop) (ad : Nat → Nat) (la : Array Slot), p.tables.exec = Jvm.exec → c.code = q.2.1 → s.vm.findClass q.1.cls = some m.cls → (∀ w ∈ wB, w.before args s = true) → lv_has la q.2.2.1 (lm ad ls) → (∀ la' : Array Slot, lv_has la' q.2.2.1 (lm ad ls') → W p l e R s m args below meth c H locs cells slots Q (F0 m pc' la' (st'.map (iv ad)))) → W p l e R s m args below meth c H locs cells slots Q (F0 m pc la (st.map (iv ad)))) (k : Wf l X q d na b pc' ls' st' M kr) : Wf l X q d na b pc ls st M kr := by
  intro p e R s m args below meth c Q D g ad0 A n0 S0 c0 s0 ad H locs la hf h1 h2 h3 h4 h5 h6 h7 h8 hr hl hk
  exact h p e R s m args below meth c H locs _ _ Q ad la hf.1 hf.2.1 hf.2.2.2.2.2.1 hf.2.2.2.2.2.2.2.1 hl (fun la' hl' => k p e R s m args below meth c Q D g ad0 A n0 S0 c0 s0 ad H locs la' hf h1 h2 h3 h4 h5 h6 h7 h8 hr hl' hk)
end FR
/-- an operation is right for what stands at pc -/
def OK (l : Launch) (X : Nat × (Nat → Int32)) (q : Md) (d : Nat) (na : Bool) (b : Nat × Nat) (pc : Nat) (o : OP) : Prop := ∀ (kn : KN) (kr : KR) (ls : Ls) (st : List Value) (M : Mm), (∀ pc' ls' st' M', kn pc' ls' st' M' → Wf l X q d na b pc' ls' st' M' kr) → o kn kr ls st M → Wf l X q d na b pc ls st M kr
def lo (tb : List (Nat × OP)) (pc : Nat) : OP := match tb with
  | [] => fun _ _ _ _ _ => False
  | x :: t => cond (Nat.beq x.1 pc) x.2 (lo t pc)
theorem lo_ok {l : Launch} {X : Nat × (Nat → Int32)} {q : Md} {d : Nat} {na : Bool} {b : Nat × Nat} : ∀ {tb : List (Nat × OP)}, (∀ x ∈ tb, OK l X q d na b x.1 x.2) → ∀ pc, OK l X q d na b pc (lo tb pc)
  | [], _, pc => fun _ _ _ _ _ _ h => h.elim
  | x :: t, h, pc => by
    unfold lo
    cases hb : Nat.beq x.1 pc with
    | true =>
      have e : x.1 = pc := Nat.eq_of_beq_eq_true hb
      rw [← e]
      exact h x List.mem_cons_self
    | false => exact lo_ok (fun y hy => h y (List.mem_cons_of_mem _ hy)) pc
/-- n steps, then the frame -/
def go (l : Launch) (X : Nat × (Nat → Int32)) (q : Md) (d : Nat) (na : Bool) (b : Nat × Nat) (tb : List (Nat × OP)) (kr : KR) : Nat → KN
  | 0 => fun pc ls st M => Wf l X q d na b pc ls st M kr
  | n + 1 => fun pc ls st M => lo tb pc (go l X q d na b tb kr n) kr ls st M
theorem Wf.go {l : Launch} {X : Nat × (Nat → Int32)} {q : Md} {d : Nat} {na : Bool} {b : Nat × Nat} {tb : List (Nat × OP)} {kr : KR} (ht : ∀ x ∈ tb, OK l X q d na b x.1 x.2) : ∀ (n : Nat) {pc : Nat} {ls : Ls} {st : List Value} {M : Mm}, go l X q d na b tb kr n pc ls st M → Wf l X q d na b pc ls st M kr
  | 0, _, _, _, _, h => h
  | n + 1, pc, ls, st, M, h => lo_ok ht pc _ kr ls st M (fun _ _ _ _ h' => Wf.go ht n h') h
theorem lv_args_iv (ad : Nat → Nat) : ∀ (av : List Value) (i : Nat), lv_args i (av.map (iv ad)) = lm ad (lv_args i av)
  | [], _ => rfl
  | v :: t, i => by
    show (i, iv ad v) :: lv_args _ (t.map (iv ad)) = _
    rw [lv_args_iv ad t, iv_cat]
    rfl
theorem sl_len (ad : Nat → Nat) : ∀ av : List Value, (lg_sl (av.map (iv ad))).length = (lg_sl av).length
  | [] => rfl
  | v :: t => by
    have h := sl_len ad t
    simp only [lg_sl, List.map_cons, List.flatMap_cons, List.length_append] at h ⊢
    rw [h]
    cases v with
    | ref a => cases a <;> rfl
    | _ => rfl
end
section
section OPS
variable {l : Launch} {X : Nat × (Nat → Int32)} {q : Md} {d : Nat} {na : Bool} {b : Nat × Nat} {pc : Nat}
theorem Ev.of {mc ms : Nat} {av : List Value} {M : Mm} {kr : KR} (hp : plainName q.1.cls = true) (hlen : (lg_sl av).length ≤ q.2.2.1) (h : Wf l X q d na (mC M + mc, mS M + ms) 0 (lv_args 0 av) [] M kr) : Ev l X q d na mc ms av M kr := by
  intro D g ad A
  refine Met.ofW (cc := q.2.1) (maxL := q.2.2.1) (ret := q.2.2.2) hp rfl ?_
  intro p e s m args below meth c s₁ B hml hv
  obtain ⟨rfl, hP, hD, hA, hk, hn, hs⟩ := hv
  have hlocks := B.notSynchronized
  have hts := atoms_spec (ws := wz q) B.pre
  have hf : fx X q p s m (av.map (iv ad)).toArray meth c D g ad A := ⟨B.exec, B.bytes, hml, B.returns, hlocks, findClass_of_methodNamed B.named, (name_of_methodNamed B.named B.method).1, fun w hw => hts w (List.mem_cons_of_mem _ hw), hA, hs⟩
  have hl := lv_entry (av.map (iv ad)) (n := q.2.2.1) (by rw [sl_len]; exact hlen)
  rw [lg_entry_eq]
  rw [lv_args_iv] at hl
  generalize (lg_sl (av.map (iv ad)) ++ List.replicate (q.2.2.1 - (lg_sl (av.map (iv ad))).length) Slot.unset).toArray = la at hl ⊢
  have hW := h p e (headSpec (wz q) (rz d mc ms)).room s m (av.map (iv ad)).toArray below meth c (MQ below (qz D g ad A na M kr) (av.map (iv ad)).toArray s mc ms A) D g ad A (mN M) M.1 (mC M) (mS M) ad s.heap [] la hf (Nat.le_refl d) (Nat.le_refl _) (Nat.le_of_eq (Nat.add_comm _ _)) (Nat.le_of_eq (Nat.add_comm _ _)) (Nat.le_refl _) (Nat.le_refl _) (Nat.le_add_right _ _) (Nat.le_add_right _ _) ⟨hP, hD, va_S.rf, hk, Nat.le_refl _, hn, fun _ _ => rfl, fun _ => ⟨rfl, rfl⟩⟩ hl ?_
  · rw [Nat.sub_self, Nat.sub_self] at hW
    exact hW
  · intro pc' r M' ad' H' locs' la' hkr hr h1 h2 h3 h4 ht
    obtain ⟨r1, r2, r3, r4, r5, r6, r7, r8⟩ := hr
    have hq : ∀ t : State, t.heap = H' → s.WarmedH t.vm → qz D g ad A na M kr (av.map (iv ad)).toArray s (.returned (r.map (iv ad'))) t := fun t e1 _ => ⟨r, M', ad', rfl, hkr, r8, r7, r5, r6, r4, by rw [e1]; exact r1, r2, r3.F e1⟩
    have w3 : mC M' ≤ mC M + mc := h3
    have w4 : mS M' ≤ mS M + ms := h4
    refine W.widen (k := mc) (n := ms) (by omega) (by omega) ?_
    rcases ht with ⟨v, ty, rfl, e1, e2, e3⟩ | ⟨v, rfl, e1, e3⟩ | ⟨rfl, e1, e3⟩
    · exact W.zret B.exec B.bytes (B.returns.trans e1) e2 hq r3.2.2 e3 hlocks
    · exact W.lret B.exec B.bytes (B.returns.trans e1) hq r3.2.2 e3 hlocks
    · exact W.vret B.exec B.bytes (B.returns.trans e1) hq r3.2.2 e3 hlocks
/-! the ends -/
def oIr : OP := fun _ kr _ st M => match st with
  | [.int v] => kr (some (.int v)) M
  | _ => False
def oZr : OP := fun _ kr _ st M => match st with
  | [.int v] => (v = 0 ∨ v = 1) ∧ kr (some (.int v)) M
  | _ => False
def oLr : OP := fun _ kr _ st M => match st with
  | [.long v] => kr (some (.long v)) M
  | _ => False
def oVr : OP := fun _ kr _ st M => match st with
  | [] => kr none M
  | _ => False
theorem Wf.end {kr : KR} {ls : Ls} {M : Mm} {r : Option Value} (ht : rt q pc r) (h : kr r M) : Wf l X q d na b pc ls r.toList M kr := by
  intro p e R s m args below meth c Q D g ad0 A n0 S0 c0 s0 ad H locs la hf h1 h2 h3 h4 h5 h6 h7 h8 hr hl hk
  exact hk pc r M ad H locs la h hr h5 h6 h7 h8 ht
theorem ok_ir (hr : q.2.2.2 = some .int) (hd : decode q.2.1 pc = .ok (.ireturn, 1)) : OK l X q d na b pc oIr := by
  intro kn kr ls st M hk h
  simp only [oIr] at h
  split at h
  · exact Wf.end (r := some (.int _)) (Or.inl ⟨_, _, rfl, hr, rfl, hd⟩) h
  · exact h.elim
theorem ok_zr (hr : q.2.2.2 = some .boolean) (hd : decode q.2.1 pc = .ok (.ireturn, 1)) : OK l X q d na b pc oZr := by
  intro kn kr ls st M hk h
  simp only [oZr] at h
  split at h
  · refine Wf.end (r := some (.int _)) (Or.inl ⟨_, _, rfl, hr, ?_, hd⟩) h.2
    rcases h.1 with e | e <;> rw [e] <;> rfl
  · exact h.elim
theorem ok_lr (hr : q.2.2.2 = some .long) (hd : decode q.2.1 pc = .ok (.lreturn, 1)) : OK l X q d na b pc oLr := by
  intro kn kr ls st M hk h
  simp only [oLr] at h
  split at h
  · exact Wf.end (r := some (.long _)) (Or.inr (Or.inl ⟨_, rfl, hr, hd⟩)) h
  · exact h.elim
theorem ok_vr (hr : q.2.2.2 = none) (hd : decode q.2.1 pc = .ok (.return_, 1)) : OK l X q d na b pc oVr := by
  intro kn kr ls st M hk h
  simp only [oVr] at h
  split at h
  · exact Wf.end (r := none) (Or.inr (Or.inr ⟨rfl, hr, hd⟩)) h
  · exact h.elim
/-! constants -/
def oIc (pc n : Nat) (v : Int32) : OP := fun kn _ ls st M => kn (pc + n) ls (.int v :: st) M
def oLc (pc n : Nat) (v : Int64) : OP := fun kn _ ls st M => kn (pc + n) ls (.long v :: st) M
theorem ok_iconst {n : Int} {v : Int32} (hv : Int32.ofInt n = v) (hd : decode q.2.1 pc = .ok (.iconst n, 1)) : OK l X q d na b pc (oIc pc 1 v) :=
  fun _ _ _ _ _ hk h => Wf.pure (fun _ _ _ _ _ _ _ _ _ _ _ _ _ _ ad la hx hb hown hts hl k => lv_iconst hx hb hd hv (k la hl)) (hk _ _ _ _ h)
theorem ok_bipush {n : Int} {v : Int32} (hv : (Int8.ofInt n).toInt32 = v) (hd : decode q.2.1 pc = .ok (.bipush n, 2)) : OK l X q d na b pc (oIc pc 2 v) :=
  fun _ _ _ _ _ hk h => Wf.pure (fun _ _ _ _ _ _ _ _ _ _ _ _ _ _ ad la hx hb hown hts hl k => lv_bipush hx hb hd hv (k la hl)) (hk _ _ _ _ h)
theorem ok_sipush {n : Int} {v : Int32} (hv : (Int16.ofInt n).toInt32 = v) (hd : decode q.2.1 pc = .ok (.sipush n, 3)) : OK l X q d na b pc (oIc pc 3 v) :=
  fun _ _ _ _ _ hk h => Wf.pure (fun _ _ _ _ _ _ _ _ _ _ _ _ _ _ ad la hx hb hown hts hl k => lv_sipush hx hb hd hv (k la hl)) (hk _ _ _ _ h)
theorem ok_lconst {n : Fin 2} {v : Int64} (hv : Int64.ofNat (n : Nat) = v) (hd : decode q.2.1 pc = .ok (.lconst n, 1)) : OK l X q d na b pc (oLc pc 1 v) :=
  fun _ _ _ _ _ hk h => Wf.pure (fun _ _ _ _ _ _ _ _ _ _ _ _ _ _ ad la hx hb hown hts hl k => lv_lconst hx hb hd hv (k la hl)) (hk _ _ _ _ h)
theorem ok_ldc {n : Nat} {v : Int32} (hw : Jvm.Cond.constant q.1.cls n v ∈ wB) (hd : decode q.2.1 pc = .ok (.ldc n, 2)) : OK l X q d na b pc (oIc pc 2 v) :=
  fun _ _ _ _ _ hk h => Wf.pure (fun _ _ _ _ _ _ _ _ _ _ _ _ _ _ ad la hx hb hown hts hl k => lv_ldc hx hb hown (hts _ hw) hd (k la hl)) (hk _ _ _ _ h)
theorem ok_ldc2 {n : Nat} {v : Int64} (hw : Jvm.Cond.constantLong q.1.cls n v ∈ wB) (hd : decode q.2.1 pc = .ok (.ldc2_w n, 3)) : OK l X q d na b pc (oLc pc 3 v) :=
  fun _ _ _ _ _ hk h => Wf.pure (fun _ _ _ _ _ _ _ _ _ _ _ _ _ _ ad la hx hb hown hts hl k => lv_ldc2 hx hb hown (hts _ hw) hd (k la hl)) (hk _ _ _ _ h)
theorem ok_ldcw {n : Nat} {v : Int32} (hw : Jvm.Cond.constant q.1.cls n v ∈ wB) (hd : decode q.2.1 pc = .ok (.ldc_w n, 3)) : OK l X q d na b pc (oIc pc 3 v) := by
  intro kn kr ls st M hk h
  refine Wf.pure (fun p e R s m args below meth c H locs cells slots Q ad la hx hb hown hts hl k => ?_) (hk _ _ _ _ h)
  intro T hT Xs
  obtain ⟨t, a, b⟩ := k la hl T hT Xs
  exact ⟨t, va_ldcwI Xs hx hown (hts _ hw) (g := F0 m pc la (st.map (iv ad))) rfl (by rw [hb]; exact hd) t a, b⟩
/-! locals -/
def oIl (pc n i : Nat) : OP := fun kn _ ls st M => match lg ls i with
  | some (.int x) => kn (pc + n) ls (.int x :: st) M
  | _ => False
def oLl (pc n i : Nat) : OP := fun kn _ ls st M => match lg ls i with
  | some (.long x) => kn (pc + n) ls (.long x :: st) M
  | _ => False
def oAl (pc n i : Nat) : OP := fun kn _ ls st M => match lg ls i with
  | some (.ref a) => cond (Nat.blt 0 a) (kn (pc + n) ls (.ref a :: st) M) False
  | _ => False
theorem condT {c : Bool} {P : Prop} (h : cond c P False) : c = true ∧ P := by
  cases c with
  | true => exact ⟨rfl, h⟩
  | false => exact h.elim
theorem ok_iload_n {i : Nat} {k : Fin 4} (hi : (k : Nat) = i) (hd : decode q.2.1 pc = .ok (.iload_n k, 1)) : OK l X q d na b pc (oIl pc 1 i) := by
  intro kn kr ls st M hk h
  simp only [oIl] at h
  split at h
  · rename_i e
    exact Wf.pure (fun _ _ _ _ _ _ _ _ _ _ _ _ _ _ ad la hx hb hown hts hl k => lv_iload_n hx hb hd hi (lg_has e hl) (k la hl)) (hk _ _ _ _ h)
  · exact h.elim
theorem ok_iload {i : Nat} (hd : decode q.2.1 pc = .ok (.iload i, 2)) : OK l X q d na b pc (oIl pc 2 i) := by
  intro kn kr ls st M hk h
  simp only [oIl] at h
  split at h
  · rename_i e
    exact Wf.pure (fun _ _ _ _ _ _ _ _ _ _ _ _ _ _ ad la hx hb hown hts hl k => lv_iload hx hb hd (lg_has e hl) (k la hl)) (hk _ _ _ _ h)
  · exact h.elim
theorem ok_lload_n {i : Nat} {k : Fin 4} (hi : (k : Nat) = i) (hd : decode q.2.1 pc = .ok (.lload_n k, 1)) : OK l X q d na b pc (oLl pc 1 i) := by
  intro kn kr ls st M hk h
  simp only [oLl] at h
  split at h
  · rename_i e
    exact Wf.pure (fun _ _ _ _ _ _ _ _ _ _ _ _ _ _ ad la hx hb hown hts hl k => lv_lload_n hx hb hd hi (lg_has e hl) (k la hl)) (hk _ _ _ _ h)
  · exact h.elim
theorem ok_lload {i : Nat} (hd : decode q.2.1 pc = .ok (.lload i, 2)) : OK l X q d na b pc (oLl pc 2 i) := by
  intro kn kr ls st M hk h
  simp only [oLl] at h
  split at h
  · rename_i e
    exact Wf.pure (fun _ _ _ _ _ _ _ _ _ _ _ _ _ _ ad la hx hb hown hts hl k => lv_lload hx hb hd (lg_has e hl) (k la hl)) (hk _ _ _ _ h)
  · exact h.elim
theorem ok_aload_n {i : Nat} {k : Fin 4} (hi : (k : Nat) = i) (hd : decode q.2.1 pc = .ok (.aload_n k, 1)) : OK l X q d na b pc (oAl pc 1 i) := by
  intro kn kr ls st M hk h
  simp only [oAl] at h
  split at h
  · rename_i a e
    obtain ⟨h0, h⟩ := condT h
    have h0 : 0 < a := Nat.le_of_ble_eq_true h0
    refine Wf.pure (fun p e' R s m args below meth c H locs cells slots Q ad la hx hb hown hts hl k => ?_) (hk _ _ _ _ h)
    have k := k la hl
    rw [List.map_cons, iv_ref h0] at k
    exact lv_aload_n hx hb hd hi (by rw [← iv_ref h0]; exact lg_has e hl) k
  · exact h.elim
theorem ok_aload {i : Nat} (hd : decode q.2.1 pc = .ok (.aload i, 2)) : OK l X q d na b pc (oAl pc 2 i) := by
  intro kn kr ls st M hk h
  simp only [oAl] at h
  split at h
  · rename_i a e
    obtain ⟨h0, h⟩ := condT h
    have h0 : 0 < a := Nat.le_of_ble_eq_true h0
    refine Wf.pure (fun p e' R s m args below meth c H locs cells slots Q ad la hx hb hown hts hl k => ?_) (hk _ _ _ _ h)
    have k := k la hl
    rw [List.map_cons, iv_ref h0] at k
    exact lv_aload hx hb hd (by rw [← iv_ref h0]; exact lg_has e hl) k
  · exact h.elim
def oIs (pc n i : Nat) : OP := fun kn _ ls st M => match st with
  | .int x :: st => kn (pc + n) (lp ls i (.int x)) st M
  | _ => False
def oLs (pc n i : Nat) : OP := fun kn _ ls st M => match st with
  | .long x :: st => kn (pc + n) (lp ls i (.long x)) st M
  | _ => False
def oAs (pc n i : Nat) : OP := fun kn _ ls st M => match st with
  | .ref a :: st => cond (Nat.blt 0 a) (kn (pc + n) (lp ls i (.ref a)) st M) False
  | _ => False
def oInc (pc i : Nat) (n : Int32) : OP := fun kn _ ls st M => match lg ls i with
  | some (.int x) => kn (pc + 3) (lp ls i (.int (x + n))) st M
  | _ => False
theorem ok_istore_n {i : Nat} {k : Fin 4} (hi : (k : Nat) = i) (hn : i < q.2.2.1) (hd : decode q.2.1 pc = .ok (.istore_n k, 1)) : OK l X q d na b pc (oIs pc 1 i) := by
  intro kn kr ls st M hk h
  simp only [oIs] at h
  split at h
  · exact Wf.pure (fun _ _ _ _ _ _ _ _ _ _ _ _ _ _ ad la hx hb hown hts hl k => lv_istore_n hx hb hd hi hl hn rfl (fun la' hl' => k la' (lp_1 rfl hl'))) (hk _ _ _ _ h)
  · exact h.elim
theorem ok_istore {i : Nat} (hn : i < q.2.2.1) (hd : decode q.2.1 pc = .ok (.istore i, 2)) : OK l X q d na b pc (oIs pc 2 i) := by
  intro kn kr ls st M hk h
  simp only [oIs] at h
  split at h
  · exact Wf.pure (fun _ _ _ _ _ _ _ _ _ _ _ _ _ _ ad la hx hb hown hts hl k => lv_istore hx hb hd hl hn rfl (fun la' hl' => k la' (lp_1 rfl hl'))) (hk _ _ _ _ h)
  · exact h.elim
theorem ok_lstore_n {i : Nat} {k : Fin 4} (hi : (k : Nat) = i) (hn : i + 1 < q.2.2.1) (hd : decode q.2.1 pc = .ok (.lstore_n k, 1)) : OK l X q d na b pc (oLs pc 1 i) := by
  intro kn kr ls st M hk h
  simp only [oLs] at h
  split at h
  · exact Wf.pure (fun _ _ _ _ _ _ _ _ _ _ _ _ _ _ ad la hx hb hown hts hl k => lv_lstore_n hx hb hd hi hl hn rfl (fun la' hl' => k la' (lp_2 rfl hl'))) (hk _ _ _ _ h)
  · exact h.elim
theorem ok_lstore {i : Nat} (hn : i + 1 < q.2.2.1) (hd : decode q.2.1 pc = .ok (.lstore i, 2)) : OK l X q d na b pc (oLs pc 2 i) := by
  intro kn kr ls st M hk h
  simp only [oLs] at h
  split at h
  · exact Wf.pure (fun _ _ _ _ _ _ _ _ _ _ _ _ _ _ ad la hx hb hown hts hl k => lv_lstore hx hb hd hl hn rfl (fun la' hl' => k la' (lp_2 rfl hl'))) (hk _ _ _ _ h)
  · exact h.elim
theorem ok_astore_n {i : Nat} {k : Fin 4} (hi : (k : Nat) = i) (hn : i < q.2.2.1) (hd : decode q.2.1 pc = .ok (.astore_n k, 1)) : OK l X q d na b pc (oAs pc 1 i) := by
  intro kn kr ls st M hk h
  simp only [oAs] at h
  split at h
  · rename_i a st
    obtain ⟨h0, h⟩ := condT h
    have h0 : 0 < a := Nat.le_of_ble_eq_true h0
    refine Wf.pure (fun p e' R s m args below meth c H locs cells slots Q ad la hx hb hown hts hl k => ?_) (hk _ _ _ _ h)
    rw [List.map_cons, iv_ref h0]
    exact lv_astore_n hx hb hd hi hl hn rfl (fun la' hl' => k la' (lp_1 rfl (by rw [iv_ref h0]; exact hl')))
  · exact h.elim
theorem ok_astore {i : Nat} (hn : i < q.2.2.1) (hd : decode q.2.1 pc = .ok (.astore i, 2)) : OK l X q d na b pc (oAs pc 2 i) := by
  intro kn kr ls st M hk h
  simp only [oAs] at h
  split at h
  · rename_i a st
    obtain ⟨h0, h⟩ := condT h
    have h0 : 0 < a := Nat.le_of_ble_eq_true h0
    refine Wf.pure (fun p e' R s m args below meth c H locs cells slots Q ad la hx hb hown hts hl k => ?_) (hk _ _ _ _ h)
    rw [List.map_cons, iv_ref h0]
    exact lv_astore hx hb hd hl hn rfl (fun la' hl' => k la' (lp_1 rfl (by rw [iv_ref h0]; exact hl')))
  · exact h.elim
theorem ok_iinc {i : Nat} {n : Int} {v : Int32} (hv : Int32.ofInt n = v) (hn : i < q.2.2.1) (hd : decode q.2.1 pc = .ok (.iinc i n, 3)) : OK l X q d na b pc (oInc pc i v) := by
  intro kn kr ls st M hk h
  simp only [oInc] at h
  split at h
  · rename_i x e
    subst hv
    refine Wf.pure (fun p e' R s m args below meth c H locs cells slots Q ad la hx hb hown hts hl k => ?_) (hk _ _ _ _ h)
    obtain ⟨j, hj⟩ := List.getElem?_of_mem (List.mem_map.mpr ⟨(i, Value.int x), lg_mem e, rfl⟩ : (i, Value.int x) ∈ lm ad ls)
    exact lv_iinc hx hb hd hl hj rfl hn rfl (fun la' hl' => k la' (lp_1 rfl hl'))
  · exact h.elim
/-! numbers -/
def o2 (pc : Nat) (f : Int32 → Int32 → Int32) : OP := fun kn _ ls st M => match st with
  | .int y :: .int x :: st => kn (pc + 1) ls (.int (f x y) :: st) M
  | _ => False
def o2d (pc : Nat) (f : Int32 → Int32 → Int32) : OP := fun kn _ ls st M => match st with
  | .int y :: .int x :: st => ¬ y = 0 ∧ kn (pc + 1) ls (.int (f x y) :: st) M
  | _ => False
def o1 (pc : Nat) (f : Int32 → Int32) : OP := fun kn _ ls st M => match st with
  | .int x :: st => kn (pc + 1) ls (.int (f x) :: st) M
  | _ => False
def oL2 (pc : Nat) (f : Int64 → Int64 → Int64) : OP := fun kn _ ls st M => match st with
  | .long y :: .long x :: st => kn (pc + 1) ls (.long (f x y) :: st) M
  | _ => False
def oL2d (pc : Nat) (f : Int64 → Int64 → Int64) : OP := fun kn _ ls st M => match st with
  | .long y :: .long x :: st => ¬ y = 0 ∧ kn (pc + 1) ls (.long (f x y) :: st) M
  | _ => False
def oi2l (pc : Nat) : OP := fun kn _ ls st M => match st with
  | .int x :: st => kn (pc + 1) ls (.long x.toInt64 :: st) M
  | _ => False
def olcmp (pc : Nat) : OP := fun kn _ ls st M => match st with
  | .long y :: .long x :: st => kn (pc + 1) ls (.int (lg_cmp x y) :: st) M
  | _ => False
theorem ok_iadd (hd : decode q.2.1 pc = .ok (.iadd, 1)) : OK l X q d na b pc (o2 pc (fun x y => x + y)) := by
  intro kn kr ls st M hk h
  simp only [o2] at h
  split at h
  · exact Wf.pure (fun _ _ _ _ _ _ _ _ _ _ _ _ _ _ ad la hx hb hown hts hl k => lv_iadd hx hb hd (k la hl)) (hk _ _ _ _ h)
  · exact h.elim
theorem ok_isub (hd : decode q.2.1 pc = .ok (.isub, 1)) : OK l X q d na b pc (o2 pc (fun x y => x - y)) := by
  intro kn kr ls st M hk h
  simp only [o2] at h
  split at h
  · exact Wf.pure (fun _ _ _ _ _ _ _ _ _ _ _ _ _ _ ad la hx hb hown hts hl k => lv_isub hx hb hd (k la hl)) (hk _ _ _ _ h)
  · exact h.elim
theorem ok_imul (hd : decode q.2.1 pc = .ok (.imul, 1)) : OK l X q d na b pc (o2 pc (fun x y => x * y)) := by
  intro kn kr ls st M hk h
  simp only [o2] at h
  split at h
  · exact Wf.pure (fun _ _ _ _ _ _ _ _ _ _ _ _ _ _ ad la hx hb hown hts hl k => lv_imul hx hb hd (k la hl)) (hk _ _ _ _ h)
  · exact h.elim
theorem ok_iand (hd : decode q.2.1 pc = .ok (.iand, 1)) : OK l X q d na b pc (o2 pc (fun x y => x &&& y)) := by
  intro kn kr ls st M hk h
  simp only [o2] at h
  split at h
  · exact Wf.pure (fun _ _ _ _ _ _ _ _ _ _ _ _ _ _ ad la hx hb hown hts hl k => lv_iand hx hb hd (k la hl)) (hk _ _ _ _ h)
  · exact h.elim
theorem ok_ior (hd : decode q.2.1 pc = .ok (.ior, 1)) : OK l X q d na b pc (o2 pc (fun x y => x ||| y)) := by
  intro kn kr ls st M hk h
  simp only [o2] at h
  split at h
  · exact Wf.pure (fun _ _ _ _ _ _ _ _ _ _ _ _ _ _ ad la hx hb hown hts hl k => lv_ior hx hb hd (k la hl)) (hk _ _ _ _ h)
  · exact h.elim
theorem ok_ixor (hd : decode q.2.1 pc = .ok (.ixor, 1)) : OK l X q d na b pc (o2 pc (fun x y => x ^^^ y)) := by
  intro kn kr ls st M hk h
  simp only [o2] at h
  split at h
  · exact Wf.pure (fun _ _ _ _ _ _ _ _ _ _ _ _ _ _ ad la hx hb hown hts hl k => lv_ixor hx hb hd (k la hl)) (hk _ _ _ _ h)
  · exact h.elim
theorem ok_ishl (hd : decode q.2.1 pc = .ok (.ishl, 1)) : OK l X q d na b pc (o2 pc (fun x y => x <<< (y &&& 31))) := by
  intro kn kr ls st M hk h
  simp only [o2] at h
  split at h
  · exact Wf.pure (fun _ _ _ _ _ _ _ _ _ _ _ _ _ _ ad la hx hb hown hts hl k => lv_ishl hx hb hd (k la hl)) (hk _ _ _ _ h)
  · exact h.elim
theorem ok_ishr (hd : decode q.2.1 pc = .ok (.ishr, 1)) : OK l X q d na b pc (o2 pc (fun x y => x >>> (y &&& 31))) := by
  intro kn kr ls st M hk h
  simp only [o2] at h
  split at h
  · exact Wf.pure (fun _ _ _ _ _ _ _ _ _ _ _ _ _ _ ad la hx hb hown hts hl k => lv_ishr hx hb hd (k la hl)) (hk _ _ _ _ h)
  · exact h.elim
theorem ok_iushr (hd : decode q.2.1 pc = .ok (.iushr, 1)) : OK l X q d na b pc (o2 pc (fun x y => (x.toUInt32 >>> (y.toUInt32 &&& Int32.toUInt32 31)).toInt32)) := by
  intro kn kr ls st M hk h
  simp only [o2] at h
  split at h
  · exact Wf.pure (fun _ _ _ _ _ _ _ _ _ _ _ _ _ _ ad la hx hb hown hts hl k => lv_iushr hx hb hd rfl (k la hl)) (hk _ _ _ _ h)
  · exact h.elim
theorem ok_idiv (hd : decode q.2.1 pc = .ok (.idiv, 1)) : OK l X q d na b pc (o2d pc (fun x y => x / y)) := by
  intro kn kr ls st M hk h
  simp only [o2d] at h
  split at h
  · exact Wf.pure (fun _ _ _ _ _ _ _ _ _ _ _ _ _ _ ad la hx hb hown hts hl k => lv_idiv hx hb hd h.1 (k la hl)) (hk _ _ _ _ h.2)
  · exact h.elim
theorem ok_irem (hd : decode q.2.1 pc = .ok (.irem, 1)) : OK l X q d na b pc (o2d pc (fun x y => x - x / y * y)) := by
  intro kn kr ls st M hk h
  simp only [o2d] at h
  split at h
  · exact Wf.pure (fun _ _ _ _ _ _ _ _ _ _ _ _ _ _ ad la hx hb hown hts hl k => lv_irem hx hb hd h.1 (k la hl)) (hk _ _ _ _ h.2)
  · exact h.elim
theorem ok_ineg (hd : decode q.2.1 pc = .ok (.ineg, 1)) : OK l X q d na b pc (o1 pc (fun x => -x)) := by
  intro kn kr ls st M hk h
  simp only [o1] at h
  split at h
  · exact Wf.pure (fun _ _ _ _ _ _ _ _ _ _ _ _ _ _ ad la hx hb hown hts hl k => lv_ineg hx hb hd (k la hl)) (hk _ _ _ _ h)
  · exact h.elim
theorem ok_i2b (hd : decode q.2.1 pc = .ok (.i2b, 1)) : OK l X q d na b pc (o1 pc (fun x => x.toInt8.toInt32)) := by
  intro kn kr ls st M hk h
  simp only [o1] at h
  split at h
  · exact Wf.pure (fun _ _ _ _ _ _ _ _ _ _ _ _ _ _ ad la hx hb hown hts hl k => lv_i2b hx hb hd rfl (k la hl)) (hk _ _ _ _ h)
  · exact h.elim
theorem ok_i2c (hd : decode q.2.1 pc = .ok (.i2c, 1)) : OK l X q d na b pc (o1 pc (fun x => (x.toUInt32 % 65536).toInt32)) := by
  intro kn kr ls st M hk h
  simp only [o1] at h
  split at h
  · exact Wf.pure (fun _ _ _ _ _ _ _ _ _ _ _ _ _ _ ad la hx hb hown hts hl k => lv_i2c hx hb hd rfl (k la hl)) (hk _ _ _ _ h)
  · exact h.elim
theorem ok_ladd (hd : decode q.2.1 pc = .ok (.ladd, 1)) : OK l X q d na b pc (oL2 pc (fun x y => x + y)) := by
  intro kn kr ls st M hk h
  simp only [oL2] at h
  split at h
  · exact Wf.pure (fun _ _ _ _ _ _ _ _ _ _ _ _ _ _ ad la hx hb hown hts hl k => lv_ladd hx hb hd (k la hl)) (hk _ _ _ _ h)
  · exact h.elim
theorem ok_lsub (hd : decode q.2.1 pc = .ok (.lsub, 1)) : OK l X q d na b pc (oL2 pc (fun x y => x - y)) := by
  intro kn kr ls st M hk h
  simp only [oL2] at h
  split at h
  · exact Wf.pure (fun _ _ _ _ _ _ _ _ _ _ _ _ _ _ ad la hx hb hown hts hl k => lv_lsub hx hb hd (k la hl)) (hk _ _ _ _ h)
  · exact h.elim
theorem ok_lmul (hd : decode q.2.1 pc = .ok (.lmul, 1)) : OK l X q d na b pc (oL2 pc (fun x y => x * y)) := by
  intro kn kr ls st M hk h
  simp only [oL2] at h
  split at h
  · exact Wf.pure (fun _ _ _ _ _ _ _ _ _ _ _ _ _ _ ad la hx hb hown hts hl k => lv_lmul hx hb hd (k la hl)) (hk _ _ _ _ h)
  · exact h.elim
theorem ok_ldiv (hd : decode q.2.1 pc = .ok (.ldiv, 1)) : OK l X q d na b pc (oL2d pc (fun x y => x / y)) := by
  intro kn kr ls st M hk h
  simp only [oL2d] at h
  split at h
  · exact Wf.pure (fun _ _ _ _ _ _ _ _ _ _ _ _ _ _ ad la hx hb hown hts hl k => lv_ldiv hx hb hd h.1 (k la hl)) (hk _ _ _ _ h.2)
  · exact h.elim
theorem ok_lrem (hd : decode q.2.1 pc = .ok (.lrem, 1)) : OK l X q d na b pc (oL2d pc (fun x y => x - x / y * y)) := by
  intro kn kr ls st M hk h
  simp only [oL2d] at h
  split at h
  · exact Wf.pure (fun _ _ _ _ _ _ _ _ _ _ _ _ _ _ ad la hx hb hown hts hl k => lv_lrem hx hb hd h.1 (k la hl)) (hk _ _ _ _ h.2)
  · exact h.elim
theorem ok_i2l (hd : decode q.2.1 pc = .ok (.i2l, 1)) : OK l X q d na b pc (oi2l pc) := by
  intro kn kr ls st M hk h
  simp only [oi2l] at h
  split at h
  · exact Wf.pure (fun _ _ _ _ _ _ _ _ _ _ _ _ _ _ ad la hx hb hown hts hl k => lv_i2l hx hb hd rfl (k la hl)) (hk _ _ _ _ h)
  · exact h.elim
theorem ok_lcmp (hd : decode q.2.1 pc = .ok (.lcmp, 1)) : OK l X q d na b pc (olcmp pc) := by
  intro kn kr ls st M hk h
  simp only [olcmp] at h
  split at h
  · exact Wf.pure (fun _ _ _ _ _ _ _ _ _ _ _ _ _ _ ad la hx hb hown hts hl k => W.lcmp hx hb hd (k la hl)) (hk _ _ _ _ h)
  · exact h.elim
/-! the stack -/
def oDup (pc : Nat) : OP := fun kn _ ls st M => match st with
  | v :: st => cond (Nat.beq v.category 1) (kn (pc + 1) ls (v :: v :: st) M) False
  | _ => False
def oDup2 (pc : Nat) : OP := fun kn _ ls st M => match st with
  | v :: w :: st => cond (Nat.beq v.category 1 && Nat.beq w.category 1) (kn (pc + 1) ls (v :: w :: v :: w :: st) M) False
  | _ => False
def oPop (pc : Nat) : OP := fun kn _ ls st M => match st with
  | v :: st => cond (Nat.beq v.category 1) (kn (pc + 1) ls st M) False
  | _ => False
theorem ok_dup (hd : decode q.2.1 pc = .ok (.dup, 1)) : OK l X q d na b pc (oDup pc) := by
  intro kn kr ls st M hk h
  simp only [oDup] at h
  split at h
  · obtain ⟨h0, h⟩ := condT h
    have h0 := Nat.eq_of_beq_eq_true h0
    exact Wf.pure (fun _ _ _ _ _ _ _ _ _ _ _ _ _ _ ad la hx hb hown hts hl k => lv_dup hx hb hd (by rw [iv_cat]; exact h0) (k la hl)) (hk _ _ _ _ h)
  · exact h.elim
theorem ok_pop (hd : decode q.2.1 pc = .ok (.pop, 1)) : OK l X q d na b pc (oPop pc) := by
  intro kn kr ls st M hk h
  simp only [oPop] at h
  split at h
  · obtain ⟨h0, h⟩ := condT h
    have h0 := Nat.eq_of_beq_eq_true h0
    exact Wf.pure (fun _ _ _ _ _ _ _ _ _ _ _ _ _ _ ad la hx hb hown hts hl k => lv_pop hx hb hd (by rw [iv_cat]; exact h0) (k la hl)) (hk _ _ _ _ h)
  · exact h.elim
theorem ok_dup2 (hd : decode q.2.1 pc = .ok (.dup2, 1)) : OK l X q d na b pc (oDup2 pc) := by
  intro kn kr ls st M hk h
  simp only [oDup2] at h
  split at h
  · obtain ⟨h0, h⟩ := condT h
    obtain ⟨h0, h1⟩ := Bool.and_eq_true_iff.mp h0
    have h0 := Nat.eq_of_beq_eq_true h0
    have h1 := Nat.eq_of_beq_eq_true h1
    exact Wf.pure (fun _ _ _ _ _ _ _ _ _ _ _ _ _ _ ad la hx hb hown hts hl k => lv_dup2_11 hx hb hd (by rw [iv_cat]; exact h0) (by rw [iv_cat]; exact h1) (k la hl)) (hk _ _ _ _ h)
  · exact h.elim
/-! branches -/
def oGo (t : Nat) : OP := fun kn _ ls st M => kn t ls st M
def oIf (pc t : Nat) (P N : Int32 → Prop) : OP := fun kn _ ls st M => match st with
  | .int x :: st => (P x → kn t ls st M) ∧ (N x → kn (pc + 3) ls st M)
  | _ => False
def oCm (pc t : Nat) (P N : Int32 → Int32 → Prop) : OP := fun kn _ ls st M => match st with
  | .int y :: .int x :: st => (P x y → kn t ls st M) ∧ (N x y → kn (pc + 3) ls st M)
  | _ => False
def oTs (lo : Int) (ts : List Nat) (df : Nat) : OP := fun kn _ ls st M => match st with
  | .int x :: st => (∀ (k t : Nat), ts[k]? = some t → x.toInt = lo + (k : Int) → kn t ls st M) ∧ ((x.toInt < lo ∨ lo + (ts.length : Int) ≤ x.toInt) → kn df ls st M)
  | _ => False
theorem ok_goto {off : Int} {t : Nat} (ht : (pc : Int) + off = (t : Int)) (hd : decode q.2.1 pc = .ok (.goto off, 3)) : OK l X q d na b pc (oGo t) :=
  fun _ _ _ _ _ hk h => Wf.pure (fun _ _ _ _ _ _ _ _ _ _ _ _ _ _ ad la hx hb hown hts hl k => lv_goto hx hb hd ht (k la hl)) (hk _ _ _ _ h)
theorem Wf.two {kr : KR} {ls : Ls} {st st' : List Value} {M : Mm} {t t' : Nat} {P N : Prop} (hPN : P ∨ N) (h : ∀ (p : Program) (e : Env) (R : Room) (s : State) (m : MethodId) (args : Array Value) (below : List Frame) (meth : Method) (c : Code) (H : Heap) (locs : List Loc) (cells slots : Nat) (Q : State → Prop) (ad : Nat → Nat) (la : Array Slot), p.tables.exec = Jvm.exec → c.code = q.2.1 → (P → W p l e R s m args below meth c H locs cells slots Q (F0 m t la (st'.map (iv ad)))) → (N → W p l e R s m args below meth c H locs cells slots Q (F0 m t' la (st'.map (iv ad)))) → W p l e R s m args below meth c H locs cells slots Q (F0 m pc la (st.map (iv ad)))) (k1 : P → Wf l X q d na b t ls st' M kr) (k2 : N → Wf l X q d na b t' ls st' M kr) : Wf l X q d na b pc ls st M kr := by
  intro p e R s m args below meth c Q D g ad0 A n0 S0 c0 s0 ad H locs la hf h1 h2 h3 h4 h5 h6 h7 h8 hr hl hk
  exact h p e R s m args below meth c H locs _ _ Q ad la hf.1 hf.2.1 (fun z => k1 z p e R s m args below meth c Q D g ad0 A n0 S0 c0 s0 ad H locs la hf h1 h2 h3 h4 h5 h6 h7 h8 hr hl hk) (fun z => k2 z p e R s m args below meth c Q D g ad0 A n0 S0 c0 s0 ad H locs la hf h1 h2 h3 h4 h5 h6 h7 h8 hr hl hk)
theorem ok_ifeq {off : Int} {t : Nat} (ht : (pc : Int) + off = (t : Int)) (hd : decode q.2.1 pc = .ok (.ifCond .eq off, 3)) : OK l X q d na b pc (oIf pc t (fun x => x = 0) (fun x => ¬ x = 0)) := by
  intro kn kr ls st M hk h
  simp only [oIf] at h
  split at h
  · exact Wf.two (Decidable.em _) (fun _ _ _ _ _ _ _ _ _ _ _ _ _ _ ad la hx hb k1 k2 => lv_if_eq hx hb hd ht k1 k2) (fun z => hk _ _ _ _ (h.1 z)) (fun z => hk _ _ _ _ (h.2 z))
  · exact h.elim
theorem ok_icmpeq {off : Int} {t : Nat} (ht : (pc : Int) + off = (t : Int)) (hd : decode q.2.1 pc = .ok (.if_icmp .eq off, 3)) : OK l X q d na b pc (oCm pc t (fun x y => x = y) (fun x y => ¬ x = y)) := by
  intro kn kr ls st M hk h
  simp only [oCm] at h
  split at h
  · exact Wf.two (Decidable.em _) (fun _ _ _ _ _ _ _ _ _ _ _ _ _ _ ad la hx hb k1 k2 => lv_icmp_eq hx hb hd ht k1 k2) (fun z => hk _ _ _ _ (h.1 z)) (fun z => hk _ _ _ _ (h.2 z))
  · exact h.elim
theorem ok_ifne {off : Int} {t : Nat} (ht : (pc : Int) + off = (t : Int)) (hd : decode q.2.1 pc = .ok (.ifCond .ne off, 3)) : OK l X q d na b pc (oIf pc t (fun x => ¬ x = 0) (fun x => x = 0)) := by
  intro kn kr ls st M hk h
  simp only [oIf] at h
  split at h
  · exact Wf.two (Decidable.em _).symm (fun _ _ _ _ _ _ _ _ _ _ _ _ _ _ ad la hx hb k1 k2 => lv_if_ne hx hb hd ht k1 k2) (fun z => hk _ _ _ _ (h.1 z)) (fun z => hk _ _ _ _ (h.2 z))
  · exact h.elim
theorem ok_icmpne {off : Int} {t : Nat} (ht : (pc : Int) + off = (t : Int)) (hd : decode q.2.1 pc = .ok (.if_icmp .ne off, 3)) : OK l X q d na b pc (oCm pc t (fun x y => ¬ x = y) (fun x y => x = y)) := by
  intro kn kr ls st M hk h
  simp only [oCm] at h
  split at h
  · exact Wf.two (Decidable.em _).symm (fun _ _ _ _ _ _ _ _ _ _ _ _ _ _ ad la hx hb k1 k2 => lv_icmp_ne hx hb hd ht k1 k2) (fun z => hk _ _ _ _ (h.1 z)) (fun z => hk _ _ _ _ (h.2 z))
  · exact h.elim
theorem ok_iflt {off : Int} {t : Nat} (ht : (pc : Int) + off = (t : Int)) (hd : decode q.2.1 pc = .ok (.ifCond .lt off, 3)) : OK l X q d na b pc (oIf pc t (fun x => x < 0) (fun x => ¬ x < 0)) := by
  intro kn kr ls st M hk h
  simp only [oIf] at h
  split at h
  · exact Wf.two (Decidable.em _) (fun _ _ _ _ _ _ _ _ _ _ _ _ _ _ ad la hx hb k1 k2 => lv_if_lt hx hb hd ht k1 k2) (fun z => hk _ _ _ _ (h.1 z)) (fun z => hk _ _ _ _ (h.2 z))
  · exact h.elim
theorem ok_icmplt {off : Int} {t : Nat} (ht : (pc : Int) + off = (t : Int)) (hd : decode q.2.1 pc = .ok (.if_icmp .lt off, 3)) : OK l X q d na b pc (oCm pc t (fun x y => x < y) (fun x y => ¬ x < y)) := by
  intro kn kr ls st M hk h
  simp only [oCm] at h
  split at h
  · exact Wf.two (Decidable.em _) (fun _ _ _ _ _ _ _ _ _ _ _ _ _ _ ad la hx hb k1 k2 => lv_icmp_lt hx hb hd ht k1 k2) (fun z => hk _ _ _ _ (h.1 z)) (fun z => hk _ _ _ _ (h.2 z))
  · exact h.elim
theorem ok_ifge {off : Int} {t : Nat} (ht : (pc : Int) + off = (t : Int)) (hd : decode q.2.1 pc = .ok (.ifCond .ge off, 3)) : OK l X q d na b pc (oIf pc t (fun x => 0 ≤ x) (fun x => ¬ 0 ≤ x)) := by
  intro kn kr ls st M hk h
  simp only [oIf] at h
  split at h
  · exact Wf.two (Decidable.em _) (fun _ _ _ _ _ _ _ _ _ _ _ _ _ _ ad la hx hb k1 k2 => lv_if_ge hx hb hd ht k1 k2) (fun z => hk _ _ _ _ (h.1 z)) (fun z => hk _ _ _ _ (h.2 z))
  · exact h.elim
theorem ok_icmpge {off : Int} {t : Nat} (ht : (pc : Int) + off = (t : Int)) (hd : decode q.2.1 pc = .ok (.if_icmp .ge off, 3)) : OK l X q d na b pc (oCm pc t (fun x y => y ≤ x) (fun x y => ¬ y ≤ x)) := by
  intro kn kr ls st M hk h
  simp only [oCm] at h
  split at h
  · exact Wf.two (Decidable.em _) (fun _ _ _ _ _ _ _ _ _ _ _ _ _ _ ad la hx hb k1 k2 => lv_icmp_ge hx hb hd ht k1 k2) (fun z => hk _ _ _ _ (h.1 z)) (fun z => hk _ _ _ _ (h.2 z))
  · exact h.elim
theorem ok_ifgt {off : Int} {t : Nat} (ht : (pc : Int) + off = (t : Int)) (hd : decode q.2.1 pc = .ok (.ifCond .gt off, 3)) : OK l X q d na b pc (oIf pc t (fun x => 0 < x) (fun x => ¬ 0 < x)) := by
  intro kn kr ls st M hk h
  simp only [oIf] at h
  split at h
  · exact Wf.two (Decidable.em _) (fun _ _ _ _ _ _ _ _ _ _ _ _ _ _ ad la hx hb k1 k2 => lv_if_gt hx hb hd ht k1 k2) (fun z => hk _ _ _ _ (h.1 z)) (fun z => hk _ _ _ _ (h.2 z))
  · exact h.elim
theorem ok_icmpgt {off : Int} {t : Nat} (ht : (pc : Int) + off = (t : Int)) (hd : decode q.2.1 pc = .ok (.if_icmp .gt off, 3)) : OK l X q d na b pc (oCm pc t (fun x y => y < x) (fun x y => ¬ y < x)) := by
  intro kn kr ls st M hk h
  simp only [oCm] at h
  split at h
  · exact Wf.two (Decidable.em _) (fun _ _ _ _ _ _ _ _ _ _ _ _ _ _ ad la hx hb k1 k2 => lv_icmp_gt hx hb hd ht k1 k2) (fun z => hk _ _ _ _ (h.1 z)) (fun z => hk _ _ _ _ (h.2 z))
  · exact h.elim
theorem ok_ifle {off : Int} {t : Nat} (ht : (pc : Int) + off = (t : Int)) (hd : decode q.2.1 pc = .ok (.ifCond .le off, 3)) : OK l X q d na b pc (oIf pc t (fun x => x ≤ 0) (fun x => ¬ x ≤ 0)) := by
  intro kn kr ls st M hk h
  simp only [oIf] at h
  split at h
  · exact Wf.two (Decidable.em _) (fun _ _ _ _ _ _ _ _ _ _ _ _ _ _ ad la hx hb k1 k2 => lv_if_le hx hb hd ht k1 k2) (fun z => hk _ _ _ _ (h.1 z)) (fun z => hk _ _ _ _ (h.2 z))
  · exact h.elim
theorem ok_icmple {off : Int} {t : Nat} (ht : (pc : Int) + off = (t : Int)) (hd : decode q.2.1 pc = .ok (.if_icmp .le off, 3)) : OK l X q d na b pc (oCm pc t (fun x y => x ≤ y) (fun x y => ¬ x ≤ y)) := by
  intro kn kr ls st M hk h
  simp only [oCm] at h
  split at h
  · exact Wf.two (Decidable.em _) (fun _ _ _ _ _ _ _ _ _ _ _ _ _ _ ad la hx hb k1 k2 => lv_icmp_le hx hb hd ht k1 k2) (fun z => hk _ _ _ _ (h.1 z)) (fun z => hk _ _ _ _ (h.2 z))
  · exact h.elim
theorem ok_ts {df lo hi : Int} {offs : Array Int} {n : Nat} {ts : List Nat} {t : Nat} (hn : hi + 1 = lo + ts.length) (h0 : (pc : Int) + df = (t : Int)) (hs : ts.map (fun (x : Nat) => (x : Int)) = offs.toList.map (fun o => (pc : Int) + o)) (hd : decode q.2.1 pc = .ok (.tableswitch df lo hi offs, n)) : OK l X q d na b pc (oTs lo ts t) := by
  intro kn kr ls st M hk h
  simp only [oTs] at h
  split at h
  · rename_i x st
    by_cases hx1 : x.toInt < lo ∨ lo + ts.length ≤ x.toInt
    · exact Wf.pure (fun _ _ _ _ _ _ _ _ _ _ _ _ _ _ ad la hx hb hown hts hl k => lv_tableOut hx hb hd (by omega) h0 (k la hl)) (hk _ _ _ _ (h.2 hx1))
    · have e1 : x.toInt = lo + ((x.toInt - lo).toNat : Nat) := by omega
      have e2 : (x.toInt - lo).toNat < ts.length := by omega
      have e3 : ts[(x.toInt - lo).toNat]? = some ts[(x.toInt - lo).toNat] := List.getElem?_eq_getElem e2
      have e4 : (offs.toList.map (fun o => (pc : Int) + o))[(x.toInt - lo).toNat]? = some (ts[(x.toInt - lo).toNat] : Int) := by
        rw [← hs, List.getElem?_map, e3]; rfl
      rw [List.getElem?_map] at e4
      cases ho : offs.toList[(x.toInt - lo).toNat]? with
      | none => rw [ho] at e4; cases e4
      | some o =>
        rw [ho] at e4
        have e5 : (pc : Int) + o = (ts[(x.toInt - lo).toNat] : Int) := Option.some.inj e4
        exact Wf.pure (fun _ _ _ _ _ _ _ _ _ _ _ _ _ _ ad la hx hb hown hts hl k => lv_tableIn hx hb hd (by omega) (by omega) (by rw [← Array.getElem?_toList]; exact ho) e5 (k la hl)) (hk _ _ _ _ (h.1 _ _ e3 e1))
  · exact h.elim
end OPS
end
section
section MEM
variable {l : Launch} {X : Nat × (Nat → Int32)} {q : Md} {d : Nat} {na : Bool} {b : Nat × Nat} {pc : Nat}
theorem en_same {g : Nat → ClassId} {ad : Nat → Nat} {M M' : Mm} {a : Nat} (h0 : mK M' a = mK M a) (h1 : mI M' a = mI M a) (h2 : mL M' a = mL M a) (h3 : mR M' a = mR M a) : en g ad M' a = en g ad M a := by
  have hs : ∀ k t, sv M' a k t = sv M a k t := by
    intro k t
    unfold sv
    rw [h1, h2, h3]
  have he : er ad M' a = er ad M a := by
    unfold er
    rw [h3]
  unfold en eo
  rw [h0, h1, h2, he]
  simp only [hs]
theorem en_o {g : Nat → ClassId} {ad : Nat → Nat} {M : Mm} {a c : Nat} (h : (mK M a).1 = c) (hc : c < 8) : en g ad M a = .inr (c, eo ad M a (tf c)) := by
  unfold en
  rw [h, if_pos hc]
theorem en_i {g : Nat → ClassId} {ad : Nat → Nat} {M : Mm} {a : Nat} (h : (mK M a).1 = 9) : en g ad M a = .inl (g 9, (mK M a).2, .inl (mI M a)) := by
  unfold en
  rw [h, if_neg (by decide), if_neg (by decide), if_pos (by decide)]
theorem en_b {g : Nat → ClassId} {ad : Nat → Nat} {M : Mm} {a : Nat} (h : (mK M a).1 = 8) : en g ad M a = .inl (g 8, (mK M a).2, .inl (mI M a)) := by
  unfold en
  rw [h, if_neg (by decide), if_neg (by decide), if_pos (by decide)]
theorem en_j {g : Nat → ClassId} {ad : Nat → Nat} {M : Mm} {a : Nat} (h : (mK M a).1 = 10) : en g ad M a = .inl (g 10, (mK M a).2, .inr (.inl (mL M a))) := by
  unfold en
  rw [h, if_neg (by decide), if_pos rfl]
theorem en_q {g : Nat → ClassId} {ad : Nat → Nat} {M : Mm} {a c : Nat} (h : (mK M a).1 = c) (hc : 10 < c) : en g ad M a = .inl (g c, (mK M a).2, .inr (.inr (.inr (.inr (er ad M a))))) := by
  unfold en
  rw [h, if_neg (by omega), if_neg (by omega), if_neg (by omega)]
def kk (M : Mm) (a c : Nat) : Bool := Nat.blt 0 a && (Nat.ble a (mN M) && Nat.beq (mK M a).1 c)
theorem kk_of {M : Mm} {a c : Nat} (h : kk M a c = true) : 0 < a ∧ a ≤ mN M ∧ (mK M a).1 = c := by
  obtain ⟨h1, h2⟩ := Bool.and_eq_true_iff.mp h
  obtain ⟨h2, h3⟩ := Bool.and_eq_true_iff.mp h2
  exact ⟨Nat.le_of_ble_eq_true h1, Nat.le_of_ble_eq_true h2, Nat.eq_of_beq_eq_true h3⟩
/-- a step that reads or writes the pool -/
theorem Wf.mem {kr : KR} {ls : Ls} {st st' : List Value} {M M' : Mm} {pc' : Nat} (h1 : M'.1 = M.1) (hkO : kO M → kO M')
    (h : ∀ (p : Program) (e : Env) (R : Room) (s : State) (m : MethodId) (args : Array Value) (below : List Frame) (meth : Method) (c : Code) (H : Heap) (locs : List Loc) (cells slots : Nat) (Q : State → Prop) (D : va_G) (g : Nat → ClassId) (ad : Nat → Nat) (A : Nat → Prop) (la : Array Slot), p.tables.exec = Jvm.exec → c.code = q.2.1 → s.vm.findClass q.1.cls = some m.cls → (∀ w ∈ wB, w.before args s = true) → va_K D vwCl (tz g) s → meth.name = q.1.name → c.maxLocals = la.size → d ≤ R.frames → 64 * d ≤ R.locals → va_P D vwCl (wl g ad M) H → va_D A (wl g ad M) → va_S A s.heap H locs →
      (∀ (H1 : Heap) (locs1 : List Loc), va_P D vwCl (wl g ad M') H1 → va_D A (wl g ad M') → va_S A s.heap H1 locs1 → W p l e R s m args below meth c H1 locs1 cells slots Q (F0 m pc' la (st'.map (iv ad)))) → W p l e R s m args below meth c H locs cells slots Q (F0 m pc la (st.map (iv ad))))
    (k : Wf l X q d na b pc' ls st' M' kr) : Wf l X q d na b pc ls st M kr := by
  intro p e R s m args below meth c Q D g ad0 A n0 S0 c0 s0 ad H locs la hf g1 g2 g3 g4 g5 g6 g7 g8 hr hl hk
  obtain ⟨r1, r2, r3, r4, r5, r6, r7, r8⟩ := hr
  have eN : mN M' = mN M := congrArg (fun x => x.1) h1
  have eC : mC M' = mC M := congrArg (fun x => x.2.1) h1
  have eS : mS M' = mS M := congrArg (fun x => x.2.2.1) h1
  refine h p e R s m args below meth c H locs (mC M - c0) (mS M - s0) Q D g ad A la hf.1 hf.2.1 hf.2.2.2.2.2.1 hf.2.2.2.2.2.2.2.1 hf.2.2.2.2.2.2.2.2.2.1 hf.2.2.2.2.2.2.1 (hf.2.2.1.trans hl.1.symm) g1 g2 r1 r2 r3 (fun H1 locs1 p1 p2 p3 => ?_)
  have := k p e R s m args below meth c Q D g ad0 A n0 S0 c0 s0 ad H1 locs1 la hf g1 g2 g3 g4 (by rw [eC]; exact g5) (by rw [eS]; exact g6) (by rw [eC]; exact g7) (by rw [eS]; exact g8) ⟨p1, p2, p3, hkO r4, by rw [eN]; exact r5, by rw [eN]; exact r6, r7, fun z => ⟨(r8 z).1, h1.trans (r8 z).2⟩⟩ hl hk
  rw [eC, eS] at this
  exact this
def oG (pc c k t : Nat) : OP := fun kn _ ls st M => match st with
  | .ref a :: st => cond (kk M a c) (kn (pc + 3) ls (sv M a k t :: st) M) False
  | _ => False
theorem ok_get {c k t idx : Nat} {Cn : String} {T : u_T} {N : Nat} (hc : vwCl[c]? = some (Cn, T, N)) (hin : ∀ w ∈ u_ws Cn T N, w ∈ wB) (h8 : c < 8 ∧ k < N ∧ k < (tf c).length ∧ (tf c).getD k 0 = t) (hw : Cond.fieldLink q.1.cls idx (T k).1 (T k).2.1 (T k).2.2.1 ∈ wB) (hd : decode q.2.1 pc = .ok (.getfield idx, 3)) : OK l X q d na b pc (oG pc c k t) := by
  intro kn kr ls st M hk h
  simp only [oG] at h
  split at h
  · rename_i a st
    obtain ⟨h0, h⟩ := condT h
    obtain ⟨a0, a1, a2⟩ := kk_of h0
    refine Wf.mem rfl id (fun p e R s m args below meth c' H locs cells slots Q D g ad A la hx hb hown hts hK hnm hml g1 g2 hP hD hS kx => ?_) (hk _ _ _ _ h)
    rw [List.map_cons, iv_ref a0]
    have he := wl_at (g := g) (ad := ad) a0 a1
    rw [en_o a2 h8.1] at he
    exact va_get hx hb hts hin hown hK hP (a - 1) he hc k h8.2.1 (hts _ hw) (fun _ z => z) (v := iv ad (sv M a k t)) (by rw [eo_at h8.2.2.1, h8.2.2.2]) hd (kx H locs hP hD hS)
  · exact h.elim
theorem wI_o {M : Mm} {a i j b : Nat} {v : Int32} (h : b ≠ a ∨ j ≠ i) : mI (wI M a i v) b j = mI M b j := by
  show (if b = a ∧ j = i then v else M.2.1 b j) = M.2.1 b j
  rw [if_neg (by omega)]
theorem wI_s {M : Mm} {a i : Nat} {v : Int32} : mI (wI M a i v) a i = v := by
  show (if a = a ∧ i = i then v else M.2.1 a i) = v
  rw [if_pos ⟨rfl, rfl⟩]
theorem wL_o {M : Mm} {a i j b : Nat} {v : Int64} (h : b ≠ a ∨ j ≠ i) : mL (wL M a i v) b j = mL M b j := by
  show (if b = a ∧ j = i then v else M.2.2.1 b j) = M.2.2.1 b j
  rw [if_neg (by omega)]
theorem wL_s {M : Mm} {a i : Nat} {v : Int64} : mL (wL M a i v) a i = v := by
  show (if a = a ∧ i = i then v else M.2.2.1 a i) = v
  rw [if_pos ⟨rfl, rfl⟩]
theorem wR_o {M : Mm} {a i j b : Nat} {v : Nat} (h : b ≠ a ∨ j ≠ i) : mR (wR M a i v) b j = mR M b j := by
  show (if b = a ∧ j = i then v else M.2.2.2 b j) = M.2.2.2 b j
  rw [if_neg (by omega)]
theorem wR_s {M : Mm} {a i : Nat} {v : Nat} : mR (wR M a i v) a i = v := by
  show (if a = a ∧ i = i then v else M.2.2.2 a i) = v
  rw [if_pos ⟨rfl, rfl⟩]
theorem wF_o {M : Mm} {a j b : Nat} {f : Nat → Int32} (h : b ≠ a) : mI (wF M a f) b j = mI M b j := by
  show (if b = a then f j else M.2.1 b j) = M.2.1 b j
  rw [if_neg h]
theorem wF_s {M : Mm} {a : Nat} {f : Nat → Int32} : mI (wF M a f) a = f := by
  funext j
  show (if a = a then f j else M.2.1 a j) = f j
  rw [if_pos rfl]
/-- a field's new value: the world of the new memory -/
theorem put_wl {g : Nat → ClassId} {ad : Nat → Nat} {M M' : Mm} {a c k t : Nat} (h1 : M'.1 = M.1) (a0 : 0 < a) (a1 : a ≤ mN M) (a2 : (mK M a).1 = c) (h8 : c < 8) (hk : k < (tf c).length) (ht : (tf c).getD k 0 = t)
    (ho : ∀ b, b ≠ a → mI M' b = mI M b ∧ mL M' b = mL M b ∧ mR M' b = mR M b) (hs : ∀ j, j ≠ k → mI M' a j = mI M a j ∧ mL M' a j = mL M a j ∧ mR M' a j = mR M a j) :
    (wl g ad M).set (a - 1) (ad a, .inr (c, (eo ad M a (tf c)).set k (iv ad (sv M' a k t)))) = wl g ad M' := by
  have hK : ∀ b, mK M' b = mK M b := fun b => congrFun (congrArg (fun x => x.2.2.2) h1) b
  have e := wl_set (g := g) (ad := ad) (M := M) (M' := M') a0 a1 (congrArg (fun x => x.1) h1) (fun b hb => en_same (hK b) (ho b hb).1 (ho b hb).2.1 (ho b hb).2.2)
  rw [← e, en_o (by rw [hK]; exact a2) h8, ← ht]
  rw [eo_set hk (fun j hj => ?_)]
  unfold sv
  rw [(hs j hj).1, (hs j hj).2.1, (hs j hj).2.2]
def oPI (pc c k : Nat) : OP := fun kn _ ls st M => match st with
  | .int v :: .ref a :: st => cond (kk M a c) (kn (pc + 3) ls st (wI M a k v)) False
  | _ => False
def oPZ (pc c k : Nat) : OP := fun kn _ ls st M => match st with
  | .int v :: .ref a :: st => cond (kk M a c) ((v = 0 ∨ v = 1) ∧ kn (pc + 3) ls st (wI M a k v)) False
  | _ => False
def oPL (pc c k : Nat) : OP := fun kn _ ls st M => match st with
  | .long v :: .ref a :: st => cond (kk M a c) (kn (pc + 3) ls st (wL M a k v)) False
  | _ => False
def oPR (pc c k : Nat) : OP := fun kn _ ls st M => match st with
  | .ref v :: .ref a :: st => cond (kk M a c && (Nat.blt 0 v && Nat.ble v (mN M))) (kn (pc + 3) ls st (wR M a k v)) False
  | _ => False
theorem ok_putI {c k idx : Nat} {Cn : String} {T : u_T} {N : Nat} (ty0 : Nat → FieldType) (hty : ∀ k, k < N → parseFieldDescriptor (T k).2.2.1 = some (ty0 k)) (hnmf : ∀ a, a < N → ∀ b, b < N → a ≠ b → (T a).2.1 ≠ (T b).2.1) (hc : vwCl[c]? = some (Cn, T, N)) (hin : ∀ w ∈ u_ws Cn T N, w ∈ wB) (h8 : c < 8 ∧ k < N ∧ k < (tf c).length ∧ (tf c).getD k 0 = 0) (hfin : (T k).2.2.2 = false) (hti : parseFieldDescriptor (T k).2.2.1 = some .int) (hw : Cond.fieldLink q.1.cls idx (T k).1 (T k).2.1 (T k).2.2.1 ∈ wB) (hd : decode q.2.1 pc = .ok (.putfield idx, 3)) : OK l X q d na b pc (oPI pc c k) := by
  intro kn kr ls st M hk h
  simp only [oPI] at h
  split at h
  · rename_i v a st
    obtain ⟨h0, h⟩ := condT h
    obtain ⟨a0, a1, a2⟩ := kk_of h0
    refine Wf.mem (M' := wI M a k v) rfl id (fun p e R s m args below meth c' H locs cells slots Q D g ad A la hx hb hown hts hK hnm hml g1 g2 hP hD hS kx => ?_) (hk _ _ _ _ h)
    rw [List.map_cons, List.map_cons, iv_ref a0]
    have he := wl_at (g := g) (ad := ad) a0 a1
    rw [en_o a2 h8.1] at he
    have hset := put_wl (g := g) (ad := ad) (M := M) (M' := wI M a k v) (k := k) rfl a0 a1 a2 h8.1 h8.2.2.1 h8.2.2.2 (fun b hb => ⟨funext fun j => wI_o (Or.inl hb), rfl, rfl⟩) (fun j hj => ⟨wI_o (Or.inr hj), rfl, rfl⟩)
    have hv : iv ad (sv (wI M a k v) a k 0) = iv ad (.int v) := by
      show iv ad (.int (mI (wI M a k v) a k)) = _
      rw [wI_s]
    rw [hv] at hset
    refine va_put hx hb hts hin ty0 hty hnmf hown hK hP hD hS (a - 1) he hc k h8.2.1 (hts _ hw) (fun _ z => z) hfin (ty := .int) hti rfl rfl (by unfold eo; simp; exact h8.2.2.1) hd (fun H1 locs1 p1 p2 p3 => ?_)
    rw [hset] at p1 p2
    exact kx H1 locs1 p1 p2 p3
  · exact h.elim
theorem ok_putZ {c k idx : Nat} {Cn : String} {T : u_T} {N : Nat} (ty0 : Nat → FieldType) (hty : ∀ k, k < N → parseFieldDescriptor (T k).2.2.1 = some (ty0 k)) (hnmf : ∀ a, a < N → ∀ b, b < N → a ≠ b → (T a).2.1 ≠ (T b).2.1) (hc : vwCl[c]? = some (Cn, T, N)) (hin : ∀ w ∈ u_ws Cn T N, w ∈ wB) (h8 : c < 8 ∧ k < N ∧ k < (tf c).length ∧ (tf c).getD k 0 = 0) (hfin : (T k).2.2.2 = false) (hti : parseFieldDescriptor (T k).2.2.1 = some .boolean) (hw : Cond.fieldLink q.1.cls idx (T k).1 (T k).2.1 (T k).2.2.1 ∈ wB) (hd : decode q.2.1 pc = .ok (.putfield idx, 3)) : OK l X q d na b pc (oPZ pc c k) := by
  intro kn kr ls st M hk h
  simp only [oPZ] at h
  split at h
  · rename_i v a st
    obtain ⟨h0, h⟩ := condT h
    obtain ⟨a0, a1, a2⟩ := kk_of h0
    refine Wf.mem (M' := wI M a k v) rfl id (fun p e R s m args below meth c' H locs cells slots Q D g ad A la hx hb hown hts hK hnm hml g1 g2 hP hD hS kx => ?_) (hk _ _ _ _ h.2)
    rw [List.map_cons, List.map_cons, iv_ref a0]
    have he := wl_at (g := g) (ad := ad) a0 a1
    rw [en_o a2 h8.1] at he
    have hset := put_wl (g := g) (ad := ad) (M := M) (M' := wI M a k v) (k := k) rfl a0 a1 a2 h8.1 h8.2.2.1 h8.2.2.2 (fun b hb => ⟨funext fun j => wI_o (Or.inl hb), rfl, rfl⟩) (fun j hj => ⟨wI_o (Or.inr hj), rfl, rfl⟩)
    have hv : iv ad (sv (wI M a k v) a k 0) = iv ad (.int v) := by
      show iv ad (.int (mI (wI M a k v) a k)) = _
      rw [wI_s]
    rw [hv] at hset
    refine va_put hx hb hts hin ty0 hty hnmf hown hK hP hD hS (a - 1) he hc k h8.2.1 (hts _ hw) (fun _ z => z) hfin (ty := .boolean) hti (by rcases h.1 with e | e <;> rw [e] <;> rfl) (by rcases h.1 with e | e <;> rw [e] <;> rfl) (by unfold eo; simp; exact h8.2.2.1) hd (fun H1 locs1 p1 p2 p3 => ?_)
    rw [hset] at p1 p2
    exact kx H1 locs1 p1 p2 p3
  · exact h.elim
theorem ok_putL {c k idx : Nat} {Cn : String} {T : u_T} {N : Nat} (ty0 : Nat → FieldType) (hty : ∀ k, k < N → parseFieldDescriptor (T k).2.2.1 = some (ty0 k)) (hnmf : ∀ a, a < N → ∀ b, b < N → a ≠ b → (T a).2.1 ≠ (T b).2.1) (hc : vwCl[c]? = some (Cn, T, N)) (hin : ∀ w ∈ u_ws Cn T N, w ∈ wB) (h8 : c < 8 ∧ k < N ∧ k < (tf c).length ∧ (tf c).getD k 0 = 1) (hfin : (T k).2.2.2 = false) (hti : parseFieldDescriptor (T k).2.2.1 = some .long) (hw : Cond.fieldLink q.1.cls idx (T k).1 (T k).2.1 (T k).2.2.1 ∈ wB) (hd : decode q.2.1 pc = .ok (.putfield idx, 3)) : OK l X q d na b pc (oPL pc c k) := by
  intro kn kr ls st M hk h
  simp only [oPL] at h
  split at h
  · rename_i v a st
    obtain ⟨h0, h⟩ := condT h
    obtain ⟨a0, a1, a2⟩ := kk_of h0
    refine Wf.mem (M' := wL M a k v) rfl id (fun p e R s m args below meth c' H locs cells slots Q D g ad A la hx hb hown hts hK hnm hml g1 g2 hP hD hS kx => ?_) (hk _ _ _ _ h)
    rw [List.map_cons, List.map_cons, iv_ref a0]
    have he := wl_at (g := g) (ad := ad) a0 a1
    rw [en_o a2 h8.1] at he
    have hset := put_wl (g := g) (ad := ad) (M := M) (M' := wL M a k v) (k := k) rfl a0 a1 a2 h8.1 h8.2.2.1 h8.2.2.2 (fun b hb => ⟨rfl, funext fun j => wL_o (Or.inl hb), rfl⟩) (fun j hj => ⟨rfl, wL_o (Or.inr hj), rfl⟩)
    have hv : iv ad (sv (wL M a k v) a k 1) = iv ad (.long v) := by
      show iv ad (.long (mL (wL M a k v) a k)) = _
      rw [wL_s]
    rw [hv] at hset
    refine va_put hx hb hts hin ty0 hty hnmf hown hK hP hD hS (a - 1) he hc k h8.2.1 (hts _ hw) (fun _ z => z) hfin (ty := .long) hti rfl rfl (by unfold eo; simp; exact h8.2.2.1) hd (fun H1 locs1 p1 p2 p3 => ?_)
    rw [hset] at p1 p2
    exact kx H1 locs1 p1 p2 p3
  · exact h.elim
theorem ok_putRO {Cf : String} {c k idx : Nat} {Cn : String} {T : u_T} {N : Nat} (ty0 : Nat → FieldType) (hty : ∀ k, k < N → parseFieldDescriptor (T k).2.2.1 = some (ty0 k)) (hnmf : ∀ a, a < N → ∀ b, b < N → a ≠ b → (T a).2.1 ≠ (T b).2.1) (hc : vwCl[c]? = some (Cn, T, N)) (hin : ∀ w ∈ u_ws Cn T N, w ∈ wB) (h8 : c < 8 ∧ k < N ∧ k < (tf c).length ∧ (tf c).getD k 0 = 2) (hfin : (T k).2.2.2 = false) (hti : parseFieldDescriptor (T k).2.2.1 = some (.object Cf)) (hw : Cond.fieldLink q.1.cls idx (T k).1 (T k).2.1 (T k).2.2.1 ∈ wB) (hd : decode q.2.1 pc = .ok (.putfield idx, 3)) : OK l X q d na b pc (oPR pc c k) := by
  intro kn kr ls st M hk h
  simp only [oPR] at h
  split at h
  · rename_i v a st
    obtain ⟨h0, h⟩ := condT h
    obtain ⟨h0, v1⟩ := Bool.and_eq_true_iff.mp h0
    obtain ⟨v0, v1⟩ := Bool.and_eq_true_iff.mp v1
    have v0 : 0 < v := Nat.le_of_ble_eq_true v0
    have v1 := Nat.le_of_ble_eq_true v1
    obtain ⟨a0, a1, a2⟩ := kk_of h0
    refine Wf.mem (M' := wR M a k v) rfl (fun z b j => by
      show (if b = a ∧ j = k then v else M.2.2.2 b j) ≤ mN M
      split
      · exact v1
      · exact z b j) (fun p e R s m args below meth c' H locs cells slots Q D g ad A la hx hb hown hts hK hnm hml g1 g2 hP hD hS kx => ?_) (hk _ _ _ _ h)
    rw [List.map_cons, List.map_cons, iv_ref a0, iv_ref v0]
    have he := wl_at (g := g) (ad := ad) a0 a1
    rw [en_o a2 h8.1] at he
    have hset := put_wl (g := g) (ad := ad) (M := M) (M' := wR M a k v) (k := k) rfl a0 a1 a2 h8.1 h8.2.2.1 h8.2.2.2 (fun b hb => ⟨rfl, rfl, funext fun j => wR_o (Or.inl hb)⟩) (fun j hj => ⟨rfl, rfl, wR_o (Or.inr hj)⟩)
    have hv : iv ad (sv (wR M a k v) a k 2) = .ref (ad v) := by
      show iv ad (.ref (mR (wR M a k v) a k)) = _
      rw [wR_s]; exact iv_ref v0
    rw [hv] at hset
    refine va_put hx hb hts hin ty0 hty hnmf hown hK hP hD hS (a - 1) he hc k h8.2.1 (hts _ hw) (fun _ z => z) hfin (ty := .object Cf) hti rfl rfl (by unfold eo; simp; exact h8.2.2.1) hd (fun H1 locs1 p1 p2 p3 => ?_)
    rw [hset] at p1 p2
    exact kx H1 locs1 p1 p2 p3
  · exact h.elim
theorem ok_putRA {tf0 : FieldType} {c k idx : Nat} {Cn : String} {T : u_T} {N : Nat} (ty0 : Nat → FieldType) (hty : ∀ k, k < N → parseFieldDescriptor (T k).2.2.1 = some (ty0 k)) (hnmf : ∀ a, a < N → ∀ b, b < N → a ≠ b → (T a).2.1 ≠ (T b).2.1) (hc : vwCl[c]? = some (Cn, T, N)) (hin : ∀ w ∈ u_ws Cn T N, w ∈ wB) (h8 : c < 8 ∧ k < N ∧ k < (tf c).length ∧ (tf c).getD k 0 = 2) (hfin : (T k).2.2.2 = false) (hti : parseFieldDescriptor (T k).2.2.1 = some (.array tf0)) (hw : Cond.fieldLink q.1.cls idx (T k).1 (T k).2.1 (T k).2.2.1 ∈ wB) (hd : decode q.2.1 pc = .ok (.putfield idx, 3)) : OK l X q d na b pc (oPR pc c k) := by
  intro kn kr ls st M hk h
  simp only [oPR] at h
  split at h
  · rename_i v a st
    obtain ⟨h0, h⟩ := condT h
    obtain ⟨h0, v1⟩ := Bool.and_eq_true_iff.mp h0
    obtain ⟨v0, v1⟩ := Bool.and_eq_true_iff.mp v1
    have v0 : 0 < v := Nat.le_of_ble_eq_true v0
    have v1 := Nat.le_of_ble_eq_true v1
    obtain ⟨a0, a1, a2⟩ := kk_of h0
    refine Wf.mem (M' := wR M a k v) rfl (fun z b j => by
      show (if b = a ∧ j = k then v else M.2.2.2 b j) ≤ mN M
      split
      · exact v1
      · exact z b j) (fun p e R s m args below meth c' H locs cells slots Q D g ad A la hx hb hown hts hK hnm hml g1 g2 hP hD hS kx => ?_) (hk _ _ _ _ h)
    rw [List.map_cons, List.map_cons, iv_ref a0, iv_ref v0]
    have he := wl_at (g := g) (ad := ad) a0 a1
    rw [en_o a2 h8.1] at he
    have hset := put_wl (g := g) (ad := ad) (M := M) (M' := wR M a k v) (k := k) rfl a0 a1 a2 h8.1 h8.2.2.1 h8.2.2.2 (fun b hb => ⟨rfl, rfl, funext fun j => wR_o (Or.inl hb)⟩) (fun j hj => ⟨rfl, rfl, wR_o (Or.inr hj)⟩)
    have hv : iv ad (sv (wR M a k v) a k 2) = .ref (ad v) := by
      show iv ad (.ref (mR (wR M a k v) a k)) = _
      rw [wR_s]; exact iv_ref v0
    rw [hv] at hset
    refine va_put hx hb hts hin ty0 hty hnmf hown hK hP hD hS (a - 1) he hc k h8.2.1 (hts _ hw) (fun _ z => z) hfin (ty := .array tf0) hti rfl rfl (by unfold eo; simp; exact h8.2.2.1) hd (fun H1 locs1 p1 p2 p3 => ?_)
    rw [hset] at p1 p2
    exact kx H1 locs1 p1 p2 p3
  · exact h.elim
theorem ok_putRFO {Cf : String} {c k idx : Nat} {Cn : String} {T : u_T} {N : Nat} (ty0 : Nat → FieldType) (hty : ∀ k, k < N → parseFieldDescriptor (T k).2.2.1 = some (ty0 k)) (hnmf : ∀ a, a < N → ∀ b, b < N → a ≠ b → (T a).2.1 ≠ (T b).2.1) (hc : vwCl[c]? = some (Cn, T, N)) (hin : ∀ w ∈ u_ws Cn T N, w ∈ wB) (h8 : c < 8 ∧ k < N ∧ k < (tf c).length ∧ (tf c).getD k 0 = 2) (hfin : (T k).2.2.2 = true) (hini : q.1.name = "<init>") (hdecl : (T k).1 = q.1.cls) (hti : parseFieldDescriptor (T k).2.2.1 = some (.object Cf)) (hw : Cond.fieldLink q.1.cls idx (T k).1 (T k).2.1 (T k).2.2.1 ∈ wB) (hd : decode q.2.1 pc = .ok (.putfield idx, 3)) : OK l X q d na b pc (oPR pc c k) := by
  intro kn kr ls st M hk h
  simp only [oPR] at h
  split at h
  · rename_i v a st
    obtain ⟨h0, h⟩ := condT h
    obtain ⟨h0, v1⟩ := Bool.and_eq_true_iff.mp h0
    obtain ⟨v0, v1⟩ := Bool.and_eq_true_iff.mp v1
    have v0 : 0 < v := Nat.le_of_ble_eq_true v0
    have v1 := Nat.le_of_ble_eq_true v1
    obtain ⟨a0, a1, a2⟩ := kk_of h0
    refine Wf.mem (M' := wR M a k v) rfl (fun z b j => by
      show (if b = a ∧ j = k then v else M.2.2.2 b j) ≤ mN M
      split
      · exact v1
      · exact z b j) (fun p e R s m args below meth c' H locs cells slots Q D g ad A la hx hb hown hts hK hnm hml g1 g2 hP hD hS kx => ?_) (hk _ _ _ _ h)
    rw [List.map_cons, List.map_cons, iv_ref a0, iv_ref v0]
    have he := wl_at (g := g) (ad := ad) a0 a1
    rw [en_o a2 h8.1] at he
    have hset := put_wl (g := g) (ad := ad) (M := M) (M' := wR M a k v) (k := k) rfl a0 a1 a2 h8.1 h8.2.2.1 h8.2.2.2 (fun b hb => ⟨rfl, rfl, funext fun j => wR_o (Or.inl hb)⟩) (fun j hj => ⟨rfl, rfl, wR_o (Or.inr hj)⟩)
    have hv : iv ad (sv (wR M a k v) a k 2) = .ref (ad v) := by
      show iv ad (.ref (mR (wR M a k v) a k)) = _
      rw [wR_s]; exact iv_ref v0
    rw [hv] at hset
    refine va_putF hx hb hts hin ty0 hty hnmf hown hK hP hD hS (a - 1) he hc k h8.2.1 (hts _ hw) (fun _ z => z) hfin (hnm.trans hini) hdecl (ty := .object Cf) hti rfl rfl (by unfold eo; simp; exact h8.2.2.1) hd (fun H1 locs1 p1 p2 p3 => ?_)
    rw [hset] at p1 p2
    exact kx H1 locs1 p1 p2 p3
  · exact h.elim
theorem ok_putRFA {tf0 : FieldType} {c k idx : Nat} {Cn : String} {T : u_T} {N : Nat} (ty0 : Nat → FieldType) (hty : ∀ k, k < N → parseFieldDescriptor (T k).2.2.1 = some (ty0 k)) (hnmf : ∀ a, a < N → ∀ b, b < N → a ≠ b → (T a).2.1 ≠ (T b).2.1) (hc : vwCl[c]? = some (Cn, T, N)) (hin : ∀ w ∈ u_ws Cn T N, w ∈ wB) (h8 : c < 8 ∧ k < N ∧ k < (tf c).length ∧ (tf c).getD k 0 = 2) (hfin : (T k).2.2.2 = true) (hini : q.1.name = "<init>") (hdecl : (T k).1 = q.1.cls) (hti : parseFieldDescriptor (T k).2.2.1 = some (.array tf0)) (hw : Cond.fieldLink q.1.cls idx (T k).1 (T k).2.1 (T k).2.2.1 ∈ wB) (hd : decode q.2.1 pc = .ok (.putfield idx, 3)) : OK l X q d na b pc (oPR pc c k) := by
  intro kn kr ls st M hk h
  simp only [oPR] at h
  split at h
  · rename_i v a st
    obtain ⟨h0, h⟩ := condT h
    obtain ⟨h0, v1⟩ := Bool.and_eq_true_iff.mp h0
    obtain ⟨v0, v1⟩ := Bool.and_eq_true_iff.mp v1
    have v0 : 0 < v := Nat.le_of_ble_eq_true v0
    have v1 := Nat.le_of_ble_eq_true v1
    obtain ⟨a0, a1, a2⟩ := kk_of h0
    refine Wf.mem (M' := wR M a k v) rfl (fun z b j => by
      show (if b = a ∧ j = k then v else M.2.2.2 b j) ≤ mN M
      split
      · exact v1
      · exact z b j) (fun p e R s m args below meth c' H locs cells slots Q D g ad A la hx hb hown hts hK hnm hml g1 g2 hP hD hS kx => ?_) (hk _ _ _ _ h)
    rw [List.map_cons, List.map_cons, iv_ref a0, iv_ref v0]
    have he := wl_at (g := g) (ad := ad) a0 a1
    rw [en_o a2 h8.1] at he
    have hset := put_wl (g := g) (ad := ad) (M := M) (M' := wR M a k v) (k := k) rfl a0 a1 a2 h8.1 h8.2.2.1 h8.2.2.2 (fun b hb => ⟨rfl, rfl, funext fun j => wR_o (Or.inl hb)⟩) (fun j hj => ⟨rfl, rfl, wR_o (Or.inr hj)⟩)
    have hv : iv ad (sv (wR M a k v) a k 2) = .ref (ad v) := by
      show iv ad (.ref (mR (wR M a k v) a k)) = _
      rw [wR_s]; exact iv_ref v0
    rw [hv] at hset
    refine va_putF hx hb hts hin ty0 hty hnmf hown hK hP hD hS (a - 1) he hc k h8.2.1 (hts _ hw) (fun _ z => z) hfin (hnm.trans hini) hdecl (ty := .array tf0) hti rfl rfl (by unfold eo; simp; exact h8.2.2.1) hd (fun H1 locs1 p1 p2 p3 => ?_)
    rw [hset] at p1 p2
    exact kx H1 locs1 p1 p2 p3
  · exact h.elim
/-! arrays -/
def oIal (pc : Nat) : OP := fun kn _ ls st M => match st with
  | .int i :: .ref a :: st => cond (kk M a 9) (vp_in i (mK M a).2 ∧ kn (pc + 1) ls (.int (mI M a i.toNatClampNeg) :: st) M) False
  | _ => False
def oBal (pc : Nat) : OP := fun kn _ ls st M => match st with
  | .int i :: .ref a :: st => cond (kk M a 8) (vp_in i (mK M a).2 ∧ kn (pc + 1) ls (.int (mI M a i.toNatClampNeg) :: st) M) False
  | _ => False
def oLal (pc : Nat) : OP := fun kn _ ls st M => match st with
  | .int i :: .ref a :: st => cond (kk M a 10) (vp_in i (mK M a).2 ∧ kn (pc + 1) ls (.long (mL M a i.toNatClampNeg) :: st) M) False
  | _ => False
def oAal (pc c : Nat) : OP := fun kn _ ls st M => match st with
  | .int i :: .ref a :: st => cond (kk M a c) (vp_in i (mK M a).2 ∧ kn (pc + 1) ls (.ref (mR M a i.toNatClampNeg) :: st) M) False
  | _ => False
theorem ok_iaload (hd : decode q.2.1 pc = .ok (.iaload, 1)) : OK l X q d na b pc (oIal pc) := by
  intro kn kr ls st M hk h
  simp only [oIal] at h
  split at h
  · rename_i i a st
    obtain ⟨h0, h1, h⟩ := condT h
    obtain ⟨a0, a1, a2⟩ := kk_of h0
    refine Wf.mem rfl id (fun p e R s m args below meth c' H locs cells slots Q D g ad A la hx hb hown hts hK hnm hml g1 g2 hP hD hS kx => ?_) (hk _ _ _ _ h)
    rw [List.map_cons, List.map_cons, iv_ref a0]
    have he := wl_at (g := g) (ad := ad) a0 a1
    rw [en_i a2] at he
    exact va_iald hx hb hK hP (a - 1) 1 he rfl h1 hd (kx H locs hP hD hS)
  · exact h.elim
theorem ok_baload (hd : decode q.2.1 pc = .ok (.baload, 1)) : OK l X q d na b pc (oBal pc) := by
  intro kn kr ls st M hk h
  simp only [oBal] at h
  split at h
  · rename_i i a st
    obtain ⟨h0, h1, h⟩ := condT h
    obtain ⟨a0, a1, a2⟩ := kk_of h0
    refine Wf.mem rfl id (fun p e R s m args below meth c' H locs cells slots Q D g ad A la hx hb hown hts hK hnm hml g1 g2 hP hD hS kx => ?_) (hk _ _ _ _ h)
    rw [List.map_cons, List.map_cons, iv_ref a0]
    have he := wl_at (g := g) (ad := ad) a0 a1
    rw [en_b a2] at he
    exact va_bald hx hb hK hP (a - 1) 0 he rfl h1 hd (kx H locs hP hD hS)
  · exact h.elim
theorem ok_laload (hd : decode q.2.1 pc = .ok (.laload, 1)) : OK l X q d na b pc (oLal pc) := by
  intro kn kr ls st M hk h
  simp only [oLal] at h
  split at h
  · rename_i i a st
    obtain ⟨h0, h1, h⟩ := condT h
    obtain ⟨a0, a1, a2⟩ := kk_of h0
    refine Wf.mem rfl id (fun p e R s m args below meth c' H locs cells slots Q D g ad A la hx hb hown hts hK hnm hml g1 g2 hP hD hS kx => ?_) (hk _ _ _ _ h)
    rw [List.map_cons, List.map_cons, iv_ref a0]
    have he := wl_at (g := g) (ad := ad) a0 a1
    rw [en_j a2] at he
    exact va_lald hx hb hK hP (a - 1) 2 he rfl h1 hd (kx H locs hP hD hS)
  · exact h.elim
theorem ok_aaloadM (hd : decode q.2.1 pc = .ok (.aaload, 1)) : OK l X q d na b pc (oAal pc 11) := by
  intro kn kr ls st M hk h
  simp only [oAal] at h
  split at h
  · rename_i i a st
    obtain ⟨h0, h1, h⟩ := condT h
    obtain ⟨a0, a1, a2⟩ := kk_of h0
    refine Wf.mem rfl id (fun p e R s m args below meth c' H locs cells slots Q D g ad A la hx hb hown hts hK hnm hml g1 g2 hP hD hS kx => ?_) (hk _ _ _ _ h)
    rw [List.map_cons, List.map_cons, iv_ref a0]
    have he := wl_at (g := g) (ad := ad) a0 a1
    rw [en_q a2 (by decide)] at he
    have hlt : i.toNatClampNeg < (mK M a).2 := Nat.not_le.mp fun z => h1 (Or.inr z)
    have kx := kx H locs hP hD hS
    rw [List.map_cons, ← er_rf] at kx
    exact W.aald (v := va_rf (er ad M a i.toNatClampNeg)) (ty := .object RX2) hx hb (hP (a - 1) _ he) ((hK.2 3 _ rfl).1 (mK M a).2 (fun j => va_rf (er ad M a j))) rfl (fun z => by cases z) (by show ¬ (i < 0 ∨ (arrV _ _ _).slots.size ≤ _); rw [arrV_size]; exact h1) (by show (arrV _ _ _).slots[_]? = _; rw [arrV_read _ _ hlt]) rfl rfl hd kx
  · exact h.elim
theorem ok_aaloadI (hd : decode q.2.1 pc = .ok (.aaload, 1)) : OK l X q d na b pc (oAal pc 12) := by
  intro kn kr ls st M hk h
  simp only [oAal] at h
  split at h
  · rename_i i a st
    obtain ⟨h0, h1, h⟩ := condT h
    obtain ⟨a0, a1, a2⟩ := kk_of h0
    refine Wf.mem rfl id (fun p e R s m args below meth c' H locs cells slots Q D g ad A la hx hb hown hts hK hnm hml g1 g2 hP hD hS kx => ?_) (hk _ _ _ _ h)
    rw [List.map_cons, List.map_cons, iv_ref a0]
    have he := wl_at (g := g) (ad := ad) a0 a1
    rw [en_q a2 (by decide)] at he
    have hlt : i.toNatClampNeg < (mK M a).2 := Nat.not_le.mp fun z => h1 (Or.inr z)
    have kx := kx H locs hP hD hS
    rw [List.map_cons, ← er_rf] at kx
    exact W.aald (v := va_rf (er ad M a i.toNatClampNeg)) (ty := .array .int) hx hb (hP (a - 1) _ he) ((hK.2 4 _ rfl).1 (mK M a).2 (fun j => va_rf (er ad M a j))) rfl (fun z => by cases z) (by show ¬ (i < 0 ∨ (arrV _ _ _).slots.size ≤ _); rw [arrV_size]; exact h1) (by show (arrV _ _ _).slots[_]? = _; rw [arrV_read _ _ hlt]) rfl rfl hd kx
  · exact h.elim
/-- an array's new place: the world of the new memory -/
theorem ast_wl {g : Nat → ClassId} {ad : Nat → Nat} {M M' : Mm} {a : Nat} {e : va_E} (h1 : M'.1 = M.1) (a0 : 0 < a) (a1 : a ≤ mN M) (ho : ∀ b, b ≠ a → mI M' b = mI M b ∧ mL M' b = mL M b ∧ mR M' b = mR M b) (he : en g ad M' a = e) : (wl g ad M).set (a - 1) (ad a, e) = wl g ad M' := by
  have hK : ∀ b, mK M' b = mK M b := fun b => congrFun (congrArg (fun x => x.2.2.2) h1) b
  rw [← he]
  exact wl_set a0 a1 (congrArg (fun x => x.1) h1) (fun b hb => en_same (hK b) (ho b hb).1 (ho b hb).2.1 (ho b hb).2.2)
theorem wI_upd {M : Mm} {a i : Nat} {v : Int32} : mI (wI M a i v) a = upd (mI M a) i v := by
  funext j
  show (if a = a ∧ j = i then v else M.2.1 a j) = if j = i then v else M.2.1 a j
  by_cases hj : j = i
  · rw [if_pos ⟨rfl, hj⟩, if_pos hj]
  · rw [if_neg (fun z => hj z.2), if_neg hj]
theorem wL_upd {M : Mm} {a i : Nat} {v : Int64} : mL (wL M a i v) a = vp_updL (mL M a) i v := by
  funext j
  show (if a = a ∧ j = i then v else M.2.2.1 a j) = if j = i then v else M.2.2.1 a j
  by_cases hj : j = i
  · rw [if_pos ⟨rfl, hj⟩, if_pos hj]
  · rw [if_neg (fun z => hj z.2), if_neg hj]
def oIas (pc : Nat) : OP := fun kn _ ls st M => match st with
  | .int v :: .int i :: .ref a :: st => cond (kk M a 9) (vp_in i (mK M a).2 ∧ kn (pc + 1) ls st (wI M a i.toNatClampNeg v)) False
  | _ => False
def oBas (pc : Nat) : OP := fun kn _ ls st M => match st with
  | .int v :: .int i :: .ref a :: st => cond (kk M a 8) (vp_in i (mK M a).2 ∧ kn (pc + 1) ls st (wI M a i.toNatClampNeg v.toInt8.toInt32)) False
  | _ => False
def oLas (pc : Nat) : OP := fun kn _ ls st M => match st with
  | .long v :: .int i :: .ref a :: st => cond (kk M a 10) (vp_in i (mK M a).2 ∧ kn (pc + 1) ls st (wL M a i.toNatClampNeg v)) False
  | _ => False
def oAas (pc : Nat) : OP := fun kn _ ls st M => match st with
  | .ref v :: .int i :: .ref a :: st => cond (kk M a 11 && kk M v 2) (vp_in i (mK M a).2 ∧ kn (pc + 1) ls st (wR M a i.toNatClampNeg v)) False
  | _ => False
theorem ok_iastore (hd : decode q.2.1 pc = .ok (.iastore, 1)) : OK l X q d na b pc (oIas pc) := by
  intro kn kr ls st M hk h
  simp only [oIas] at h
  split at h
  · rename_i v i a st
    obtain ⟨h0, h1, h⟩ := condT h
    obtain ⟨a0, a1, a2⟩ := kk_of h0
    refine Wf.mem (M' := wI M a i.toNatClampNeg v) rfl id (fun p e R s m args below meth c' H locs cells slots Q D g ad A la hx hb hown hts hK hnm hml g1 g2 hP hD hS kx => ?_) (hk _ _ _ _ h)
    rw [List.map_cons, List.map_cons, List.map_cons, iv_ref a0]
    have he := wl_at (g := g) (ad := ad) a0 a1
    rw [en_i a2] at he
    refine va_iast hx hb hK hP hD hS (a - 1) 1 he rfl h1 hd (fun H1 locs1 p1 p2 p3 => ?_)
    have hset := ast_wl (g := g) (ad := ad) (M := M) (M' := wI M a i.toNatClampNeg v) (e := .inl (g 9, (mK M a).2, .inl (upd (mI M a) i.toNatClampNeg v))) rfl a0 a1 (fun b hb => ⟨funext fun j => wI_o (Or.inl hb), rfl, rfl⟩) (by rw [en_i (M := wI M a i.toNatClampNeg v) a2, wI_upd]; rfl)
    rw [hset] at p1 p2
    exact kx H1 locs1 p1 p2 p3
  · exact h.elim
theorem ok_bastore (hd : decode q.2.1 pc = .ok (.bastore, 1)) : OK l X q d na b pc (oBas pc) := by
  intro kn kr ls st M hk h
  simp only [oBas] at h
  split at h
  · rename_i v i a st
    obtain ⟨h0, h1, h⟩ := condT h
    obtain ⟨a0, a1, a2⟩ := kk_of h0
    refine Wf.mem (M' := wI M a i.toNatClampNeg v.toInt8.toInt32) rfl id (fun p e R s m args below meth c' H locs cells slots Q D g ad A la hx hb hown hts hK hnm hml g1 g2 hP hD hS kx => ?_) (hk _ _ _ _ h)
    rw [List.map_cons, List.map_cons, List.map_cons, iv_ref a0]
    have he := wl_at (g := g) (ad := ad) a0 a1
    rw [en_b a2] at he
    refine va_bast hx hb hK hP hD hS (a - 1) 0 he rfl h1 hd (fun H1 locs1 p1 p2 p3 => ?_)
    have hset := ast_wl (g := g) (ad := ad) (M := M) (M' := wI M a i.toNatClampNeg v.toInt8.toInt32) (e := .inl (g 8, (mK M a).2, .inl (upd (mI M a) i.toNatClampNeg (vp_nar .byte v)))) rfl a0 a1 (fun b hb => ⟨funext fun j => wI_o (Or.inl hb), rfl, rfl⟩) (by rw [en_b (M := wI M a i.toNatClampNeg v.toInt8.toInt32) a2, wI_upd]; rfl)
    rw [hset] at p1 p2
    exact kx H1 locs1 p1 p2 p3
  · exact h.elim
theorem ok_lastore (hd : decode q.2.1 pc = .ok (.lastore, 1)) : OK l X q d na b pc (oLas pc) := by
  intro kn kr ls st M hk h
  simp only [oLas] at h
  split at h
  · rename_i v i a st
    obtain ⟨h0, h1, h⟩ := condT h
    obtain ⟨a0, a1, a2⟩ := kk_of h0
    refine Wf.mem (M' := wL M a i.toNatClampNeg v) rfl id (fun p e R s m args below meth c' H locs cells slots Q D g ad A la hx hb hown hts hK hnm hml g1 g2 hP hD hS kx => ?_) (hk _ _ _ _ h)
    rw [List.map_cons, List.map_cons, List.map_cons, iv_ref a0]
    have he := wl_at (g := g) (ad := ad) a0 a1
    rw [en_j a2] at he
    refine va_last hx hb hK hP hD hS (a - 1) 2 he rfl h1 hd (fun H1 locs1 p1 p2 p3 => ?_)
    have hset := ast_wl (g := g) (ad := ad) (M := M) (M' := wL M a i.toNatClampNeg v) (e := .inl (g 10, (mK M a).2, .inr (.inl (vp_updL (mL M a) i.toNatClampNeg v)))) rfl a0 a1 (fun b hb => ⟨rfl, funext fun j => wL_o (Or.inl hb), rfl⟩) (by rw [en_j (M := wL M a i.toNatClampNeg v) a2, wL_upd]; rfl)
    rw [hset] at p1 p2
    exact kx H1 locs1 p1 p2 p3
  · exact h.elim
theorem ok_aastore (hd : decode q.2.1 pc = .ok (.aastore, 1)) : OK l X q d na b pc (oAas pc) := by
  intro kn kr ls st M hk h
  simp only [oAas] at h
  split at h
  · rename_i v i a st
    obtain ⟨h0, h1, h⟩ := condT h
    obtain ⟨h0, hv⟩ := Bool.and_eq_true_iff.mp h0
    obtain ⟨a0, a1, a2⟩ := kk_of h0
    obtain ⟨v0, v1, v2⟩ := kk_of hv
    refine Wf.mem (M' := wR M a i.toNatClampNeg v) rfl (fun z b j => by
      show (if b = a ∧ j = i.toNatClampNeg then v else M.2.2.2 b j) ≤ mN M
      split
      · exact v1
      · exact z b j) (fun p e R s m args below meth c' H locs cells slots Q D g ad A la hx hb hown hts hK hnm hml g1 g2 hP hD hS kx => ?_) (hk _ _ _ _ h)
    rw [List.map_cons, List.map_cons, List.map_cons, iv_ref a0, iv_ref v0]
    have he := wl_at (g := g) (ad := ad) a0 a1
    rw [en_q a2 (by decide)] at he
    have hev := wl_at (g := g) (ad := ad) v0 v1
    rw [en_o v2 (by decide)] at hev
    refine va_astq (r := (RX2, TX2, 6)) hx hb hK hP hD hS (a - 1) 3 (v - 1) 2 he rfl hev rfl h1 hd (fun H1 locs1 p1 p2 p3 => ?_)
    have hset := ast_wl (g := g) (ad := ad) (M := M) (M' := wR M a i.toNatClampNeg v) (e := .inl (g 11, (mK M a).2, .inr (.inr (.inr (.inr (va_up (er ad M a) i.toNatClampNeg (some (ad v)))))))) rfl a0 a1 (fun b hb => ⟨rfl, rfl, funext fun j => wR_o (Or.inl hb)⟩) ?_
    · rw [hset] at p1 p2
      exact kx H1 locs1 p1 p2 p3
    · rw [en_q (M := wR M a i.toNatClampNeg v) a2 (by decide)]
      have e2 : er ad (wR M a i.toNatClampNeg v) a = va_up (er ad M a) i.toNatClampNeg (some (ad v)) := by
        funext j
        unfold er va_up
        by_cases hj : j = i.toNatClampNeg
        · rw [if_pos hj, hj, wR_s]
          cases v with
          | zero => exact absurd v0 (Nat.lt_irrefl 0)
          | succ n => rfl
        · rw [if_neg hj, wR_o (Or.inr hj)]
      rw [e2]
      rfl
  · exact h.elim
/-! the script -/
def oScd (X : Nat × (Nat → Int32)) (pc : Nat) : OP := fun kn _ ls st M => match st with
  | .int i :: .ref 4999 :: st => vp_in i X.1 ∧ kn (pc + 1) ls (.int (X.2 i.toNatClampNeg) :: st) M
  | _ => False
def oScl (X : Nat × (Nat → Int32)) (pc : Nat) : OP := fun kn _ ls st M => match st with
  | .ref 4999 :: st => kn (pc + 1) ls (.int (Int32.ofNat X.1) :: st) M
  | _ => False
theorem ok_scd (hd : decode q.2.1 pc = .ok (.iaload, 1)) : OK l X q d na b pc (oScd X pc) := by
  intro kn kr ls st M hk h
  simp only [oScd] at h
  split at h
  · intro p e R s m args below meth c Q D g ad0 A n0 S0 c0 s0 ad H locs la hf g1 g2 g3 g4 g5 g6 g7 g8 hr hl hk2
    obtain ⟨k1, k2, k3⟩ := hf.2.2.2.2.2.2.2.2.2.2.2.2.2.2.2
    have ea : ad 4999 = ad0 4999 := hr.2.2.2.2.2.2.1 4999 (Or.inr (Nat.le_refl _))
    rw [List.map_cons, List.map_cons, iv_ref (by decide), ea]
    exact va_sld hf.1 hf.2.1 k1 k2 k3 hr.2.2.1 h.1 hd (hk _ _ _ _ h.2 p e R s m args below meth c Q D g ad0 A n0 S0 c0 s0 ad H locs la hf g1 g2 g3 g4 g5 g6 g7 g8 hr hl hk2)
  · exact h.elim
theorem ok_scl (hd : decode q.2.1 pc = .ok (.arraylength, 1)) : OK l X q d na b pc (oScl X pc) := by
  intro kn kr ls st M hk h
  simp only [oScl] at h
  split at h
  · intro p e R s m args below meth c Q D g ad0 A n0 S0 c0 s0 ad H locs la hf g1 g2 g3 g4 g5 g6 g7 g8 hr hl hk2
    obtain ⟨k1, k2, k3⟩ := hf.2.2.2.2.2.2.2.2.2.2.2.2.2.2.2
    have ea : ad 4999 = ad0 4999 := hr.2.2.2.2.2.2.1 4999 (Or.inr (Nat.le_refl _))
    rw [List.map_cons, iv_ref (by decide), ea]
    exact va_slen hf.1 hf.2.1 k1 k2 k3 hr.2.2.1 hd (hk _ _ _ _ h p e R s m args below meth c Q D g ad0 A n0 S0 c0 s0 ad H locs la hf g1 g2 g3 g4 g5 g6 g7 g8 hr hl hk2)
  · exact h.elim
end MEM
end
section
section CALLS
variable {l : Launch} {X : Nat × (Nat → Int32)} {q : Md} {d : Nat} {na : Bool} {b : Nat × Nat} {pc : Nat}
def pn : Nat → List Value → List Value → Option (List Value × List Value)
  | 0, st, acc => some (acc, st)
  | n + 1, st, acc => match st with
    | [] => none
    | v :: t => pn n t (v :: acc)
theorem pn_of : ∀ {n : Nat} {st acc av rest : List Value}, pn n st acc = some (av, rest) → ∃ as : List Value, av = as ++ acc ∧ as.length = n ∧ st = as.reverse ++ rest
  | 0, st, acc, av, rest, h => by
    cases h
    exact ⟨[], rfl, rfl, rfl⟩
  | n + 1, [], acc, av, rest, h => by cases h
  | n + 1, v :: t, acc, av, rest, h => by
    obtain ⟨as, h1, h2, h3⟩ := pn_of (n := n) (st := t) (acc := v :: acc) h
    refine ⟨as ++ [v], ?_, ?_, ?_⟩
    · rw [h1]; simp
    · simp [h2]
    · rw [h3]; simp
theorem pn_0 {n : Nat} {st av rest : List Value} (h : pn n st [] = some (av, rest)) : av.length = n ∧ st = av.reverse ++ rest := by
  obtain ⟨as, h1, h2, h3⟩ := pn_of h
  rw [List.append_nil] at h1
  subst h1
  exact ⟨h2, h3⟩
def cs : List Value → Nat
  | [] => 0
  | v :: t => v.category + cs t
theorem cs_of (ad : Nat → Nat) : ∀ st : List Value, ((st.map (iv ad)).map fun v => v.category).sum = cs st
  | [] => rfl
  | v :: t => by
    rw [List.map_cons, List.map_cons, List.sum_cons, cs_of ad t, iv_cat]
    rfl
theorem wB_good {q' : Md} (h : Cond.code q'.1 q'.2.1 q'.2.2.1 q'.2.2.2 ∈ wB) : GoodIn wB (wz q') := by
  have hb : ∀ w ∈ wB, w ∈ wB ∧ ((w.onTables && w.keeps) = true ∨ ∃ ty, w = .arrayClass ty) := fun w hw => ⟨hw, good_of_word (List.mem_filter.mp hw).2⟩
  intro w hw
  rcases List.mem_cons.mp hw with e | hw
  · rw [e]; exact hb _ h
  · exact hb w hw
theorem pz_pre {D : va_G} {g : Nat → ClassId} {ad : Nat → Nat} {A : Nat → Prop} {av : List Value} {M : Mm} {s : State} {H : Heap} (hP : va_P D vwCl (wl g ad M) H) (hD : va_D A (wl g ad M)) (hA : ∀ a, H.size ≤ a → A a) (hk : kO M) (hn : mN M ≤ 4000) (hs : sx D g ad X A s H) :
    FrameBlind (pz D g ad X A av M) ∧ ∀ U : State, U.heap = H → s.WarmedH U.vm → pz D g ad X A av M (av.map (iv ad)).toArray U := by
  refine ⟨fun a U g' mk z => ?_, fun U hU hW => ⟨rfl, by rw [hU]; exact hP, hD, by rw [hU]; exact hA, hk, hn, by rw [hU]; exact sx_warm hW hs⟩⟩
  obtain ⟨z1, z2, z3, z4, z5, z6, z7⟩ := z
  exact ⟨z1, z2, z3, z4, z5, z6, sx_same rfl z7⟩
/-- a call that makes nothing -/
theorem Wf.call {kr kr' : KR} {ls : Ls} {st rest : List Value} {M : Mm} (hk : ∀ r M', kr' r M' → Wf l X q (d + 1) na b (pc + 3) ls (r.toList ++ rest) M' kr)
    (h : ∀ (p : Program) (e : Env) (R : Room) (s : State) (m : MethodId) (args : Array Value) (below : List Frame) (meth : Method) (c : Code) (H : Heap) (locs : List Loc) (cells slots : Nat) (D : va_G) (g : Nat → ClassId) (ad : Nat → Nat) (A : Nat → Prop) (la : Array Slot), p.tables.exec = Jvm.exec → c.code = q.2.1 → c.maxLocals = q.2.2.1 → la.size = q.2.2.1 → s.vm.findClass q.1.cls = some m.cls → (∀ w ∈ wB, w.before args s = true) → d + 1 ≤ R.frames → 64 * (d + 1) ≤ R.locals → cells + 0 ≤ R.cells ∧ slots + 0 ≤ R.slots → va_K D vwCl (tz g) s → (∀ x ∈ wN, va_Nw (.methodLinkNest x.1 x.2.1 x.2.2 RX6) s) → ks ad A s H → va_P D vwCl (wl g ad M) H → (∀ av, FrameBlind (pz D g ad X A av M) ∧ ∀ U : State, U.heap = H → s.WarmedH U.vm → pz D g ad X A av M (av.map (iv ad)).toArray U) →
      ∃ a0 : Array Value, va_Run p l e R s m args below meth c H locs cells slots 0 0 (F0 m pc la (st.map (iv ad))) (rest.map (iv ad)) (qz D g ad A true M kr' a0) A) :
    Wf l X q (d + 1) na b pc ls st M kr := by
  intro p e R s m args below meth c Q D g ad0 A n0 S0 c0 s0 ad H locs la hf g1 g2 g3 g4 g5 g6 g7 g8 hr hl hk2
  obtain ⟨r1, r2, r3, r4, r5, r6, r7, r8⟩ := hr
  have hs := sx_kept (sx_ad (ad' := ad) (fun n hn => r7 n (Or.inr hn)) hf.2.2.2.2.2.2.2.2.2) r3.1 r3.2.1
  have hA := hf.2.2.2.2.2.2.2.2.1
  obtain ⟨a0, hrun⟩ := h p e R s m args below meth c H locs (mC M - c0) (mS M - s0) D g ad A la hf.1 hf.2.1 hf.2.2.1 hl.1 hf.2.2.2.2.2.1 hf.2.2.2.2.2.2.2.1 g1 g2 (by omega) hs.1 hs.2.1 hs.2.2.2.1 r1 (fun av => pz_pre r1 r2 (fun a ha => hA a (Nat.le_trans r3.1 ha)) r4 r6 hs)
  intro T hT Xs
  obtain ⟨v, st₀, t, T', L, h0, X', hL, e1, e2, hq, stp⟩ := hrun T hT Xs
  obtain ⟨r, M', ad', o1, o2, o3, o4, o5, o6, o7, o8, o9, o10⟩ := hq
  obtain ⟨rfl, hM⟩ := o3 rfl
  have ev : v = r.map (iv ad') := by cases o1; rfl
  subst ev
  have eN : mN M' = mN M := congrArg (fun x => x.1) hM
  have eC : mC M' = mC M := congrArg (fun x => x.2.1) hM
  have eS : mS M' = mS M := congrArg (fun x => x.2.2.1) hM
  have hS' : va_S A s.heap t.heap (locs ++ L) := by
    obtain ⟨z1, z2⟩ := o10
    rw [h0] at z1 z2
    exact ⟨Nat.le_trans r3.1 z1, fun a ha hA' => by rw [z2 a (Nat.lt_of_lt_of_le ha r3.1) hA']; exact r3.2.1 a ha hA', fun x hx => by
      rcases List.mem_append.mp hx with z | z
      · exact r3.2.2 x z
      · exact hL x z⟩
  have hw := hk r M' o2 p e R s m args below meth c Q D g ad0 A n0 S0 c0 s0 ad' t.heap (locs ++ L) la hf g1 g2 g3 g4 (by rw [eC]; exact g5) (by rw [eS]; exact g6) (by rw [eC]; exact g7) (by rw [eS]; exact g8) ⟨o8, o9, hS', o7, by rw [eN]; exact r5, by rw [eN]; exact r6, r7, fun z => ⟨(r8 z).1, hM.trans (r8 z).2⟩⟩ hl hk2
  rw [eC, eS] at hw
  obtain ⟨t2, a1, b1⟩ := hw T' e1 X'
  refine ⟨t2, stp t2 ?_, b1⟩
  have es : (r.toList ++ rest).map (iv ad') = (r.map (iv ad')).toList ++ rest.map (iv ad') := by cases r <;> simp
  rw [es] at a1
  exact a1
/-! the calls -/
def oCv (l : Launch) (X : Nat × (Nat → Int32)) (d pc : Nat) (q' : Md) (c n : Nat) : OP := fun kn _ ls st M => match pn (n + 1) st [] with
  | some (.ref a :: as, rest) => cond (kk M a c && Nat.ble (cs rest) 8) (Ev l X q' d true 0 0 (.ref a :: as) M (fun r M' => kn (pc + 3) ls (r.toList ++ rest) M')) False
  | _ => False
def oCs (l : Launch) (X : Nat × (Nat → Int32)) (d pc : Nat) (q' : Md) (n : Nat) : OP := fun kn _ ls st M => match pn n st [] with
  | some (as, rest) => cond (Nat.ble (cs rest) 8) (Ev l X q' d true 0 0 as M (fun r M' => kn (pc + 3) ls (r.toList ++ rest) M')) False
  | _ => False
/-- what a callee's words say -/
def cW (q' : Md) (n : Nat) : Prop := Cond.code q'.1 q'.2.1 q'.2.2.1 q'.2.2.2 ∈ wB ∧ Cond.initialized q'.1.cls ∈ wB ∧ (q'.1.cls ≠ "java/lang/invoke/MethodHandle" ∧ q'.1.cls ≠ "java/lang/invoke/VarHandle" ∧ (parseMethodDescriptor q'.1.desc).map (fun d => d.parameters.length) = some n) ∧ q'.2.2.1 ≤ 45
def cV (q' : Md) (n : Nat) : Prop := cW q' n ∧ Cond.instanceMethod q'.1 ∈ wB ∧ Cond.selects q'.1.cls q'.1 q'.1 ∈ wB
def cT (q' : Md) (n : Nat) : Prop := cW q' n ∧ Cond.static q'.1 ∈ wB
theorem ok_cv {q' : Md} {c n idx : Nat} {T : u_T} {N : Nat} (hW : cV q' n) (hc : vwCl[c]? = some (q'.1.cls, T, N)) (h8 : c < 8) (hw : Cond.methodLink q.1.cls idx q'.1 ∈ wB) (hd : decode q.2.1 pc = .ok (.invokevirtual idx, 3)) : OK l X q (d + 1) na b pc (oCv l X d pc q' c n) := by
  intro kn kr ls st M hk h
  simp only [oCv] at h
  split at h
  · rename_i a as rest e0
    obtain ⟨h0, h⟩ := condT h
    obtain ⟨h0, h1⟩ := Bool.and_eq_true_iff.mp h0
    obtain ⟨a0, a1, a2⟩ := kk_of h0
    have h1 := Nat.le_of_ble_eq_true h1
    obtain ⟨n1, n2⟩ := pn_0 e0
    refine Wf.call (rest := rest) (kr' := fun r M' => kn (pc + 3) ls (r.toList ++ rest) M') (fun r M' z => hk _ _ _ _ z) (fun p e R s m args below meth c' H locs cells slots D g ad A la hx hb hml hla hown hts g1 g2 g3 hK hN hks hP hp => ?_)
    have he := wl_at (g := g) (ad := ad) a0 a1
    rw [en_o a2 h8] at he
    have hR : (rz d 0 0).frames + 1 ≤ R.frames ∧ 8 + (q'.2.2.1 + 11) + (rz d 0 0).locals ≤ R.locals := ⟨g1, by have := hW.1.2.2.2; show 8 + (q'.2.2.1 + 11) + 64 * d ≤ _; omega⟩
    refine ⟨_, va_runV (As := as.map (iv ad)) (rest := rest.map (iv ad)) (b := ad a) (C := q'.1.cls) ⟨hx, hb, hml, hown, hts⟩ (h D g ad A) ⟨callB_of n hts (wB_good hW.1.1) rfl rfl rfl (hts _ hW.1.2.1) (hts _ hw) hW.1.2.2.1 hR, hts _ hW.2.1, hts _ hW.2.2⟩ ⟨(hp _).1, va_recv hK hP hc he, fun U hU hW' => ?_⟩ rfl (by rw [List.length_map]; simpa using n1) hla ?_ (lv_room (by rw [cs_of]; exact h1)) hd g3⟩
    · have := (hp (.ref a :: as)).2 U hU hW'
      rw [List.map_cons, iv_ref a0] at this
      exact this
    · show st.map (iv ad) = _
      rw [n2, ← iv_ref a0]
      simp
  · exact h.elim
theorem ok_cs {q' : Md} {n idx : Nat} (hW : cT q' n) (hw : Cond.methodLink q.1.cls idx q'.1 ∈ wB) (hd : decode q.2.1 pc = .ok (.invokestatic idx, 3)) : OK l X q (d + 1) na b pc (oCs l X d pc q' n) := by
  intro kn kr ls st M hk h
  simp only [oCs] at h
  split at h
  · rename_i as rest e0
    obtain ⟨h1, h⟩ := condT h
    have h1 := Nat.le_of_ble_eq_true h1
    obtain ⟨n1, n2⟩ := pn_0 e0
    refine Wf.call (rest := rest) (kr' := fun r M' => kn (pc + 3) ls (r.toList ++ rest) M') (fun r M' z => hk _ _ _ _ z) (fun p e R s m args below meth c' H locs cells slots D g ad A la hx hb hml hla hown hts g1 g2 g3 hK hN hks hP hp => ?_)
    have hR : (rz d 0 0).frames + 1 ≤ R.frames ∧ 8 + (q'.2.2.1 + 11) + (rz d 0 0).locals ≤ R.locals := ⟨g1, by have := hW.1.2.2.2; show 8 + (q'.2.2.1 + 11) + 64 * d ≤ _; omega⟩
    refine ⟨_, va_runS (As := as.map (iv ad)) (rest := rest.map (iv ad)) ⟨hx, hb, hml, hown, hts⟩ (h D g ad A) ⟨callB_of n hts (wB_good hW.1.1) rfl rfl rfl (hts _ hW.1.2.1) (hts _ hw) hW.1.2.2.1 hR, hts _ hW.2⟩ (hp _) rfl (by rw [List.length_map]; exact n1) hla ?_ (lv_room (by rw [cs_of]; exact h1)) hd g3⟩
    show st.map (iv ad) = _
    rw [n2]
    simp
  · exact h.elim
/-- a nest mate's static method -/
theorem ok_csN {q' : Md} {n idx : Nat} (hW : cT q' n) (hw : (q.1.cls, idx, q'.1) ∈ wN) (hd : decode q.2.1 pc = .ok (.invokestatic idx, 3)) : OK l X q (d + 1) na b pc (oCs l X d pc q' n) := by
  intro kn kr ls st M hk h
  simp only [oCs] at h
  split at h
  · rename_i as rest e0
    obtain ⟨h1, h⟩ := condT h
    have h1 := Nat.le_of_ble_eq_true h1
    obtain ⟨n1, n2⟩ := pn_0 e0
    refine Wf.call (rest := rest) (kr' := fun r M' => kn (pc + 3) ls (r.toList ++ rest) M') (fun r M' z => hk _ _ _ _ z) (fun p e R s m args below meth c' H locs cells slots D g ad A la hx hb hml hla hown hts g1 g2 g3 hK hN hks hP hp => ?_)
    have hR : (rz d 0 0).frames + 1 ≤ R.frames ∧ 8 + (q'.2.2.1 + 11) + (rz d 0 0).locals ≤ R.locals := ⟨g1, by have := hW.1.2.2.2; show 8 + (q'.2.2.1 + 11) + 64 * d ≤ _; omega⟩
    refine ⟨_, va_runSN (As := as.map (iv ad)) (rest := rest.map (iv ad)) ⟨hx, hb, hml, hown, hts⟩ (h D g ad A) ⟨va_cnB n hts (wB_good hW.1.1) rfl rfl rfl (hN _ hw) (hts _ hW.1.2.1) hW.1.2.2.1 hR, hts _ hW.2, trivial⟩ (hp _) rfl (by rw [List.length_map]; exact n1) hla ?_ (lv_room (by rw [cs_of]; exact h1)) hd g3⟩
    show st.map (iv ad) = _
    rw [n2]
    simp
  · exact h.elim
/-- a String constant's method -/
def oCq (l : Launch) (X : Nat × (Nat → Int32)) (d pc : Nat) (q' : Md) (n : Nat) : OP := fun kn _ ls st M => match pn (n + 1) st [] with
  | some (.ref a :: as, rest) => cond (Nat.ble (cs rest) 8) (5000 ≤ a ∧ a < 5042 ∧ Ev l X q' d true 0 0 (.ref a :: as) M (fun r M' => kn (pc + 3) ls (r.toList ++ rest) M')) False
  | _ => False
theorem ok_cq {q' : Md} {n idx : Nat} (hW : cV q' n) (hcl : q'.1.cls = "java/lang/String") (hw : Cond.methodLink q.1.cls idx q'.1 ∈ wB) (hd : decode q.2.1 pc = .ok (.invokevirtual idx, 3)) : OK l X q (d + 1) na b pc (oCq l X d pc q' n) := by
  intro kn kr ls st M hk h
  simp only [oCq] at h
  split at h
  · rename_i a as rest e0
    obtain ⟨h1, b1, b2, h⟩ := condT h
    obtain ⟨a', ha⟩ : ∃ z : Nat, z = a := ⟨a, rfl⟩
    subst ha
    have a1 : 5000 ≤ a' := b1
    have a2 : a' < 5042 := b2
    have h1 := Nat.le_of_ble_eq_true h1
    have a0 : 0 < a' := by omega
    obtain ⟨n1, n2⟩ := pn_0 e0
    refine Wf.call (rest := rest) (kr' := fun r M' => kn (pc + 3) ls (r.toList ++ rest) M') (fun r M' z => hk _ _ _ _ z) (fun p e R s m args below meth c' H locs cells slots D g ad A la hx hb hml hla hown hts g1 g2 g3 hK hN hks hP hp => ?_)
    have hR : (rz d 0 0).frames + 1 ≤ R.frames ∧ 8 + (q'.2.2.1 + 11) + (rz d 0 0).locals ≤ R.locals := ⟨g1, by have := hW.1.2.2.2; show 8 + (q'.2.2.1 + 11) + 64 * d ≤ _; omega⟩
    obtain ⟨cell, c1, c2, c3, -⟩ := (hks (a' - 5000) (by omega)).1
    rw [show 5000 + (a' - 5000) = a' by omega] at c1
    refine ⟨_, va_runV (As := as.map (iv ad)) (rest := rest.map (iv ad)) (b := ad a') (C := q'.1.cls) ⟨hx, hb, hml, hown, hts⟩ (h D g ad A) ⟨callB_of n hts (wB_good hW.1.1) rfl rfl rfl (hts _ hW.1.2.1) (hts _ hw) hW.1.2.2.1 hR, hts _ hW.2.1, hts _ hW.2.2⟩ ⟨(hp _).1, ⟨cell, c1, c2, by rw [hcl]; exact c3⟩, fun U hU hW' => ?_⟩ rfl (by rw [List.length_map]; simpa using n1) hla ?_ (lv_room (by rw [cs_of]; exact h1)) hd g3⟩
    · have := (hp (.ref a' :: as)).2 U hU hW'
      rw [List.map_cons, iv_ref a0] at this
      exact this
    · show st.map (iv ad) = _
      rw [n2, ← iv_ref a0]
      simp
  · exact h.elim
end CALLS
end
