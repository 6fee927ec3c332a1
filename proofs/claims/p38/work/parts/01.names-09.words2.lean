section
-- ===== PART A: goes FIRST, ahead of the names: the tables' words, and 'selects' of the private methods out of them =====
theorem mT1 {w : Cond} (i : Nat) (e : tables_1_1[i]? = some w) : w ∈ tables_1 := List.mem_append_left _ (List.mem_of_getElem? e)
theorem mT2 {w : Cond} (i : Nat) (e : tables_1_2[i]? = some w) : w ∈ tables_1 := List.mem_append_right _ (List.mem_append_left _ (List.mem_of_getElem? e))
theorem mT3 {w : Cond} (i : Nat) (e : tables_1_3[i]? = some w) : w ∈ tables_1 := List.mem_append_right _ (List.mem_append_right _ (List.mem_append_left _ (List.mem_of_getElem? e)))
theorem mT4 {w : Cond} (i : Nat) (e : tables_1_4[i]? = some w) : w ∈ tables_1 := List.mem_append_right _ (List.mem_append_right _ (List.mem_append_right _ (List.mem_append_left _ (List.mem_of_getElem? e))))
theorem mT5 {w : Cond} (i : Nat) (e : tables_1_5[i]? = some w) : w ∈ tables_1 := List.mem_append_right _ (List.mem_append_right _ (List.mem_append_right _ (List.mem_append_right _ (List.mem_append_left _ (List.mem_of_getElem? e)))))
theorem mT6 {w : Cond} (i : Nat) (e : tables_1_6[i]? = some w) : w ∈ tables_1 := List.mem_append_right _ (List.mem_append_right _ (List.mem_append_right _ (List.mem_append_right _ (List.mem_append_right _ (List.mem_append_left _ (List.mem_of_getElem? e))))))
theorem mT7 {w : Cond} (i : Nat) (e : tables_1_7[i]? = some w) : w ∈ tables_1 := List.mem_append_right _ (List.mem_append_right _ (List.mem_append_right _ (List.mem_append_right _ (List.mem_append_right _ (List.mem_append_right _ (List.mem_append_left _ (List.mem_of_getElem? e)))))))
theorem mT8 {w : Cond} (i : Nat) (e : tables_1_8[i]? = some w) : w ∈ tables_1 := List.mem_append_right _ (List.mem_append_right _ (List.mem_append_right _ (List.mem_append_right _ (List.mem_append_right _ (List.mem_append_right _ (List.mem_append_right _ (List.mem_of_getElem? e)))))))
/-- a private method of a class that the tables say can be made, by its rows of tables_1 -/
noncomputable def lw_okq (q : MethodName × Nat) : Prop := (q.1.cls ≠ "java/lang/invoke/MethodHandle" ∧ q.1.cls ≠ "java/lang/invoke/VarHandle") ∧ Cond.instantiable q.1.cls q.2 ∈ tables_1 ∧ Cond.privateMethod q.1 ∈ tables_1 ∧ Cond.instanceMethod q.1 ∈ tables_1
theorem lw_p0 : lw_okq (⟨"GargoyleClose", "refuse", "(I)I"⟩, 14) := ⟨⟨by decide +kernel, by decide +kernel⟩, mT1 21 rfl, mT2 131 rfl, mT2 132 rfl⟩
theorem lw_p1 : lw_okq (⟨"GargoyleClose$Reader", "take", "()V"⟩, 15) := ⟨⟨by decide +kernel, by decide +kernel⟩, mT1 29 rfl, mT2 146 rfl, mT2 147 rfl⟩
theorem lw_p2 : lw_okq (⟨"GargoyleClose$Reader", "takeWord", "()V"⟩, 15) := ⟨⟨by decide +kernel, by decide +kernel⟩, mT1 29 rfl, mT2 150 rfl, mT2 151 rfl⟩
theorem lw_p3 : lw_okq (⟨"GargoyleClose$Reader", "takeWhole", "()V"⟩, 15) := ⟨⟨by decide +kernel, by decide +kernel⟩, mT1 29 rfl, mT2 155 rfl, mT2 156 rfl⟩
theorem lw_p4 : lw_okq (⟨"GargoyleClose$Reader", "readsLine", "()Z"⟩, 15) := ⟨⟨by decide +kernel, by decide +kernel⟩, mT1 29 rfl, mT2 159 rfl, mT2 160 rfl⟩
theorem lw_p5 : lw_okq (⟨"GargoyleClose$Reader", "beginsLine", "()Z"⟩, 15) := ⟨⟨by decide +kernel, by decide +kernel⟩, mT1 29 rfl, mT2 163 rfl, mT2 164 rfl⟩
theorem lw_p6 : lw_okq (⟨"GargoyleClose$Reader", "isWord", "(Ljava/lang/String;)Z"⟩, 15) := ⟨⟨by decide +kernel, by decide +kernel⟩, mT1 29 rfl, mT2 168 rfl, mT2 169 rfl⟩
theorem lw_p7 : lw_okq (⟨"GargoyleClose$Reader", "fails", "(I)Z"⟩, 15) := ⟨⟨by decide +kernel, by decide +kernel⟩, mT1 29 rfl, mT2 226 rfl, mT2 227 rfl⟩
theorem lw_p8 : lw_okq (⟨"GargoyleClose$Reader", "readsClose", "()Z"⟩, 15) := ⟨⟨by decide +kernel, by decide +kernel⟩, mT1 29 rfl, mT2 230 rfl, mT2 231 rfl⟩
theorem lw_p9 : lw_okq (⟨"GargoyleClose$Reader", "labelled", "(Ljava/lang/String;II)Z"⟩, 15) := ⟨⟨by decide +kernel, by decide +kernel⟩, mT1 29 rfl, mT2 235 rfl, mT2 236 rfl⟩
theorem lw_p10 : lw_okq (⟨"GargoyleClose$Reader", "bounded", "(II)Z"⟩, 15) := ⟨⟨by decide +kernel, by decide +kernel⟩, mT1 29 rfl, mT2 239 rfl, mT3 0 rfl⟩
theorem lw_p11 : lw_okq (⟨"GargoyleClose$Reader", "readsWall", "()Z"⟩, 15) := ⟨⟨by decide +kernel, by decide +kernel⟩, mT1 29 rfl, mT3 8 rfl, mT3 9 rfl⟩
theorem lw_p12 : lw_okq (⟨"GargoyleClose$Reader", "readsFace", "()Z"⟩, 15) := ⟨⟨by decide +kernel, by decide +kernel⟩, mT1 29 rfl, mT3 30 rfl, mT3 31 rfl⟩
theorem lw_p13 : lw_okq (⟨"GargoyleClose$Reader", "tells", "(II)Z"⟩, 15) := ⟨⟨by decide +kernel, by decide +kernel⟩, mT1 29 rfl, mT3 34 rfl, mT3 35 rfl⟩
theorem lw_p14 : lw_okq (⟨"GargoyleClose$Reader", "nameAt", "()I"⟩, 15) := ⟨⟨by decide +kernel, by decide +kernel⟩, mT1 29 rfl, mT3 38 rfl, mT3 39 rfl⟩
theorem lw_p15 : lw_okq (⟨"GargoyleClose$Reader", "kindHere", "()I"⟩, 15) := ⟨⟨by decide +kernel, by decide +kernel⟩, mT1 29 rfl, mT3 42 rfl, mT3 43 rfl⟩
noncomputable def lw_privs_1 : List (MethodName × Nat) := [(⟨"GargoyleClose", "refuse", "(I)I"⟩, 14), (⟨"GargoyleClose$Reader", "take", "()V"⟩, 15), (⟨"GargoyleClose$Reader", "takeWord", "()V"⟩, 15), (⟨"GargoyleClose$Reader", "takeWhole", "()V"⟩, 15), (⟨"GargoyleClose$Reader", "readsLine", "()Z"⟩, 15), (⟨"GargoyleClose$Reader", "beginsLine", "()Z"⟩, 15), (⟨"GargoyleClose$Reader", "isWord", "(Ljava/lang/String;)Z"⟩, 15), (⟨"GargoyleClose$Reader", "fails", "(I)Z"⟩, 15), (⟨"GargoyleClose$Reader", "readsClose", "()Z"⟩, 15), (⟨"GargoyleClose$Reader", "labelled", "(Ljava/lang/String;II)Z"⟩, 15), (⟨"GargoyleClose$Reader", "bounded", "(II)Z"⟩, 15), (⟨"GargoyleClose$Reader", "readsWall", "()Z"⟩, 15), (⟨"GargoyleClose$Reader", "readsFace", "()Z"⟩, 15), (⟨"GargoyleClose$Reader", "tells", "(II)Z"⟩, 15), (⟨"GargoyleClose$Reader", "nameAt", "()I"⟩, 15), (⟨"GargoyleClose$Reader", "kindHere", "()I"⟩, 15)]
theorem lw_r1 : ∀ q ∈ lw_privs_1, lw_okq q := List.forall_mem_cons.mpr ⟨lw_p0, List.forall_mem_cons.mpr ⟨lw_p1, List.forall_mem_cons.mpr ⟨lw_p2, List.forall_mem_cons.mpr ⟨lw_p3, List.forall_mem_cons.mpr ⟨lw_p4, List.forall_mem_cons.mpr ⟨lw_p5, List.forall_mem_cons.mpr ⟨lw_p6, List.forall_mem_cons.mpr ⟨lw_p7, List.forall_mem_cons.mpr ⟨lw_p8, List.forall_mem_cons.mpr ⟨lw_p9, List.forall_mem_cons.mpr ⟨lw_p10, List.forall_mem_cons.mpr ⟨lw_p11, List.forall_mem_cons.mpr ⟨lw_p12, List.forall_mem_cons.mpr ⟨lw_p13, List.forall_mem_cons.mpr ⟨lw_p14, List.forall_mem_cons.mpr ⟨lw_p15, fun _ h => absurd h List.not_mem_nil⟩⟩⟩⟩⟩⟩⟩⟩⟩⟩⟩⟩⟩⟩⟩⟩
theorem lw_p16 : lw_okq (⟨"GargoyleClose$Reader", "readsCanon", "()Z"⟩, 15) := ⟨⟨by decide +kernel, by decide +kernel⟩, mT1 29 rfl, mT3 56 rfl, mT3 57 rfl⟩
theorem lw_p17 : lw_okq (⟨"GargoyleClose$Reader", "named", "(I)I"⟩, 15) := ⟨⟨by decide +kernel, by decide +kernel⟩, mT1 29 rfl, mT3 60 rfl, mT3 61 rfl⟩
theorem lw_p18 : lw_okq (⟨"GargoyleClose$Reader", "readsWalker", "()Z"⟩, 15) := ⟨⟨by decide +kernel, by decide +kernel⟩, mT1 29 rfl, mT3 70 rfl, mT3 71 rfl⟩
theorem lw_p19 : lw_okq (⟨"GargoyleClose$Reader", "readsUnsure", "()Z"⟩, 15) := ⟨⟨by decide +kernel, by decide +kernel⟩, mT1 29 rfl, mT3 76 rfl, mT3 77 rfl⟩
theorem lw_p20 : lw_okq (⟨"GargoyleClose$Reader", "readsDropped", "()Z"⟩, 15) := ⟨⟨by decide +kernel, by decide +kernel⟩, mT1 29 rfl, mT3 84 rfl, mT3 85 rfl⟩
theorem lw_p21 : lw_okq (⟨"GargoyleClose", "answer", "(I)I"⟩, 14) := ⟨⟨by decide +kernel, by decide +kernel⟩, mT1 21 rfl, mT3 96 rfl, mT3 97 rfl⟩
theorem lw_p22 : lw_okq (⟨"GargoyleClose", "isFace", "(I)Z"⟩, 14) := ⟨⟨by decide +kernel, by decide +kernel⟩, mT1 21 rfl, mT3 112 rfl, mT3 113 rfl⟩
theorem lw_p23 : lw_okq (⟨"GargoyleClose", "canonOf", "(I)I"⟩, 14) := ⟨⟨by decide +kernel, by decide +kernel⟩, mT1 21 rfl, mT3 120 rfl, mT3 121 rfl⟩
theorem lw_p24 : lw_okq (⟨"GargoyleClose", "isCanon", "(I)Z"⟩, 14) := ⟨⟨by decide +kernel, by decide +kernel⟩, mT1 21 rfl, mT3 128 rfl, mT3 129 rfl⟩
theorem lw_p25 : lw_okq (⟨"GargoyleClose", "isCell", "(I)Z"⟩, 14) := ⟨⟨by decide +kernel, by decide +kernel⟩, mT1 21 rfl, mT3 136 rfl, mT3 137 rfl⟩
theorem lw_p26 : lw_okq (⟨"GargoyleClose", "hasClose", "()Z"⟩, 14) := ⟨⟨by decide +kernel, by decide +kernel⟩, mT1 21 rfl, mT3 156 rfl, mT3 157 rfl⟩
theorem lw_p27 : lw_okq (⟨"GargoyleClose", "canFollow", "(II)Z"⟩, 14) := ⟨⟨by decide +kernel, by decide +kernel⟩, mT1 21 rfl, mT3 164 rfl, mT3 165 rfl⟩
theorem lw_p28 : lw_okq (⟨"GargoyleClose", "numberFits", "(III)Z"⟩, 14) := ⟨⟨by decide +kernel, by decide +kernel⟩, mT1 21 rfl, mT3 168 rfl, mT3 169 rfl⟩
theorem lw_p29 : lw_okq (⟨"GargoyleClose", "follow", "(II)V"⟩, 14) := ⟨⟨by decide +kernel, by decide +kernel⟩, mT1 21 rfl, mT3 173 rfl, mT3 174 rfl⟩
theorem lw_p30 : lw_okq (⟨"GargoyleClose", "startNow", "(II)V"⟩, 14) := ⟨⟨by decide +kernel, by decide +kernel⟩, mT1 21 rfl, mT3 177 rfl, mT3 178 rfl⟩
theorem lw_p31 : lw_okq (⟨"GargoyleClose", "canLookAhead", "(III)Z"⟩, 14) := ⟨⟨by decide +kernel, by decide +kernel⟩, mT1 21 rfl, mT3 218 rfl, mT3 219 rfl⟩
noncomputable def lw_privs_2 : List (MethodName × Nat) := [(⟨"GargoyleClose$Reader", "readsCanon", "()Z"⟩, 15), (⟨"GargoyleClose$Reader", "named", "(I)I"⟩, 15), (⟨"GargoyleClose$Reader", "readsWalker", "()Z"⟩, 15), (⟨"GargoyleClose$Reader", "readsUnsure", "()Z"⟩, 15), (⟨"GargoyleClose$Reader", "readsDropped", "()Z"⟩, 15), (⟨"GargoyleClose", "answer", "(I)I"⟩, 14), (⟨"GargoyleClose", "isFace", "(I)Z"⟩, 14), (⟨"GargoyleClose", "canonOf", "(I)I"⟩, 14), (⟨"GargoyleClose", "isCanon", "(I)Z"⟩, 14), (⟨"GargoyleClose", "isCell", "(I)Z"⟩, 14), (⟨"GargoyleClose", "hasClose", "()Z"⟩, 14), (⟨"GargoyleClose", "canFollow", "(II)Z"⟩, 14), (⟨"GargoyleClose", "numberFits", "(III)Z"⟩, 14), (⟨"GargoyleClose", "follow", "(II)V"⟩, 14), (⟨"GargoyleClose", "startNow", "(II)V"⟩, 14), (⟨"GargoyleClose", "canLookAhead", "(III)Z"⟩, 14)]
theorem lw_r2 : ∀ q ∈ lw_privs_2, lw_okq q := List.forall_mem_cons.mpr ⟨lw_p16, List.forall_mem_cons.mpr ⟨lw_p17, List.forall_mem_cons.mpr ⟨lw_p18, List.forall_mem_cons.mpr ⟨lw_p19, List.forall_mem_cons.mpr ⟨lw_p20, List.forall_mem_cons.mpr ⟨lw_p21, List.forall_mem_cons.mpr ⟨lw_p22, List.forall_mem_cons.mpr ⟨lw_p23, List.forall_mem_cons.mpr ⟨lw_p24, List.forall_mem_cons.mpr ⟨lw_p25, List.forall_mem_cons.mpr ⟨lw_p26, List.forall_mem_cons.mpr ⟨lw_p27, List.forall_mem_cons.mpr ⟨lw_p28, List.forall_mem_cons.mpr ⟨lw_p29, List.forall_mem_cons.mpr ⟨lw_p30, List.forall_mem_cons.mpr ⟨lw_p31, fun _ h => absurd h List.not_mem_nil⟩⟩⟩⟩⟩⟩⟩⟩⟩⟩⟩⟩⟩⟩⟩⟩
theorem lw_p32 : lw_okq (⟨"GargoyleClose", "foretellWet", "(I)V"⟩, 14) := ⟨⟨by decide +kernel, by decide +kernel⟩, mT1 21 rfl, mT3 222 rfl, mT3 223 rfl⟩
theorem lw_p33 : lw_okq (⟨"GargoyleClose", "wetDaysOf", "(II)I"⟩, 14) := ⟨⟨by decide +kernel, by decide +kernel⟩, mT1 21 rfl, mT3 230 rfl, mT3 231 rfl⟩
theorem lw_p34 : lw_okq (⟨"GargoyleClose", "couldHave", "(II)Z"⟩, 14) := ⟨⟨by decide +kernel, by decide +kernel⟩, mT1 21 rfl, mT4 17 rfl, mT4 18 rfl⟩
theorem lw_p35 : lw_okq (⟨"GargoyleClose", "costIf", "(III)I"⟩, 14) := ⟨⟨by decide +kernel, by decide +kernel⟩, mT1 21 rfl, mT4 21 rfl, mT4 22 rfl⟩
theorem lw_p36 : lw_okq (⟨"GargoyleClose", "costOf", "(III)I"⟩, 14) := ⟨⟨by decide +kernel, by decide +kernel⟩, mT1 21 rfl, mT4 25 rfl, mT4 26 rfl⟩
theorem lw_p37 : lw_okq (⟨"GargoyleClose", "tooFewFaces", "()Z"⟩, 14) := ⟨⟨by decide +kernel, by decide +kernel⟩, mT1 21 rfl, mT4 37 rfl, mT4 38 rfl⟩
theorem lw_p38 : lw_okq (⟨"GargoyleClose", "makeMatch", "(I)V"⟩, 14) := ⟨⟨by decide +kernel, by decide +kernel⟩, mT1 21 rfl, mT4 41 rfl, mT4 42 rfl⟩
theorem lw_p39 : lw_okq (⟨"GargoyleClose$Matching", "place", "(III)V"⟩, 9) := ⟨⟨by decide +kernel, by decide +kernel⟩, mT2 38 rfl, mT4 62 rfl, mT4 63 rfl⟩
theorem lw_p40 : lw_okq (⟨"GargoyleClose", "canWalk", "(II)Z"⟩, 14) := ⟨⟨by decide +kernel, by decide +kernel⟩, mT1 21 rfl, mT4 88 rfl, mT4 89 rfl⟩
theorem lw_p41 : lw_okq (⟨"GargoyleClose", "isWalker", "(I)Z"⟩, 14) := ⟨⟨by decide +kernel, by decide +kernel⟩, mT1 21 rfl, mT4 92 rfl, mT4 93 rfl⟩
theorem lw_p42 : lw_okq (⟨"GargoyleClose", "wayCost", "(II)I"⟩, 14) := ⟨⟨by decide +kernel, by decide +kernel⟩, mT1 21 rfl, mT4 96 rfl, mT4 97 rfl⟩
theorem lw_p43 : lw_okq (⟨"GargoyleClose$Ways", "weight", "(I)I"⟩, 2) := ⟨⟨by decide +kernel, by decide +kernel⟩, mT2 24 rfl, mT4 105 rfl, mT4 106 rfl⟩
theorem lw_p44 : lw_okq (⟨"GargoyleClose$Ways", "leastOnward", "(LGargoyleClose$Plan;I)I"⟩, 2) := ⟨⟨by decide +kernel, by decide +kernel⟩, mT2 24 rfl, mT4 110 rfl, mT4 111 rfl⟩
theorem lw_p45 : lw_okq (⟨"GargoyleClose$Ways", "next", "(LGargoyleClose$Plan;II)I"⟩, 2) := ⟨⟨by decide +kernel, by decide +kernel⟩, mT2 24 rfl, mT4 114 rfl, mT4 115 rfl⟩
theorem lw_p46 : lw_okq (⟨"GargoyleClose$Ways", "firstStep", "(LGargoyleClose$Plan;I)I"⟩, 2) := ⟨⟨by decide +kernel, by decide +kernel⟩, mT2 24 rfl, mT4 134 rfl, mT4 135 rfl⟩
theorem lw_p47 : lw_okq (⟨"GargoyleClose", "stepsTogether", "(I)I"⟩, 14) := ⟨⟨by decide +kernel, by decide +kernel⟩, mT1 21 rfl, mT4 146 rfl, mT4 147 rfl⟩
noncomputable def lw_privs_3 : List (MethodName × Nat) := [(⟨"GargoyleClose", "foretellWet", "(I)V"⟩, 14), (⟨"GargoyleClose", "wetDaysOf", "(II)I"⟩, 14), (⟨"GargoyleClose", "couldHave", "(II)Z"⟩, 14), (⟨"GargoyleClose", "costIf", "(III)I"⟩, 14), (⟨"GargoyleClose", "costOf", "(III)I"⟩, 14), (⟨"GargoyleClose", "tooFewFaces", "()Z"⟩, 14), (⟨"GargoyleClose", "makeMatch", "(I)V"⟩, 14), (⟨"GargoyleClose$Matching", "place", "(III)V"⟩, 9), (⟨"GargoyleClose", "canWalk", "(II)Z"⟩, 14), (⟨"GargoyleClose", "isWalker", "(I)Z"⟩, 14), (⟨"GargoyleClose", "wayCost", "(II)I"⟩, 14), (⟨"GargoyleClose$Ways", "weight", "(I)I"⟩, 2), (⟨"GargoyleClose$Ways", "leastOnward", "(LGargoyleClose$Plan;I)I"⟩, 2), (⟨"GargoyleClose$Ways", "next", "(LGargoyleClose$Plan;II)I"⟩, 2), (⟨"GargoyleClose$Ways", "firstStep", "(LGargoyleClose$Plan;I)I"⟩, 2), (⟨"GargoyleClose", "stepsTogether", "(I)I"⟩, 14)]
theorem lw_r3 : ∀ q ∈ lw_privs_3, lw_okq q := List.forall_mem_cons.mpr ⟨lw_p32, List.forall_mem_cons.mpr ⟨lw_p33, List.forall_mem_cons.mpr ⟨lw_p34, List.forall_mem_cons.mpr ⟨lw_p35, List.forall_mem_cons.mpr ⟨lw_p36, List.forall_mem_cons.mpr ⟨lw_p37, List.forall_mem_cons.mpr ⟨lw_p38, List.forall_mem_cons.mpr ⟨lw_p39, List.forall_mem_cons.mpr ⟨lw_p40, List.forall_mem_cons.mpr ⟨lw_p41, List.forall_mem_cons.mpr ⟨lw_p42, List.forall_mem_cons.mpr ⟨lw_p43, List.forall_mem_cons.mpr ⟨lw_p44, List.forall_mem_cons.mpr ⟨lw_p45, List.forall_mem_cons.mpr ⟨lw_p46, List.forall_mem_cons.mpr ⟨lw_p47, fun _ h => absurd h List.not_mem_nil⟩⟩⟩⟩⟩⟩⟩⟩⟩⟩⟩⟩⟩⟩⟩⟩
theorem lw_p48 : lw_okq (⟨"GargoyleClose", "fittingSets", "()I"⟩, 14) := ⟨⟨by decide +kernel, by decide +kernel⟩, mT1 21 rfl, mT4 154 rfl, mT4 155 rfl⟩
theorem lw_p49 : lw_okq (⟨"GargoyleClose", "setFits", "(I)Z"⟩, 14) := ⟨⟨by decide +kernel, by decide +kernel⟩, mT1 21 rfl, mT4 158 rfl, mT4 159 rfl⟩
theorem lw_p50 : lw_okq (⟨"GargoyleClose", "dropFits", "(II)Z"⟩, 14) := ⟨⟨by decide +kernel, by decide +kernel⟩, mT1 21 rfl, mT4 162 rfl, mT4 163 rfl⟩
theorem lw_p51 : lw_okq (⟨"GargoyleClose", "bestToAsk", "(I)I"⟩, 14) := ⟨⟨by decide +kernel, by decide +kernel⟩, mT1 21 rfl, mT4 192 rfl, mT4 193 rfl⟩
theorem lw_p52 : lw_okq (⟨"GargoyleClose", "canGame", "(I)Z"⟩, 14) := ⟨⟨by decide +kernel, by decide +kernel⟩, mT1 21 rfl, mT4 211 rfl, mT4 212 rfl⟩
theorem lw_p53 : lw_okq (⟨"GargoyleClose", "canChance", "(II)Z"⟩, 14) := ⟨⟨by decide +kernel, by decide +kernel⟩, mT1 21 rfl, mT4 233 rfl, mT4 234 rfl⟩
theorem lw_p54 : lw_okq (⟨"GargoyleClose", "chance", "(IIZZ)J"⟩, 14) := ⟨⟨by decide +kernel, by decide +kernel⟩, mT1 21 rfl, mT4 238 rfl, mT4 239 rfl⟩
theorem lw_p55 : lw_okq (⟨"GargoyleClose", "isCalm", "(I)Z"⟩, 14) := ⟨⟨by decide +kernel, by decide +kernel⟩, mT1 21 rfl, mT5 24 rfl, mT5 25 rfl⟩
theorem lw_p56 : lw_okq (⟨"GargoyleClose", "firstDropBySeed", "(III)I"⟩, 14) := ⟨⟨by decide +kernel, by decide +kernel⟩, mT1 21 rfl, mT5 32 rfl, mT5 33 rfl⟩
theorem lw_p57 : lw_okq (⟨"GargoyleClose", "keep", "()V"⟩, 14) := ⟨⟨by decide +kernel, by decide +kernel⟩, mT1 21 rfl, mT5 40 rfl, mT5 41 rfl⟩
theorem lw_p58 : lw_okq (⟨"java/lang/Throwable", "fillInStackTrace", "(I)Ljava/lang/Throwable;"⟩, 6) := ⟨⟨by decide +kernel, by decide +kernel⟩, mT5 130 rfl, mT5 128 rfl, mT5 129 rfl⟩
theorem lw_p59 : lw_okq (⟨"GargoyleCloseModel", "good", "()V"⟩, 44) := ⟨⟨by decide +kernel, by decide +kernel⟩, mT5 155 rfl, mT6 62 rfl, mT6 63 rfl⟩
theorem lw_p60 : lw_okq (⟨"GargoyleCloseModel", "no", "(I)I"⟩, 44) := ⟨⟨by decide +kernel, by decide +kernel⟩, mT5 155 rfl, mT6 69 rfl, mT6 70 rfl⟩
theorem lw_p61 : lw_okq (⟨"GargoyleCloseModel", "next", "()V"⟩, 44) := ⟨⟨by decide +kernel, by decide +kernel⟩, mT5 155 rfl, mT6 73 rfl, mT6 74 rfl⟩
theorem lw_p62 : lw_okq (⟨"GargoyleCloseModel", "see", "(I)I"⟩, 44) := ⟨⟨by decide +kernel, by decide +kernel⟩, mT5 155 rfl, mT6 77 rfl, mT6 78 rfl⟩
theorem lw_p63 : lw_okq (⟨"GargoyleCloseModel", "readLine", "()V"⟩, 44) := ⟨⟨by decide +kernel, by decide +kernel⟩, mT5 155 rfl, mT6 87 rfl, mT6 88 rfl⟩
noncomputable def lw_privs_4 : List (MethodName × Nat) := [(⟨"GargoyleClose", "fittingSets", "()I"⟩, 14), (⟨"GargoyleClose", "setFits", "(I)Z"⟩, 14), (⟨"GargoyleClose", "dropFits", "(II)Z"⟩, 14), (⟨"GargoyleClose", "bestToAsk", "(I)I"⟩, 14), (⟨"GargoyleClose", "canGame", "(I)Z"⟩, 14), (⟨"GargoyleClose", "canChance", "(II)Z"⟩, 14), (⟨"GargoyleClose", "chance", "(IIZZ)J"⟩, 14), (⟨"GargoyleClose", "isCalm", "(I)Z"⟩, 14), (⟨"GargoyleClose", "firstDropBySeed", "(III)I"⟩, 14), (⟨"GargoyleClose", "keep", "()V"⟩, 14), (⟨"java/lang/Throwable", "fillInStackTrace", "(I)Ljava/lang/Throwable;"⟩, 6), (⟨"GargoyleCloseModel", "good", "()V"⟩, 44), (⟨"GargoyleCloseModel", "no", "(I)I"⟩, 44), (⟨"GargoyleCloseModel", "next", "()V"⟩, 44), (⟨"GargoyleCloseModel", "see", "(I)I"⟩, 44), (⟨"GargoyleCloseModel", "readLine", "()V"⟩, 44)]
theorem lw_r4 : ∀ q ∈ lw_privs_4, lw_okq q := List.forall_mem_cons.mpr ⟨lw_p48, List.forall_mem_cons.mpr ⟨lw_p49, List.forall_mem_cons.mpr ⟨lw_p50, List.forall_mem_cons.mpr ⟨lw_p51, List.forall_mem_cons.mpr ⟨lw_p52, List.forall_mem_cons.mpr ⟨lw_p53, List.forall_mem_cons.mpr ⟨lw_p54, List.forall_mem_cons.mpr ⟨lw_p55, List.forall_mem_cons.mpr ⟨lw_p56, List.forall_mem_cons.mpr ⟨lw_p57, List.forall_mem_cons.mpr ⟨lw_p58, List.forall_mem_cons.mpr ⟨lw_p59, List.forall_mem_cons.mpr ⟨lw_p60, List.forall_mem_cons.mpr ⟨lw_p61, List.forall_mem_cons.mpr ⟨lw_p62, List.forall_mem_cons.mpr ⟨lw_p63, fun _ h => absurd h List.not_mem_nil⟩⟩⟩⟩⟩⟩⟩⟩⟩⟩⟩⟩⟩⟩⟩⟩
theorem lw_p64 : lw_okq (⟨"GargoyleCloseModel", "isWord", "(Ljava/lang/String;)Z"⟩, 44) := ⟨⟨by decide +kernel, by decide +kernel⟩, mT5 155 rfl, mT6 92 rfl, mT6 93 rfl⟩
theorem lw_p65 : lw_okq (⟨"GargoyleCloseModel", "closeLine", "()V"⟩, 44) := ⟨⟨by decide +kernel, by decide +kernel⟩, mT5 155 rfl, mT6 98 rfl, mT6 99 rfl⟩
theorem lw_p66 : lw_okq (⟨"GargoyleCloseModel", "wrong", "(II)V"⟩, 44) := ⟨⟨by decide +kernel, by decide +kernel⟩, mT5 155 rfl, mT6 102 rfl, mT6 103 rfl⟩
theorem lw_p67 : lw_okq (⟨"GargoyleCloseModel", "after", "(Ljava/lang/String;II)I"⟩, 44) := ⟨⟨by decide +kernel, by decide +kernel⟩, mT5 155 rfl, mT6 107 rfl, mT6 108 rfl⟩
theorem lw_p68 : lw_okq (⟨"GargoyleCloseModel", "must", "(Ljava/lang/String;)V"⟩, 44) := ⟨⟨by decide +kernel, by decide +kernel⟩, mT5 155 rfl, mT6 111 rfl, mT6 112 rfl⟩
theorem lw_p69 : lw_okq (⟨"GargoyleCloseModel", "takesWord", "(Ljava/lang/String;)Z"⟩, 44) := ⟨⟨by decide +kernel, by decide +kernel⟩, mT5 155 rfl, mT6 115 rfl, mT6 116 rfl⟩
theorem lw_p70 : lw_okq (⟨"GargoyleCloseModel", "number", "(II)I"⟩, 44) := ⟨⟨by decide +kernel, by decide +kernel⟩, mT5 155 rfl, mT6 119 rfl, mT6 120 rfl⟩
theorem lw_p71 : lw_okq (⟨"GargoyleCloseModel", "numberHere", "(II)I"⟩, 44) := ⟨⟨by decide +kernel, by decide +kernel⟩, mT5 155 rfl, mT6 123 rfl, mT6 124 rfl⟩
theorem lw_p72 : lw_okq (⟨"GargoyleCloseModel", "pass", "()V"⟩, 44) := ⟨⟨by decide +kernel, by decide +kernel⟩, mT5 155 rfl, mT6 127 rfl, mT6 128 rfl⟩
theorem lw_p73 : lw_okq (⟨"GargoyleCloseModel", "begins", "(Ljava/lang/String;Z)Z"⟩, 44) := ⟨⟨by decide +kernel, by decide +kernel⟩, mT5 155 rfl, mT6 134 rfl, mT6 135 rfl⟩
theorem lw_p74 : lw_okq (⟨"GargoyleCloseModel", "wallLine", "()V"⟩, 44) := ⟨⟨by decide +kernel, by decide +kernel⟩, mT5 155 rfl, mT6 138 rfl, mT6 139 rfl⟩
theorem lw_p75 : lw_okq (⟨"GargoyleCloseModel", "cellHere", "()I"⟩, 44) := ⟨⟨by decide +kernel, by decide +kernel⟩, mT5 155 rfl, mT6 142 rfl, mT6 143 rfl⟩
theorem lw_p76 : lw_okq (⟨"GargoyleCloseModel", "faceLine", "()V"⟩, 44) := ⟨⟨by decide +kernel, by decide +kernel⟩, mT5 155 rfl, mT6 150 rfl, mT6 151 rfl⟩
theorem lw_p77 : lw_okq (⟨"GargoyleCloseModel", "newName", "(I)V"⟩, 44) := ⟨⟨by decide +kernel, by decide +kernel⟩, mT5 155 rfl, mT6 154 rfl, mT6 155 rfl⟩
theorem lw_p78 : lw_okq (⟨"GargoyleCloseModel", "mustName", "()V"⟩, 44) := ⟨⟨by decide +kernel, by decide +kernel⟩, mT5 155 rfl, mT6 158 rfl, mT6 159 rfl⟩
theorem lw_p79 : lw_okq (⟨"GargoyleCloseModel", "find", "()I"⟩, 44) := ⟨⟨by decide +kernel, by decide +kernel⟩, mT5 155 rfl, mT6 166 rfl, mT6 167 rfl⟩
noncomputable def lw_privs_5 : List (MethodName × Nat) := [(⟨"GargoyleCloseModel", "isWord", "(Ljava/lang/String;)Z"⟩, 44), (⟨"GargoyleCloseModel", "closeLine", "()V"⟩, 44), (⟨"GargoyleCloseModel", "wrong", "(II)V"⟩, 44), (⟨"GargoyleCloseModel", "after", "(Ljava/lang/String;II)I"⟩, 44), (⟨"GargoyleCloseModel", "must", "(Ljava/lang/String;)V"⟩, 44), (⟨"GargoyleCloseModel", "takesWord", "(Ljava/lang/String;)Z"⟩, 44), (⟨"GargoyleCloseModel", "number", "(II)I"⟩, 44), (⟨"GargoyleCloseModel", "numberHere", "(II)I"⟩, 44), (⟨"GargoyleCloseModel", "pass", "()V"⟩, 44), (⟨"GargoyleCloseModel", "begins", "(Ljava/lang/String;Z)Z"⟩, 44), (⟨"GargoyleCloseModel", "wallLine", "()V"⟩, 44), (⟨"GargoyleCloseModel", "cellHere", "()I"⟩, 44), (⟨"GargoyleCloseModel", "faceLine", "()V"⟩, 44), (⟨"GargoyleCloseModel", "newName", "(I)V"⟩, 44), (⟨"GargoyleCloseModel", "mustName", "()V"⟩, 44), (⟨"GargoyleCloseModel", "find", "()I"⟩, 44)]
theorem lw_r5 : ∀ q ∈ lw_privs_5, lw_okq q := List.forall_mem_cons.mpr ⟨lw_p64, List.forall_mem_cons.mpr ⟨lw_p65, List.forall_mem_cons.mpr ⟨lw_p66, List.forall_mem_cons.mpr ⟨lw_p67, List.forall_mem_cons.mpr ⟨lw_p68, List.forall_mem_cons.mpr ⟨lw_p69, List.forall_mem_cons.mpr ⟨lw_p70, List.forall_mem_cons.mpr ⟨lw_p71, List.forall_mem_cons.mpr ⟨lw_p72, List.forall_mem_cons.mpr ⟨lw_p73, List.forall_mem_cons.mpr ⟨lw_p74, List.forall_mem_cons.mpr ⟨lw_p75, List.forall_mem_cons.mpr ⟨lw_p76, List.forall_mem_cons.mpr ⟨lw_p77, List.forall_mem_cons.mpr ⟨lw_p78, List.forall_mem_cons.mpr ⟨lw_p79, fun _ h => absurd h List.not_mem_nil⟩⟩⟩⟩⟩⟩⟩⟩⟩⟩⟩⟩⟩⟩⟩⟩
theorem lw_p80 : lw_okq (⟨"GargoyleCloseModel", "canonLine", "()V"⟩, 44) := ⟨⟨by decide +kernel, by decide +kernel⟩, mT5 155 rfl, mT6 176 rfl, mT6 177 rfl⟩
theorem lw_p81 : lw_okq (⟨"GargoyleCloseModel", "named", "(II)I"⟩, 44) := ⟨⟨by decide +kernel, by decide +kernel⟩, mT5 155 rfl, mT6 180 rfl, mT6 181 rfl⟩
theorem lw_p82 : lw_okq (⟨"GargoyleCloseModel", "walkerLine", "()V"⟩, 44) := ⟨⟨by decide +kernel, by decide +kernel⟩, mT5 155 rfl, mT6 186 rfl, mT6 187 rfl⟩
theorem lw_p83 : lw_okq (⟨"GargoyleCloseModel", "openCell", "()I"⟩, 44) := ⟨⟨by decide +kernel, by decide +kernel⟩, mT5 155 rfl, mT6 191 rfl, mT6 192 rfl⟩
theorem lw_p84 : lw_okq (⟨"GargoyleCloseModel", "unsureLine", "()V"⟩, 44) := ⟨⟨by decide +kernel, by decide +kernel⟩, mT5 155 rfl, mT6 196 rfl, mT6 197 rfl⟩
theorem lw_p85 : lw_okq (⟨"GargoyleCloseModel", "droppedLine", "()V"⟩, 44) := ⟨⟨by decide +kernel, by decide +kernel⟩, mT5 155 rfl, mT6 200 rfl, mT6 201 rfl⟩
theorem lw_p86 : lw_okq (⟨"GargoyleCloseModel", "isFace", "(I)Z"⟩, 44) := ⟨⟨by decide +kernel, by decide +kernel⟩, mT5 155 rfl, mT6 220 rfl, mT6 221 rfl⟩
theorem lw_p87 : lw_okq (⟨"GargoyleCloseModel", "canonOf", "(I)I"⟩, 44) := ⟨⟨by decide +kernel, by decide +kernel⟩, mT5 155 rfl, mT6 224 rfl, mT6 225 rfl⟩
theorem lw_p88 : lw_okq (⟨"GargoyleCloseModel", "isCanon", "(I)Z"⟩, 44) := ⟨⟨by decide +kernel, by decide +kernel⟩, mT5 155 rfl, mT6 232 rfl, mT6 233 rfl⟩
theorem lw_p89 : lw_okq (⟨"GargoyleCloseModel", "isCell", "(I)Z"⟩, 44) := ⟨⟨by decide +kernel, by decide +kernel⟩, mT5 155 rfl, mT7 0 rfl, mT7 1 rfl⟩
theorem lw_p90 : lw_okq (⟨"GargoyleCloseModel", "cells", "()I"⟩, 44) := ⟨⟨by decide +kernel, by decide +kernel⟩, mT5 155 rfl, mT7 4 rfl, mT7 5 rfl⟩
theorem lw_p91 : lw_okq (⟨"GargoyleCloseModel", "faceOver", "(I)I"⟩, 44) := ⟨⟨by decide +kernel, by decide +kernel⟩, mT5 155 rfl, mT7 8 rfl, mT7 9 rfl⟩
theorem lw_p92 : lw_okq (⟨"GargoyleCloseModel", "beside", "(I)I"⟩, 44) := ⟨⟨by decide +kernel, by decide +kernel⟩, mT5 155 rfl, mT7 12 rfl, mT7 13 rfl⟩
theorem lw_p93 : lw_okq (⟨"GargoyleCloseModel", "stepFrom", "(II)I"⟩, 44) := ⟨⟨by decide +kernel, by decide +kernel⟩, mT5 155 rfl, mT7 16 rfl, mT7 17 rfl⟩
theorem lw_p94 : lw_okq (⟨"GargoyleCloseModel", "isWall", "(I)Z"⟩, 44) := ⟨⟨by decide +kernel, by decide +kernel⟩, mT5 155 rfl, mT7 20 rfl, mT7 21 rfl⟩
theorem lw_p95 : lw_okq (⟨"GargoyleCloseModel", "aheadWhy", "(ZII)I"⟩, 44) := ⟨⟨by decide +kernel, by decide +kernel⟩, mT5 155 rfl, mT7 32 rfl, mT7 33 rfl⟩
noncomputable def lw_privs_6 : List (MethodName × Nat) := [(⟨"GargoyleCloseModel", "canonLine", "()V"⟩, 44), (⟨"GargoyleCloseModel", "named", "(II)I"⟩, 44), (⟨"GargoyleCloseModel", "walkerLine", "()V"⟩, 44), (⟨"GargoyleCloseModel", "openCell", "()I"⟩, 44), (⟨"GargoyleCloseModel", "unsureLine", "()V"⟩, 44), (⟨"GargoyleCloseModel", "droppedLine", "()V"⟩, 44), (⟨"GargoyleCloseModel", "isFace", "(I)Z"⟩, 44), (⟨"GargoyleCloseModel", "canonOf", "(I)I"⟩, 44), (⟨"GargoyleCloseModel", "isCanon", "(I)Z"⟩, 44), (⟨"GargoyleCloseModel", "isCell", "(I)Z"⟩, 44), (⟨"GargoyleCloseModel", "cells", "()I"⟩, 44), (⟨"GargoyleCloseModel", "faceOver", "(I)I"⟩, 44), (⟨"GargoyleCloseModel", "beside", "(I)I"⟩, 44), (⟨"GargoyleCloseModel", "stepFrom", "(II)I"⟩, 44), (⟨"GargoyleCloseModel", "isWall", "(I)Z"⟩, 44), (⟨"GargoyleCloseModel", "aheadWhy", "(ZII)I"⟩, 44)]
theorem lw_r6 : ∀ q ∈ lw_privs_6, lw_okq q := List.forall_mem_cons.mpr ⟨lw_p80, List.forall_mem_cons.mpr ⟨lw_p81, List.forall_mem_cons.mpr ⟨lw_p82, List.forall_mem_cons.mpr ⟨lw_p83, List.forall_mem_cons.mpr ⟨lw_p84, List.forall_mem_cons.mpr ⟨lw_p85, List.forall_mem_cons.mpr ⟨lw_p86, List.forall_mem_cons.mpr ⟨lw_p87, List.forall_mem_cons.mpr ⟨lw_p88, List.forall_mem_cons.mpr ⟨lw_p89, List.forall_mem_cons.mpr ⟨lw_p90, List.forall_mem_cons.mpr ⟨lw_p91, List.forall_mem_cons.mpr ⟨lw_p92, List.forall_mem_cons.mpr ⟨lw_p93, List.forall_mem_cons.mpr ⟨lw_p94, List.forall_mem_cons.mpr ⟨lw_p95, fun _ h => absurd h List.not_mem_nil⟩⟩⟩⟩⟩⟩⟩⟩⟩⟩⟩⟩⟩⟩⟩⟩
theorem lw_p96 : lw_okq (⟨"GargoyleCloseModel", "why", "(ZZ)I"⟩, 44) := ⟨⟨by decide +kernel, by decide +kernel⟩, mT5 155 rfl, mT7 36 rfl, mT7 37 rfl⟩
theorem lw_p97 : lw_okq (⟨"GargoyleCloseModel", "daysOn", "(I)V"⟩, 44) := ⟨⟨by decide +kernel, by decide +kernel⟩, mT5 155 rfl, mT7 40 rfl, mT7 41 rfl⟩
theorem lw_p98 : lw_okq (⟨"GargoyleCloseModel", "vexedBy", "(I)V"⟩, 44) := ⟨⟨by decide +kernel, by decide +kernel⟩, mT5 155 rfl, mT7 44 rfl, mT7 45 rfl⟩
theorem lw_p99 : lw_okq (⟨"GargoyleCloseModel", "dayOn", "([IZ)V"⟩, 44) := ⟨⟨by decide +kernel, by decide +kernel⟩, mT5 155 rfl, mT7 48 rfl, mT7 49 rfl⟩
theorem lw_p100 : lw_okq (⟨"GargoyleCloseModel", "letsGo", "([II)I"⟩, 44) := ⟨⟨by decide +kernel, by decide +kernel⟩, mT5 155 rfl, mT7 52 rfl, mT7 53 rfl⟩
theorem lw_p101 : lw_okq (⟨"GargoyleCloseModel", "wetOften", "(II)I"⟩, 44) := ⟨⟨by decide +kernel, by decide +kernel⟩, mT5 155 rfl, mT7 80 rfl, mT7 81 rfl⟩
theorem lw_p102 : lw_okq (⟨"GargoyleCloseModel", "fallenOn", "([I)I"⟩, 44) := ⟨⟨by decide +kernel, by decide +kernel⟩, mT5 155 rfl, mT7 100 rfl, mT7 101 rfl⟩
theorem lw_p103 : lw_okq (⟨"GargoyleCloseModel", "planWhy", "(ZI)I"⟩, 44) := ⟨⟨by decide +kernel, by decide +kernel⟩, mT5 155 rfl, mT7 108 rfl, mT7 109 rfl⟩
theorem lw_p104 : lw_okq (⟨"GargoyleCloseModel", "mayHave", "(II)Z"⟩, 44) := ⟨⟨by decide +kernel, by decide +kernel⟩, mT5 155 rfl, mT7 112 rfl, mT7 113 rfl⟩
theorem lw_p105 : lw_okq (⟨"GargoyleCloseModel", "planAsNow", "()V"⟩, 44) := ⟨⟨by decide +kernel, by decide +kernel⟩, mT5 155 rfl, mT7 116 rfl, mT7 117 rfl⟩
theorem lw_p106 : lw_okq (⟨"GargoyleCloseModel", "goByPlan", "(I)V"⟩, 44) := ⟨⟨by decide +kernel, by decide +kernel⟩, mT5 155 rfl, mT7 120 rfl, mT7 121 rfl⟩
theorem lw_p107 : lw_okq (⟨"GargoyleCloseModel", "letsOf", "([I)I"⟩, 44) := ⟨⟨by decide +kernel, by decide +kernel⟩, mT5 155 rfl, mT7 127 rfl, mT7 128 rfl⟩
theorem lw_p108 : lw_okq (⟨"GargoyleCloseModel", "isBest", "(I)Z"⟩, 44) := ⟨⟨by decide +kernel, by decide +kernel⟩, mT5 155 rfl, mT7 135 rfl, mT7 136 rfl⟩
theorem lw_p109 : lw_okq (⟨"GargoyleCloseModel", "seekMatch", "(I)V"⟩, 44) := ⟨⟨by decide +kernel, by decide +kernel⟩, mT5 155 rfl, mT7 143 rfl, mT7 144 rfl⟩
theorem lw_p110 : lw_okq (⟨"GargoyleCloseModel", "tryPlans", "(III)V"⟩, 44) := ⟨⟨by decide +kernel, by decide +kernel⟩, mT5 155 rfl, mT7 147 rfl, mT7 148 rfl⟩
theorem lw_p111 : lw_okq (⟨"GargoyleCloseModel", "stepsOf", "(II)I"⟩, 44) := ⟨⟨by decide +kernel, by decide +kernel⟩, mT5 155 rfl, mT7 163 rfl, mT7 164 rfl⟩
noncomputable def lw_privs_7 : List (MethodName × Nat) := [(⟨"GargoyleCloseModel", "why", "(ZZ)I"⟩, 44), (⟨"GargoyleCloseModel", "daysOn", "(I)V"⟩, 44), (⟨"GargoyleCloseModel", "vexedBy", "(I)V"⟩, 44), (⟨"GargoyleCloseModel", "dayOn", "([IZ)V"⟩, 44), (⟨"GargoyleCloseModel", "letsGo", "([II)I"⟩, 44), (⟨"GargoyleCloseModel", "wetOften", "(II)I"⟩, 44), (⟨"GargoyleCloseModel", "fallenOn", "([I)I"⟩, 44), (⟨"GargoyleCloseModel", "planWhy", "(ZI)I"⟩, 44), (⟨"GargoyleCloseModel", "mayHave", "(II)Z"⟩, 44), (⟨"GargoyleCloseModel", "planAsNow", "()V"⟩, 44), (⟨"GargoyleCloseModel", "goByPlan", "(I)V"⟩, 44), (⟨"GargoyleCloseModel", "letsOf", "([I)I"⟩, 44), (⟨"GargoyleCloseModel", "isBest", "(I)Z"⟩, 44), (⟨"GargoyleCloseModel", "seekMatch", "(I)V"⟩, 44), (⟨"GargoyleCloseModel", "tryPlans", "(III)V"⟩, 44), (⟨"GargoyleCloseModel", "stepsOf", "(II)I"⟩, 44)]
theorem lw_r7 : ∀ q ∈ lw_privs_7, lw_okq q := List.forall_mem_cons.mpr ⟨lw_p96, List.forall_mem_cons.mpr ⟨lw_p97, List.forall_mem_cons.mpr ⟨lw_p98, List.forall_mem_cons.mpr ⟨lw_p99, List.forall_mem_cons.mpr ⟨lw_p100, List.forall_mem_cons.mpr ⟨lw_p101, List.forall_mem_cons.mpr ⟨lw_p102, List.forall_mem_cons.mpr ⟨lw_p103, List.forall_mem_cons.mpr ⟨lw_p104, List.forall_mem_cons.mpr ⟨lw_p105, List.forall_mem_cons.mpr ⟨lw_p106, List.forall_mem_cons.mpr ⟨lw_p107, List.forall_mem_cons.mpr ⟨lw_p108, List.forall_mem_cons.mpr ⟨lw_p109, List.forall_mem_cons.mpr ⟨lw_p110, List.forall_mem_cons.mpr ⟨lw_p111, fun _ h => absurd h List.not_mem_nil⟩⟩⟩⟩⟩⟩⟩⟩⟩⟩⟩⟩⟩⟩⟩⟩
theorem lw_p112 : lw_okq (⟨"GargoyleCloseModel", "layCosts", "(II)V"⟩, 44) := ⟨⟨by decide +kernel, by decide +kernel⟩, mT5 155 rfl, mT7 167 rfl, mT7 168 rfl⟩
theorem lw_p113 : lw_okq (⟨"GargoyleCloseModel", "costOf", "(II)I"⟩, 44) := ⟨⟨by decide +kernel, by decide +kernel⟩, mT5 155 rfl, mT7 172 rfl, mT7 173 rfl⟩
theorem lw_p114 : lw_okq (⟨"GargoyleCloseModel", "isWalker", "(I)Z"⟩, 44) := ⟨⟨by decide +kernel, by decide +kernel⟩, mT5 155 rfl, mT7 180 rfl, mT7 181 rfl⟩
theorem lw_p115 : lw_okq (⟨"GargoyleCloseModel", "wayOf", "(II)I"⟩, 44) := ⟨⟨by decide +kernel, by decide +kernel⟩, mT5 155 rfl, mT7 184 rfl, mT7 185 rfl⟩
theorem lw_p116 : lw_okq (⟨"GargoyleCloseModel", "allSteps", "()I"⟩, 44) := ⟨⟨by decide +kernel, by decide +kernel⟩, mT5 155 rfl, mT7 204 rfl, mT7 205 rfl⟩
theorem lw_p117 : lw_okq (⟨"GargoyleCloseModel", "seekSets", "(I)I"⟩, 44) := ⟨⟨by decide +kernel, by decide +kernel⟩, mT5 155 rfl, mT7 212 rfl, mT7 213 rfl⟩
theorem lw_p118 : lw_okq (⟨"GargoyleCloseModel", "wrongBy", "(I)I"⟩, 44) := ⟨⟨by decide +kernel, by decide +kernel⟩, mT5 155 rfl, mT7 216 rfl, mT7 217 rfl⟩
theorem lw_p119 : lw_okq (⟨"GargoyleCloseModel", "askOf", "()I"⟩, 44) := ⟨⟨by decide +kernel, by decide +kernel⟩, mT5 155 rfl, mT7 236 rfl, mT7 237 rfl⟩
theorem lw_p120 : lw_okq (⟨"GargoyleCloseModel", "leavesOf", "(I)I"⟩, 44) := ⟨⟨by decide +kernel, by decide +kernel⟩, mT5 155 rfl, mT8 0 rfl, mT8 1 rfl⟩
theorem lw_p121 : lw_okq (⟨"GargoyleCloseModel", "seekRests", "(I)I"⟩, 44) := ⟨⟨by decide +kernel, by decide +kernel⟩, mT5 155 rfl, mT8 26 rfl, mT8 27 rfl⟩
theorem lw_p122 : lw_okq (⟨"GargoyleCloseModel", "tryCalms", "(II)V"⟩, 44) := ⟨⟨by decide +kernel, by decide +kernel⟩, mT5 155 rfl, mT8 38 rfl, mT8 39 rfl⟩
theorem lw_p123 : lw_okq (⟨"GargoyleCloseModel", "drawWhy", "(ZII)I"⟩, 44) := ⟨⟨by decide +kernel, by decide +kernel⟩, mT5 155 rfl, mT8 53 rfl, mT8 54 rfl⟩
theorem lw_p124 : lw_okq (⟨"GargoyleCloseModel", "note", "()V"⟩, 44) := ⟨⟨by decide +kernel, by decide +kernel⟩, mT5 155 rfl, mT8 67 rfl, mT8 68 rfl⟩
theorem lw_p125 : lw_okq (⟨"GargoyleCloseModel", "isNot", "(I)Z"⟩, 44) := ⟨⟨by decide +kernel, by decide +kernel⟩, mT5 155 rfl, mT8 79 rfl, mT8 80 rfl⟩
noncomputable def lw_privs_8 : List (MethodName × Nat) := [(⟨"GargoyleCloseModel", "layCosts", "(II)V"⟩, 44), (⟨"GargoyleCloseModel", "costOf", "(II)I"⟩, 44), (⟨"GargoyleCloseModel", "isWalker", "(I)Z"⟩, 44), (⟨"GargoyleCloseModel", "wayOf", "(II)I"⟩, 44), (⟨"GargoyleCloseModel", "allSteps", "()I"⟩, 44), (⟨"GargoyleCloseModel", "seekSets", "(I)I"⟩, 44), (⟨"GargoyleCloseModel", "wrongBy", "(I)I"⟩, 44), (⟨"GargoyleCloseModel", "askOf", "()I"⟩, 44), (⟨"GargoyleCloseModel", "leavesOf", "(I)I"⟩, 44), (⟨"GargoyleCloseModel", "seekRests", "(I)I"⟩, 44), (⟨"GargoyleCloseModel", "tryCalms", "(II)V"⟩, 44), (⟨"GargoyleCloseModel", "drawWhy", "(ZII)I"⟩, 44), (⟨"GargoyleCloseModel", "note", "()V"⟩, 44), (⟨"GargoyleCloseModel", "isNot", "(I)Z"⟩, 44)]
theorem lw_r8 : ∀ q ∈ lw_privs_8, lw_okq q := List.forall_mem_cons.mpr ⟨lw_p112, List.forall_mem_cons.mpr ⟨lw_p113, List.forall_mem_cons.mpr ⟨lw_p114, List.forall_mem_cons.mpr ⟨lw_p115, List.forall_mem_cons.mpr ⟨lw_p116, List.forall_mem_cons.mpr ⟨lw_p117, List.forall_mem_cons.mpr ⟨lw_p118, List.forall_mem_cons.mpr ⟨lw_p119, List.forall_mem_cons.mpr ⟨lw_p120, List.forall_mem_cons.mpr ⟨lw_p121, List.forall_mem_cons.mpr ⟨lw_p122, List.forall_mem_cons.mpr ⟨lw_p123, List.forall_mem_cons.mpr ⟨lw_p124, List.forall_mem_cons.mpr ⟨lw_p125, fun _ h => absurd h List.not_mem_nil⟩⟩⟩⟩⟩⟩⟩⟩⟩⟩⟩⟩⟩⟩
noncomputable def lw_privs : List (MethodName × Nat) := lw_privs_1 ++ (lw_privs_2 ++ (lw_privs_3 ++ (lw_privs_4 ++ (lw_privs_5 ++ (lw_privs_6 ++ (lw_privs_7 ++ (lw_privs_8)))))))
noncomputable def lw_tbl : List Cond := k2_sels lw_privs ++ tables_1
theorem lw_privs_ok : ∀ q ∈ lw_privs, lw_okq q := by
  show ∀ q ∈ lw_privs_1 ++ (lw_privs_2 ++ (lw_privs_3 ++ (lw_privs_4 ++ (lw_privs_5 ++ (lw_privs_6 ++ (lw_privs_7 ++ (lw_privs_8))))))), lw_okq q
  exact List.forall_mem_append.mpr ⟨lw_r1, List.forall_mem_append.mpr ⟨lw_r2, List.forall_mem_append.mpr ⟨lw_r3, List.forall_mem_append.mpr ⟨lw_r4, List.forall_mem_append.mpr ⟨lw_r5, List.forall_mem_append.mpr ⟨lw_r6, List.forall_mem_append.mpr ⟨lw_r7, lw_r8⟩⟩⟩⟩⟩⟩⟩
-- ===== end of PART A; then your names; then what follows =====
noncomputable def RX0 : String := "GargoyleClose$Course"
noncomputable def TX0 : u_T := fun k => match k with
  | 0 => ("GargoyleClose$Course", "kind", "I", false)
  | 1 => ("GargoyleClose$Course", "wears", "I", false)
  | 2 => ("GargoyleClose$Course", "vexed", "I", false)
  | 3 => ("GargoyleClose$Course", "every", "I", false)
  | 4 => ("GargoyleClose$Course", "number", "I", false)
  | 5 => ("GargoyleClose$Course", "holds", "I", false)
  | 6 => ("GargoyleClose$Course", "bears", "I", false)
  | _ => ("GargoyleClose$Course", "drops", "I", false)
noncomputable def tyX0 : Nat → FieldType := fun k => match k with
  | 0 => .int
  | 1 => .int
  | 2 => .int
  | 3 => .int
  | 4 => .int
  | 5 => .int
  | 6 => .int
  | _ => .int
theorem nmX0 : ∀ a, a < 8 → ∀ b, b < 8 → a ≠ b → (TX0 a).2.1 ≠ (TX0 b).2.1 := by decide +kernel
theorem tyX0_ok : ∀ k, k < 8 → parseFieldDescriptor (TX0 k).2.2.1 = some (tyX0 k) := by decide +kernel
noncomputable abbrev cX0_init : ByteArray := prog_2_method_1_code
noncomputable def yX0_init : MethodName := ⟨RX0, "<init>", "()V"⟩
noncomputable abbrev cX0_start : ByteArray := prog_2_method_2_code
noncomputable def yX0_start : MethodName := ⟨RX0, "start", "(LGargoyleClose$Plan;III)V"⟩
noncomputable abbrev cX0_pass : ByteArray := prog_2_method_3_code
noncomputable def yX0_pass : MethodName := ⟨RX0, "pass", "(Z)Z"⟩
noncomputable abbrev cX0_passAll : ByteArray := prog_2_method_4_code
noncomputable def yX0_passAll : MethodName := ⟨RX0, "passAll", "(I)V"⟩
noncomputable abbrev cX0_firstDrop : ByteArray := prog_2_method_5_code
noncomputable def yX0_firstDrop : MethodName := ⟨RX0, "firstDrop", "(I)I"⟩
noncomputable def RX1 : String := "GargoyleClose$Matching"
noncomputable def TX1 : u_T := fun k => match k with
  | 0 => ("GargoyleClose$Matching", "more", "[[I", true)
  | 1 => ("GargoyleClose$Matching", "without", "[I", true)
  | 2 => ("GargoyleClose$Matching", "row", "[I", true)
  | 3 => ("GargoyleClose$Matching", "best", "[I", true)
  | 4 => ("GargoyleClose$Matching", "faces", "I", false)
  | 5 => ("GargoyleClose$Matching", "canons", "I", false)
  | 6 => ("GargoyleClose$Matching", "free", "I", false)
  | 7 => ("GargoyleClose$Matching", "idle", "I", false)
  | _ => ("GargoyleClose$Matching", "least", "I", false)
noncomputable def tyX1 : Nat → FieldType := fun k => match k with
  | 0 => .array (.array .int)
  | 1 => .array .int
  | 2 => .array .int
  | 3 => .array .int
  | 4 => .int
  | 5 => .int
  | 6 => .int
  | 7 => .int
  | _ => .int
theorem nmX1 : ∀ a, a < 9 → ∀ b, b < 9 → a ≠ b → (TX1 a).2.1 ≠ (TX1 b).2.1 := by decide +kernel
theorem tyX1_ok : ∀ k, k < 9 → parseFieldDescriptor (TX1 k).2.2.1 = some (tyX1 k) := by decide +kernel
noncomputable abbrev cX1_init : ByteArray := prog_3_method_1_code
noncomputable def yX1_init : MethodName := ⟨RX1, "<init>", "()V"⟩
noncomputable abbrev cX1_clear : ByteArray := prog_3_method_2_code
noncomputable def yX1_clear : MethodName := ⟨RX1, "clear", "(II)V"⟩
noncomputable abbrev cX1_addFace : ByteArray := prog_3_method_3_code
noncomputable def yX1_addFace : MethodName := ⟨RX1, "addFace", "(II)V"⟩
noncomputable abbrev cX1_setCost : ByteArray := prog_3_method_4_code
noncomputable def yX1_setCost : MethodName := ⟨RX1, "setCost", "(III)V"⟩
noncomputable abbrev cX1_solve : ByteArray := prog_3_method_5_code
noncomputable def yX1_solve : MethodName := ⟨RX1, "solve", "()V"⟩
noncomputable abbrev cX1_place : ByteArray := prog_3_method_6_code
noncomputable def yX1_place : MethodName := ⟨RX1, "place", "(III)V"⟩
noncomputable def RX2 : String := "GargoyleClose$Moment"
noncomputable def TX2 : u_T := fun k => match k with
  | 0 => ("GargoyleClose$Moment", "holds", "[I", true)
  | 1 => ("GargoyleClose$Moment", "bears", "[I", true)
  | 2 => ("GargoyleClose$Moment", "drops", "[I", true)
  | 3 => ("GargoyleClose$Moment", "faceOf", "[I", true)
  | 4 => ("GargoyleClose$Moment", "days", "I", false)
  | _ => ("GargoyleClose$Moment", "wet", "I", false)
noncomputable def tyX2 : Nat → FieldType := fun k => match k with
  | 0 => .array .int
  | 1 => .array .int
  | 2 => .array .int
  | 3 => .array .int
  | 4 => .int
  | _ => .int
theorem nmX2 : ∀ a, a < 6 → ∀ b, b < 6 → a ≠ b → (TX2 a).2.1 ≠ (TX2 b).2.1 := by decide +kernel
theorem tyX2_ok : ∀ k, k < 6 → parseFieldDescriptor (TX2 k).2.2.1 = some (tyX2 k) := by decide +kernel
noncomputable abbrev cX2_init : ByteArray := prog_4_method_1_code
noncomputable def yX2_init : MethodName := ⟨RX2, "<init>", "()V"⟩
noncomputable abbrev cX2_begin : ByteArray := prog_4_method_2_code
noncomputable def yX2_begin : MethodName := ⟨RX2, "begin", "(LGargoyleClose$Plan;)V"⟩
noncomputable abbrev cX2_copy : ByteArray := prog_4_method_3_code
noncomputable def yX2_copy : MethodName := ⟨RX2, "copy", "(LGargoyleClose$Moment;)V"⟩
noncomputable abbrev cX2_hasFallen : ByteArray := prog_4_method_4_code
noncomputable def yX2_hasFallen : MethodName := ⟨RX2, "hasFallen", "(I)Z"⟩
noncomputable def RX3 : String := "GargoyleClose$Plan"
noncomputable def TX3 : u_T := fun k => match k with
  | 0 => ("GargoyleClose$Plan", "wide", "I", false)
  | 1 => ("GargoyleClose$Plan", "deep", "I", false)
  | 2 => ("GargoyleClose$Plan", "calm", "I", false)
  | 3 => ("GargoyleClose$Plan", "walls", "I", false)
  | 4 => ("GargoyleClose$Plan", "faces", "I", false)
  | 5 => ("GargoyleClose$Plan", "kind", "[I", true)
  | 6 => ("GargoyleClose$Plan", "holds", "[I", true)
  | 7 => ("GargoyleClose$Plan", "wears", "[I", true)
  | 8 => ("GargoyleClose$Plan", "at", "[I", true)
  | 9 => ("GargoyleClose$Plan", "dropDay", "[I", true)
  | 10 => ("GargoyleClose$Plan", "canons", "I", false)
  | 11 => ("GargoyleClose$Plan", "faceOf", "[I", true)
  | 12 => ("GargoyleClose$Plan", "vexed", "[I", true)
  | 13 => ("GargoyleClose$Plan", "every", "[I", true)
  | 14 => ("GargoyleClose$Plan", "walkers", "I", false)
  | 15 => ("GargoyleClose$Plan", "from", "[I", true)
  | 16 => ("GargoyleClose$Plan", "to", "[I", true)
  | 17 => ("GargoyleClose$Plan", "unsures", "I", false)
  | 18 => ("GargoyleClose$Plan", "unsure", "[I", true)
  | _ => ("GargoyleClose$Plan", "otherwise", "[I", true)
noncomputable def tyX3 : Nat → FieldType := fun k => match k with
  | 0 => .int
  | 1 => .int
  | 2 => .int
  | 3 => .int
  | 4 => .int
  | 5 => .array .int
  | 6 => .array .int
  | 7 => .array .int
  | 8 => .array .int
  | 9 => .array .int
  | 10 => .int
  | 11 => .array .int
  | 12 => .array .int
  | 13 => .array .int
  | 14 => .int
  | 15 => .array .int
  | 16 => .array .int
  | 17 => .int
  | 18 => .array .int
  | _ => .array .int
theorem nmX3 : ∀ a, a < 20 → ∀ b, b < 20 → a ≠ b → (TX3 a).2.1 ≠ (TX3 b).2.1 := by decide +kernel
theorem tyX3_ok : ∀ k, k < 20 → parseFieldDescriptor (TX3 k).2.2.1 = some (tyX3 k) := by decide +kernel
noncomputable abbrev cX3_init : ByteArray := prog_5_method_1_code
noncomputable def yX3_init : MethodName := ⟨RX3, "<init>", "()V"⟩
noncomputable abbrev cX3_clear : ByteArray := prog_5_method_2_code
noncomputable def yX3_clear : MethodName := ⟨RX3, "clear", "()V"⟩
noncomputable abbrev cX3_cells : ByteArray := prog_5_method_3_code
noncomputable def yX3_cells : MethodName := ⟨RX3, "cells", "()I"⟩
noncomputable abbrev cX3_isWall : ByteArray := prog_5_method_4_code
noncomputable def yX3_isWall : MethodName := ⟨RX3, "isWall", "(I)Z"⟩
noncomputable abbrev cX3_wallCount : ByteArray := prog_5_method_5_code
noncomputable def yX3_wallCount : MethodName := ⟨RX3, "wallCount", "()I"⟩
noncomputable abbrev cX3_open : ByteArray := prog_5_method_6_code
noncomputable def yX3_open : MethodName := ⟨RX3, "open", "()I"⟩
noncomputable abbrev cX3_faceOver : ByteArray := prog_5_method_7_code
noncomputable def yX3_faceOver : MethodName := ⟨RX3, "faceOver", "(I)I"⟩
noncomputable abbrev cX3_toldCanonOf : ByteArray := prog_5_method_8_code
noncomputable def yX3_toldCanonOf : MethodName := ⟨RX3, "toldCanonOf", "(I)I"⟩
noncomputable abbrev cX3_unsureOf : ByteArray := prog_5_method_9_code
noncomputable def yX3_unsureOf : MethodName := ⟨RX3, "unsureOf", "(I)I"⟩
noncomputable abbrev cX3_vexedBy : ByteArray := prog_5_method_10_code
noncomputable def yX3_vexedBy : MethodName := ⟨RX3, "vexedBy", "(II)I"⟩
noncomputable abbrev cX3_droppedCount : ByteArray := prog_5_method_11_code
noncomputable def yX3_droppedCount : MethodName := ⟨RX3, "droppedCount", "()I"⟩
noncomputable def RX4 : String := "GargoyleClose$Reader"
noncomputable def TX4 : u_T := fun k => match k with
  | 0 => ("GargoyleClose$Reader", "text", "[B", true)
  | 1 => ("GargoyleClose$Reader", "taped", "I", false)
  | 2 => ("GargoyleClose$Reader", "length", "I", false)
  | 3 => ("GargoyleClose$Reader", "plan", "LGargoyleClose$Plan;", false)
  | 4 => ("GargoyleClose$Reader", "sort", "I", false)
  | 5 => ("GargoyleClose$Reader", "start", "I", false)
  | 6 => ("GargoyleClose$Reader", "stop", "I", false)
  | 7 => ("GargoyleClose$Reader", "value", "I", false)
  | 8 => ("GargoyleClose$Reader", "letters", "J", false)
  | 9 => ("GargoyleClose$Reader", "names", "[J", true)
  | 10 => ("GargoyleClose$Reader", "nameSorts", "[I", true)
  | 11 => ("GargoyleClose$Reader", "nameNumbers", "[I", true)
  | 12 => ("GargoyleClose$Reader", "nameCount", "I", false)
  | 13 => ("GargoyleClose$Reader", "found", "I", false)
  | _ => ("GargoyleClose$Reader", "foundAt", "I", false)
noncomputable def tyX4 : Nat → FieldType := fun k => match k with
  | 0 => .array .byte
  | 1 => .int
  | 2 => .int
  | 3 => .object "GargoyleClose$Plan"
  | 4 => .int
  | 5 => .int
  | 6 => .int
  | 7 => .int
  | 8 => .long
  | 9 => .array .long
  | 10 => .array .int
  | 11 => .array .int
  | 12 => .int
  | 13 => .int
  | _ => .int
theorem nmX4 : ∀ a, a < 15 → ∀ b, b < 15 → a ≠ b → (TX4 a).2.1 ≠ (TX4 b).2.1 := by decide +kernel
theorem tyX4_ok : ∀ k, k < 15 → parseFieldDescriptor (TX4 k).2.2.1 = some (tyX4 k) := by decide +kernel
noncomputable abbrev cX4_init : ByteArray := prog_6_method_1_code
noncomputable def yX4_init : MethodName := ⟨RX4, "<init>", "()V"⟩
noncomputable abbrev cX4_tape : ByteArray := prog_6_method_2_code
noncomputable def yX4_tape : MethodName := ⟨RX4, "tape", "(I)V"⟩
noncomputable abbrev cX4_reads : ByteArray := prog_6_method_3_code
noncomputable def yX4_reads : MethodName := ⟨RX4, "reads", "(ILGargoyleClose$Plan;)Z"⟩
noncomputable abbrev cX4_fails : ByteArray := prog_6_method_4_code
noncomputable def yX4_fails : MethodName := ⟨RX4, "fails", "(I)Z"⟩
noncomputable abbrev cX4_take : ByteArray := prog_6_method_5_code
noncomputable def yX4_take : MethodName := ⟨RX4, "take", "()V"⟩
noncomputable abbrev cX4_takeWord : ByteArray := prog_6_method_6_code
noncomputable def yX4_takeWord : MethodName := ⟨RX4, "takeWord", "()V"⟩
noncomputable abbrev cX4_takeWhole : ByteArray := prog_6_method_7_code
noncomputable def yX4_takeWhole : MethodName := ⟨RX4, "takeWhole", "()V"⟩
noncomputable abbrev cX4_isWord : ByteArray := prog_6_method_8_code
noncomputable def yX4_isWord : MethodName := ⟨RX4, "isWord", "(Ljava/lang/String;)Z"⟩
noncomputable abbrev cX4_beginsLine : ByteArray := prog_6_method_9_code
noncomputable def yX4_beginsLine : MethodName := ⟨RX4, "beginsLine", "()Z"⟩
noncomputable abbrev cX4_readsLine : ByteArray := prog_6_method_10_code
noncomputable def yX4_readsLine : MethodName := ⟨RX4, "readsLine", "()Z"⟩
noncomputable abbrev cX4_readsClose : ByteArray := prog_6_method_11_code
noncomputable def yX4_readsClose : MethodName := ⟨RX4, "readsClose", "()Z"⟩
noncomputable abbrev cX4_readsWall : ByteArray := prog_6_method_12_code
noncomputable def yX4_readsWall : MethodName := ⟨RX4, "readsWall", "()Z"⟩
noncomputable abbrev cX4_readsFace : ByteArray := prog_6_method_13_code
noncomputable def yX4_readsFace : MethodName := ⟨RX4, "readsFace", "()Z"⟩
noncomputable abbrev cX4_kindHere : ByteArray := prog_6_method_14_code
noncomputable def yX4_kindHere : MethodName := ⟨RX4, "kindHere", "()I"⟩
noncomputable abbrev cX4_readsCanon : ByteArray := prog_6_method_15_code
noncomputable def yX4_readsCanon : MethodName := ⟨RX4, "readsCanon", "()Z"⟩
noncomputable abbrev cX4_readsWalker : ByteArray := prog_6_method_16_code
noncomputable def yX4_readsWalker : MethodName := ⟨RX4, "readsWalker", "()Z"⟩
noncomputable abbrev cX4_readsUnsure : ByteArray := prog_6_method_17_code
noncomputable def yX4_readsUnsure : MethodName := ⟨RX4, "readsUnsure", "()Z"⟩
noncomputable abbrev cX4_readsDropped : ByteArray := prog_6_method_18_code
noncomputable def yX4_readsDropped : MethodName := ⟨RX4, "readsDropped", "()Z"⟩
noncomputable abbrev cX4_labelled : ByteArray := prog_6_method_19_code
noncomputable def yX4_labelled : MethodName := ⟨RX4, "labelled", "(Ljava/lang/String;II)Z"⟩
noncomputable abbrev cX4_bounded : ByteArray := prog_6_method_20_code
noncomputable def yX4_bounded : MethodName := ⟨RX4, "bounded", "(II)Z"⟩
noncomputable abbrev cX4_tells : ByteArray := prog_6_method_21_code
noncomputable def yX4_tells : MethodName := ⟨RX4, "tells", "(II)Z"⟩
noncomputable abbrev cX4_named : ByteArray := prog_6_method_22_code
noncomputable def yX4_named : MethodName := ⟨RX4, "named", "(I)I"⟩
noncomputable abbrev cX4_nameAt : ByteArray := prog_6_method_23_code
noncomputable def yX4_nameAt : MethodName := ⟨RX4, "nameAt", "()I"⟩
noncomputable def RX5 : String := "GargoyleClose$Ways"
noncomputable def TX5 : u_T := fun k => match k with
  | 0 => ("GargoyleClose$Ways", "cost", "[I", true)
  | _ => ("GargoyleClose$Ways", "wet", "I", false)
noncomputable def tyX5 : Nat → FieldType := fun k => match k with
  | 0 => .array .int
  | _ => .int
theorem nmX5 : ∀ a, a < 2 → ∀ b, b < 2 → a ≠ b → (TX5 a).2.1 ≠ (TX5 b).2.1 := by decide +kernel
theorem tyX5_ok : ∀ k, k < 2 → parseFieldDescriptor (TX5 k).2.2.1 = some (tyX5 k) := by decide +kernel
noncomputable abbrev cX5_init : ByteArray := prog_7_method_1_code
noncomputable def yX5_init : MethodName := ⟨RX5, "<init>", "()V"⟩
noncomputable abbrev cX5_beside : ByteArray := prog_7_method_2_code
noncomputable def yX5_beside : MethodName := ⟨RX5, "beside", "(LGargoyleClose$Plan;I)I"⟩
noncomputable abbrev cX5_fewest : ByteArray := prog_7_method_3_code
noncomputable def yX5_fewest : MethodName := ⟨RX5, "fewest", "(LGargoyleClose$Plan;III)I"⟩
noncomputable abbrev cX5_measure : ByteArray := prog_7_method_4_code
noncomputable def yX5_measure : MethodName := ⟨RX5, "measure", "(LGargoyleClose$Plan;II)V"⟩
noncomputable abbrev cX5_stepAt : ByteArray := prog_7_method_5_code
noncomputable def yX5_stepAt : MethodName := ⟨RX5, "stepAt", "(LGargoyleClose$Plan;II)I"⟩
noncomputable abbrev cX5_firstStep : ByteArray := prog_7_method_6_code
noncomputable def yX5_firstStep : MethodName := ⟨RX5, "firstStep", "(LGargoyleClose$Plan;I)I"⟩
noncomputable abbrev cX5_leastOnward : ByteArray := prog_7_method_7_code
noncomputable def yX5_leastOnward : MethodName := ⟨RX5, "leastOnward", "(LGargoyleClose$Plan;I)I"⟩
noncomputable abbrev cX5_weight : ByteArray := prog_7_method_8_code
noncomputable def yX5_weight : MethodName := ⟨RX5, "weight", "(I)I"⟩
noncomputable abbrev cX5_next : ByteArray := prog_7_method_9_code
noncomputable def yX5_next : MethodName := ⟨RX5, "next", "(LGargoyleClose$Plan;II)I"⟩
noncomputable def RX6 : String := "GargoyleClose"
noncomputable def TX6 : u_T := fun k => match k with
  | 0 => ("GargoyleClose", "reader", "LGargoyleClose$Reader;", true)
  | 1 => ("GargoyleClose", "plan", "LGargoyleClose$Plan;", false)
  | 2 => ("GargoyleClose", "spare", "LGargoyleClose$Plan;", false)
  | 3 => ("GargoyleClose", "now", "LGargoyleClose$Moment;", true)
  | 4 => ("GargoyleClose", "kept", "[LGargoyleClose$Moment;", true)
  | 5 => ("GargoyleClose", "keptNext", "I", false)
  | 6 => ("GargoyleClose", "keptCount", "I", false)
  | 7 => ("GargoyleClose", "images", "[LGargoyleClose$Moment;", true)
  | 8 => ("GargoyleClose", "imageCount", "I", false)
  | 9 => ("GargoyleClose", "course", "LGargoyleClose$Course;", true)
  | 10 => ("GargoyleClose", "ways", "LGargoyleClose$Ways;", true)
  | 11 => ("GargoyleClose", "matching", "LGargoyleClose$Matching;", true)
  | 12 => ("GargoyleClose", "wetOn", "[I", true)
  | _ => ("GargoyleClose", "refusal", "I", false)
noncomputable def tyX6 : Nat → FieldType := fun k => match k with
  | 0 => .object "GargoyleClose$Reader"
  | 1 => .object "GargoyleClose$Plan"
  | 2 => .object "GargoyleClose$Plan"
  | 3 => .object "GargoyleClose$Moment"
  | 4 => .array (.object "GargoyleClose$Moment")
  | 5 => .int
  | 6 => .int
  | 7 => .array (.object "GargoyleClose$Moment")
  | 8 => .int
  | 9 => .object "GargoyleClose$Course"
  | 10 => .object "GargoyleClose$Ways"
  | 11 => .object "GargoyleClose$Matching"
  | 12 => .array .int
  | _ => .int
theorem nmX6 : ∀ a, a < 14 → ∀ b, b < 14 → a ≠ b → (TX6 a).2.1 ≠ (TX6 b).2.1 := by decide +kernel
theorem tyX6_ok : ∀ k, k < 14 → parseFieldDescriptor (TX6 k).2.2.1 = some (tyX6 k) := by decide +kernel
noncomputable abbrev cX6_init : ByteArray := prog_1_method_1_code
noncomputable def yX6_init : MethodName := ⟨RX6, "<init>", "()V"⟩
noncomputable abbrev cX6_feed : ByteArray := prog_1_method_2_code
noncomputable def yX6_feed : MethodName := ⟨RX6, "feed", "(IIIII)I"⟩
noncomputable abbrev cX6_close : ByteArray := prog_1_method_3_code
noncomputable def yX6_close : MethodName := ⟨RX6, "close", "(I)I"⟩
noncomputable abbrev cX6_fault : ByteArray := prog_1_method_4_code
noncomputable def yX6_fault : MethodName := ⟨RX6, "fault", "()I"⟩
noncomputable abbrev cX6_where : ByteArray := prog_1_method_5_code
noncomputable def yX6_where : MethodName := ⟨RX6, "where", "()I"⟩
noncomputable abbrev cX6_face : ByteArray := prog_1_method_6_code
noncomputable def yX6_face : MethodName := ⟨RX6, "face", "(II)I"⟩
noncomputable abbrev cX6_canon : ByteArray := prog_1_method_7_code
noncomputable def yX6_canon : MethodName := ⟨RX6, "canon", "(II)I"⟩
noncomputable abbrev cX6_cell : ByteArray := prog_1_method_8_code
noncomputable def yX6_cell : MethodName := ⟨RX6, "cell", "(II)I"⟩
noncomputable abbrev cX6_burden : ByteArray := prog_1_method_9_code
noncomputable def yX6_burden : MethodName := ⟨RX6, "burden", "()I"⟩
noncomputable abbrev cX6_bears : ByteArray := prog_1_method_10_code
noncomputable def yX6_bears : MethodName := ⟨RX6, "bears", "(II)I"⟩
noncomputable abbrev cX6_holds : ByteArray := prog_1_method_11_code
noncomputable def yX6_holds : MethodName := ⟨RX6, "holds", "(II)I"⟩
noncomputable abbrev cX6_drops : ByteArray := prog_1_method_12_code
noncomputable def yX6_drops : MethodName := ⟨RX6, "drops", "(II)I"⟩
noncomputable abbrev cX6_dropsIn : ByteArray := prog_1_method_13_code
noncomputable def yX6_dropsIn : MethodName := ⟨RX6, "dropsIn", "(I)I"⟩
noncomputable abbrev cX6_fallsIn : ByteArray := prog_1_method_14_code
noncomputable def yX6_fallsIn : MethodName := ⟨RX6, "fallsIn", "(I)I"⟩
noncomputable abbrev cX6_wet : ByteArray := prog_1_method_15_code
noncomputable def yX6_wet : MethodName := ⟨RX6, "wet", "(I)I"⟩
noncomputable abbrev cX6_wetDays : ByteArray := prog_1_method_16_code
noncomputable def yX6_wetDays : MethodName := ⟨RX6, "wetDays", "(II)I"⟩
noncomputable abbrev cX6_wettest : ByteArray := prog_1_method_17_code
noncomputable def yX6_wettest : MethodName := ⟨RX6, "wettest", "()I"⟩
noncomputable abbrev cX6_sunny : ByteArray := prog_1_method_18_code
noncomputable def yX6_sunny : MethodName := ⟨RX6, "sunny", "()I"⟩
noncomputable abbrev cX6_heaviest : ByteArray := prog_1_method_19_code
noncomputable def yX6_heaviest : MethodName := ⟨RX6, "heaviest", "()I"⟩
noncomputable abbrev cX6_fallen : ByteArray := prog_1_method_20_code
noncomputable def yX6_fallen : MethodName := ⟨RX6, "fallen", "(I)I"⟩
noncomputable abbrev cX6_dropsIf : ByteArray := prog_1_method_21_code
noncomputable def yX6_dropsIf : MethodName := ⟨RX6, "dropsIf", "(III)I"⟩
noncomputable abbrev cX6_faceFor : ByteArray := prog_1_method_22_code
noncomputable def yX6_faceFor : MethodName := ⟨RX6, "faceFor", "(II)I"⟩
noncomputable abbrev cX6_match : ByteArray := prog_1_method_23_code
noncomputable def yX6_match : MethodName := ⟨RX6, "match", "(I)I"⟩
noncomputable abbrev cX6_matchDrops : ByteArray := prog_1_method_24_code
noncomputable def yX6_matchDrops : MethodName := ⟨RX6, "matchDrops", "(I)I"⟩
noncomputable abbrev cX6_matchAt : ByteArray := prog_1_method_25_code
noncomputable def yX6_matchAt : MethodName := ⟨RX6, "matchAt", "(II)I"⟩
noncomputable abbrev cX6_steps : ByteArray := prog_1_method_26_code
noncomputable def yX6_steps : MethodName := ⟨RX6, "steps", "(II)I"⟩
noncomputable abbrev cX6_wets : ByteArray := prog_1_method_27_code
noncomputable def yX6_wets : MethodName := ⟨RX6, "wets", "(II)I"⟩
noncomputable abbrev cX6_way : ByteArray := prog_1_method_28_code
noncomputable def yX6_way : MethodName := ⟨RX6, "way", "(II)I"⟩
noncomputable abbrev cX6_wayAt : ByteArray := prog_1_method_29_code
noncomputable def yX6_wayAt : MethodName := ⟨RX6, "wayAt", "(III)I"⟩
noncomputable abbrev cX6_dryDay : ByteArray := prog_1_method_30_code
noncomputable def yX6_dryDay : MethodName := ⟨RX6, "dryDay", "(I)I"⟩
noncomputable abbrev cX6_gate : ByteArray := prog_1_method_31_code
noncomputable def yX6_gate : MethodName := ⟨RX6, "gate", "()I"⟩
noncomputable abbrev cX6_fits : ByteArray := prog_1_method_32_code
noncomputable def yX6_fits : MethodName := ⟨RX6, "fits", "()I"⟩
noncomputable abbrev cX6_fitAt : ByteArray := prog_1_method_33_code
noncomputable def yX6_fitAt : MethodName := ⟨RX6, "fitAt", "(I)I"⟩
noncomputable abbrev cX6_could : ByteArray := prog_1_method_34_code
noncomputable def yX6_could : MethodName := ⟨RX6, "could", "()I"⟩
noncomputable abbrev cX6_surely : ByteArray := prog_1_method_35_code
noncomputable def yX6_surely : MethodName := ⟨RX6, "surely", "()I"⟩
noncomputable abbrev cX6_ask : ByteArray := prog_1_method_36_code
noncomputable def yX6_ask : MethodName := ⟨RX6, "ask", "()I"⟩
noncomputable abbrev cX6_askLeaves : ByteArray := prog_1_method_37_code
noncomputable def yX6_askLeaves : MethodName := ⟨RX6, "askLeaves", "()I"⟩
noncomputable abbrev cX6_judge : ByteArray := prog_1_method_38_code
noncomputable def yX6_judge : MethodName := ⟨RX6, "judge", "()I"⟩
noncomputable abbrev cX6_sulks : ByteArray := prog_1_method_39_code
noncomputable def yX6_sulks : MethodName := ⟨RX6, "sulks", "(IZZZ)I"⟩
noncomputable abbrev cX6_rests : ByteArray := prog_1_method_40_code
noncomputable def yX6_rests : MethodName := ⟨RX6, "rests", "(I)I"⟩
noncomputable abbrev cX6_rest : ByteArray := prog_1_method_41_code
noncomputable def yX6_rest : MethodName := ⟨RX6, "rest", "(I)I"⟩
noncomputable abbrev cX6_odds : ByteArray := prog_1_method_42_code
noncomputable def yX6_odds : MethodName := ⟨RX6, "odds", "(IIZ)J"⟩
noncomputable abbrev cX6_mean : ByteArray := prog_1_method_43_code
noncomputable def yX6_mean : MethodName := ⟨RX6, "mean", "(IIZ)J"⟩
noncomputable abbrev cX6_borne : ByteArray := prog_1_method_44_code
noncomputable def yX6_borne : MethodName := ⟨RX6, "borne", "(III)I"⟩
noncomputable abbrev cX6_firstWet : ByteArray := prog_1_method_45_code
noncomputable def yX6_firstWet : MethodName := ⟨RX6, "firstWet", "(II)I"⟩
noncomputable abbrev cX6_day : ByteArray := prog_1_method_46_code
noncomputable def yX6_day : MethodName := ⟨RX6, "day", "()I"⟩
noncomputable abbrev cX6_give : ByteArray := prog_1_method_47_code
noncomputable def yX6_give : MethodName := ⟨RX6, "give", "(II)I"⟩
noncomputable abbrev cX6_mend : ByteArray := prog_1_method_48_code
noncomputable def yX6_mend : MethodName := ⟨RX6, "mend", "(I)Z"⟩
noncomputable abbrev cX6_vex : ByteArray := prog_1_method_49_code
noncomputable def yX6_vex : MethodName := ⟨RX6, "vex", "(II)I"⟩
noncomputable abbrev cX6_undo : ByteArray := prog_1_method_50_code
noncomputable def yX6_undo : MethodName := ⟨RX6, "undo", "()Z"⟩
noncomputable abbrev cX6_image : ByteArray := prog_1_method_51_code
noncomputable def yX6_image : MethodName := ⟨RX6, "image", "()I"⟩
noncomputable abbrev cX6_back : ByteArray := prog_1_method_52_code
noncomputable def yX6_back : MethodName := ⟨RX6, "back", "(I)Z"⟩
noncomputable abbrev cX6_led : ByteArray := prog_1_method_53_code
noncomputable def yX6_led : MethodName := ⟨RX6, "led", "(I)I"⟩
noncomputable abbrev cX6_size : ByteArray := prog_1_method_54_code
noncomputable def yX6_size : MethodName := ⟨RX6, "size", "(I)I"⟩
noncomputable abbrev cX6_trouble : ByteArray := prog_1_method_55_code
noncomputable def yX6_trouble : MethodName := ⟨RX6, "trouble", "()I"⟩
noncomputable abbrev cX6_answer : ByteArray := prog_1_method_56_code
noncomputable def yX6_answer : MethodName := ⟨RX6, "answer", "(I)I"⟩
noncomputable abbrev cX6_refuse : ByteArray := prog_1_method_57_code
noncomputable def yX6_refuse : MethodName := ⟨RX6, "refuse", "(I)I"⟩
noncomputable abbrev cX6_within : ByteArray := prog_1_method_58_code
noncomputable def yX6_within : MethodName := ⟨RX6, "within", "(III)Z"⟩
noncomputable abbrev cX6_hasClose : ByteArray := prog_1_method_59_code
noncomputable def yX6_hasClose : MethodName := ⟨RX6, "hasClose", "()Z"⟩
noncomputable abbrev cX6_isFace : ByteArray := prog_1_method_60_code
noncomputable def yX6_isFace : MethodName := ⟨RX6, "isFace", "(I)Z"⟩
noncomputable abbrev cX6_isCanon : ByteArray := prog_1_method_61_code
noncomputable def yX6_isCanon : MethodName := ⟨RX6, "isCanon", "(I)Z"⟩
noncomputable abbrev cX6_isCell : ByteArray := prog_1_method_62_code
noncomputable def yX6_isCell : MethodName := ⟨RX6, "isCell", "(I)Z"⟩
noncomputable abbrev cX6_isWalker : ByteArray := prog_1_method_63_code
noncomputable def yX6_isWalker : MethodName := ⟨RX6, "isWalker", "(I)Z"⟩
noncomputable abbrev cX6_isSeed : ByteArray := prog_1_method_64_code
noncomputable def yX6_isSeed : MethodName := ⟨RX6, "isSeed", "(I)Z"⟩
noncomputable abbrev cX6_canonOf : ByteArray := prog_1_method_65_code
noncomputable def yX6_canonOf : MethodName := ⟨RX6, "canonOf", "(I)I"⟩
noncomputable abbrev cX6_canFollow : ByteArray := prog_1_method_66_code
noncomputable def yX6_canFollow : MethodName := ⟨RX6, "canFollow", "(II)Z"⟩
noncomputable abbrev cX6_canLookAhead : ByteArray := prog_1_method_67_code
noncomputable def yX6_canLookAhead : MethodName := ⟨RX6, "canLookAhead", "(III)Z"⟩
noncomputable abbrev cX6_canWalk : ByteArray := prog_1_method_68_code
noncomputable def yX6_canWalk : MethodName := ⟨RX6, "canWalk", "(II)Z"⟩
noncomputable abbrev cX6_canGame : ByteArray := prog_1_method_69_code
noncomputable def yX6_canGame : MethodName := ⟨RX6, "canGame", "(I)Z"⟩
noncomputable abbrev cX6_canChance : ByteArray := prog_1_method_70_code
noncomputable def yX6_canChance : MethodName := ⟨RX6, "canChance", "(II)Z"⟩
noncomputable abbrev cX6_numberFits : ByteArray := prog_1_method_71_code
noncomputable def yX6_numberFits : MethodName := ⟨RX6, "numberFits", "(III)Z"⟩
noncomputable abbrev cX6_startNow : ByteArray := prog_1_method_72_code
noncomputable def yX6_startNow : MethodName := ⟨RX6, "startNow", "(II)V"⟩
noncomputable abbrev cX6_follow : ByteArray := prog_1_method_73_code
noncomputable def yX6_follow : MethodName := ⟨RX6, "follow", "(II)V"⟩
noncomputable abbrev cX6_foretellWet : ByteArray := prog_1_method_74_code
noncomputable def yX6_foretellWet : MethodName := ⟨RX6, "foretellWet", "(I)V"⟩
noncomputable abbrev cX6_wetDaysOf : ByteArray := prog_1_method_75_code
noncomputable def yX6_wetDaysOf : MethodName := ⟨RX6, "wetDaysOf", "(II)I"⟩
noncomputable abbrev cX6_firstDropBySeed : ByteArray := prog_1_method_76_code
noncomputable def yX6_firstDropBySeed : MethodName := ⟨RX6, "firstDropBySeed", "(III)I"⟩
noncomputable abbrev cX6_draw : ByteArray := prog_1_method_77_code
noncomputable def yX6_draw : MethodName := ⟨RX6, "draw", "(I)I"⟩
noncomputable abbrev cX6_isCalm : ByteArray := prog_1_method_78_code
noncomputable def yX6_isCalm : MethodName := ⟨RX6, "isCalm", "(I)Z"⟩
noncomputable abbrev cX6_couldHave : ByteArray := prog_1_method_79_code
noncomputable def yX6_couldHave : MethodName := ⟨RX6, "couldHave", "(II)Z"⟩
noncomputable abbrev cX6_costOf : ByteArray := prog_1_method_80_code
noncomputable def yX6_costOf : MethodName := ⟨RX6, "costOf", "(III)I"⟩
noncomputable abbrev cX6_costIf : ByteArray := prog_1_method_81_code
noncomputable def yX6_costIf : MethodName := ⟨RX6, "costIf", "(III)I"⟩
noncomputable abbrev cX6_tooFewFaces : ByteArray := prog_1_method_82_code
noncomputable def yX6_tooFewFaces : MethodName := ⟨RX6, "tooFewFaces", "()Z"⟩
noncomputable abbrev cX6_makeMatch : ByteArray := prog_1_method_83_code
noncomputable def yX6_makeMatch : MethodName := ⟨RX6, "makeMatch", "(I)V"⟩
noncomputable abbrev cX6_wayCost : ByteArray := prog_1_method_84_code
noncomputable def yX6_wayCost : MethodName := ⟨RX6, "wayCost", "(II)I"⟩
noncomputable abbrev cX6_stepsTogether : ByteArray := prog_1_method_85_code
noncomputable def yX6_stepsTogether : MethodName := ⟨RX6, "stepsTogether", "(I)I"⟩
noncomputable abbrev cX6_fittingSets : ByteArray := prog_1_method_86_code
noncomputable def yX6_fittingSets : MethodName := ⟨RX6, "fittingSets", "()I"⟩
noncomputable abbrev cX6_setFits : ByteArray := prog_1_method_87_code
noncomputable def yX6_setFits : MethodName := ⟨RX6, "setFits", "(I)Z"⟩
noncomputable abbrev cX6_dropFits : ByteArray := prog_1_method_88_code
noncomputable def yX6_dropFits : MethodName := ⟨RX6, "dropFits", "(II)Z"⟩
noncomputable abbrev cX6_setsWith : ByteArray := prog_1_method_89_code
noncomputable def yX6_setsWith : MethodName := ⟨RX6, "setsWith", "(II)I"⟩
noncomputable abbrev cX6_leftAtMost : ByteArray := prog_1_method_90_code
noncomputable def yX6_leftAtMost : MethodName := ⟨RX6, "leftAtMost", "(II)I"⟩
noncomputable abbrev cX6_bestToAsk : ByteArray := prog_1_method_91_code
noncomputable def yX6_bestToAsk : MethodName := ⟨RX6, "bestToAsk", "(I)I"⟩
noncomputable abbrev cX6_share : ByteArray := prog_1_method_92_code
noncomputable def yX6_share : MethodName := ⟨RX6, "share", "(IIIZ)I"⟩
noncomputable abbrev cX6_isRest : ByteArray := prog_1_method_93_code
noncomputable def yX6_isRest : MethodName := ⟨RX6, "isRest", "(III)Z"⟩
noncomputable abbrev cX6_chance : ByteArray := prog_1_method_94_code
noncomputable def yX6_chance : MethodName := ⟨RX6, "chance", "(IIZZ)J"⟩
noncomputable abbrev cX6_greatestDivisor : ByteArray := prog_1_method_95_code
noncomputable def yX6_greatestDivisor : MethodName := ⟨RX6, "greatestDivisor", "(JJ)J"⟩
noncomputable abbrev cX6_keep : ByteArray := prog_1_method_96_code
noncomputable def yX6_keep : MethodName := ⟨RX6, "keep", "()V"⟩
noncomputable def RX7 : String := "GargoyleCloseModel"
noncomputable def TX7 : u_T := fun k => match k with
  | 0 => ("GargoyleCloseModel", "thrown", "I", false)
  | 1 => ("GargoyleCloseModel", "tape", "[I", true)
  | 2 => ("GargoyleCloseModel", "taped", "I", false)
  | 3 => ("GargoyleCloseModel", "size", "I", false)
  | 4 => ("GargoyleCloseModel", "at", "I", false)
  | 5 => ("GargoyleCloseModel", "end", "I", false)
  | 6 => ("GargoyleCloseModel", "token", "I", false)
  | 7 => ("GargoyleCloseModel", "whole", "I", false)
  | 8 => ("GargoyleCloseModel", "nameSize", "I", false)
  | 9 => ("GargoyleCloseModel", "fault", "I", false)
  | 10 => ("GargoyleCloseModel", "place", "I", false)
  | 11 => ("GargoyleCloseModel", "trouble", "I", false)
  | 12 => ("GargoyleCloseModel", "letters", "[I", true)
  | 13 => ("GargoyleCloseModel", "failed", "Z", false)
  | 14 => ("GargoyleCloseModel", "hasClose", "Z", false)
  | 15 => ("GargoyleCloseModel", "\x72", "[I", true)
  | 16 => ("GargoyleCloseModel", "fresh", "[I", true)
  | 17 => ("GargoyleCloseModel", "told", "[I", true)
  | 18 => ("GargoyleCloseModel", "read", "[I", true)
  | 19 => ("GargoyleCloseModel", "st", "[I", true)
  | 20 => ("GargoyleCloseModel", "undone", "[I", true)
  | 21 => ("GargoyleCloseModel", "kept", "[I", true)
  | 22 => ("GargoyleCloseModel", "undos", "I", false)
  | 23 => ("GargoyleCloseModel", "images", "I", false)
  | 24 => ("GargoyleCloseModel", "vexed", "[I", true)
  | 25 => ("GargoyleCloseModel", "trial", "[I", true)
  | 26 => ("GargoyleCloseModel", "goneWall", "I", false)
  | 27 => ("GargoyleCloseModel", "plan", "[I", true)
  | 28 => ("GargoyleCloseModel", "bestPlan", "[I", true)
  | 29 => ("GargoyleCloseModel", "planFalls", "I", false)
  | 30 => ("GargoyleCloseModel", "planLets", "I", false)
  | 31 => ("GargoyleCloseModel", "bestFalls", "I", false)
  | 32 => ("GargoyleCloseModel", "bestLets", "I", false)
  | 33 => ("GargoyleCloseModel", "cost", "[I", true)
  | 34 => ("GargoyleCloseModel", "firstDay", "[I", true)
  | 35 => ("GargoyleCloseModel", "often", "[I", true)
  | 36 => ("GargoyleCloseModel", "setMany", "I", false)
  | 37 => ("GargoyleCloseModel", "someOf", "I", false)
  | 38 => ("GargoyleCloseModel", "allOf", "I", false)
  | 39 => ("GargoyleCloseModel", "firstRest", "I", false)
  | 40 => ("GargoyleCloseModel", "allWeight", "J", false)
  | 41 => ("GargoyleCloseModel", "dropWeight", "J", false)
  | 42 => ("GargoyleCloseModel", "bearSum", "J", false)
  | _ => ("GargoyleCloseModel", "wetFirst", "I", false)
noncomputable def tyX7 : Nat → FieldType := fun k => match k with
  | 0 => .int
  | 1 => .array .int
  | 2 => .int
  | 3 => .int
  | 4 => .int
  | 5 => .int
  | 6 => .int
  | 7 => .int
  | 8 => .int
  | 9 => .int
  | 10 => .int
  | 11 => .int
  | 12 => .array .int
  | 13 => .boolean
  | 14 => .boolean
  | 15 => .array .int
  | 16 => .array .int
  | 17 => .array .int
  | 18 => .array .int
  | 19 => .array .int
  | 20 => .array .int
  | 21 => .array .int
  | 22 => .int
  | 23 => .int
  | 24 => .array .int
  | 25 => .array .int
  | 26 => .int
  | 27 => .array .int
  | 28 => .array .int
  | 29 => .int
  | 30 => .int
  | 31 => .int
  | 32 => .int
  | 33 => .array .int
  | 34 => .array .int
  | 35 => .array .int
  | 36 => .int
  | 37 => .int
  | 38 => .int
  | 39 => .int
  | 40 => .long
  | 41 => .long
  | 42 => .long
  | _ => .int
theorem nmX7 : ∀ a, a < 44 → ∀ b, b < 44 → a ≠ b → (TX7 a).2.1 ≠ (TX7 b).2.1 := by decide +kernel
theorem tyX7_ok : ∀ k, k < 44 → parseFieldDescriptor (TX7 k).2.2.1 = some (tyX7 k) := by decide +kernel
noncomputable abbrev cX7_init : ByteArray := prog_9_method_1_code
noncomputable def yX7_init : MethodName := ⟨RX7, "<init>", "()V"⟩
noncomputable abbrev cX7_good : ByteArray := prog_9_method_3_code
noncomputable def yX7_good : MethodName := ⟨RX7, "good", "()V"⟩
noncomputable abbrev cX7_no : ByteArray := prog_9_method_4_code
noncomputable def yX7_no : MethodName := ⟨RX7, "no", "(I)I"⟩
noncomputable abbrev cX7_isNot : ByteArray := prog_9_method_5_code
noncomputable def yX7_isNot : MethodName := ⟨RX7, "isNot", "(I)Z"⟩
noncomputable abbrev cX7_in : ByteArray := prog_9_method_6_code
noncomputable def yX7_in : MethodName := ⟨RX7, "in", "(III)Z"⟩
noncomputable abbrev cX7_hasBit : ByteArray := prog_9_method_7_code
noncomputable def yX7_hasBit : MethodName := ⟨RX7, "hasBit", "(II)Z"⟩
noncomputable abbrev cX7_ones : ByteArray := prog_9_method_8_code
noncomputable def yX7_ones : MethodName := ⟨RX7, "ones", "(I)I"⟩
noncomputable abbrev cX7_copy : ByteArray := prog_9_method_9_code
noncomputable def yX7_copy : MethodName := ⟨RX7, "copy", "([II[III)V"⟩
noncomputable abbrev cX7_lowest : ByteArray := prog_9_method_10_code
noncomputable def yX7_lowest : MethodName := ⟨RX7, "lowest", "(JJZ)J"⟩
noncomputable abbrev cX7_feed : ByteArray := prog_9_method_11_code
noncomputable def yX7_feed : MethodName := ⟨RX7, "feed", "(IIIII)I"⟩
noncomputable abbrev cX7_see : ByteArray := prog_9_method_12_code
noncomputable def yX7_see : MethodName := ⟨RX7, "see", "(I)I"⟩
noncomputable abbrev cX7_isSmall : ByteArray := prog_9_method_13_code
noncomputable def yX7_isSmall : MethodName := ⟨RX7, "isSmall", "(I)Z"⟩
noncomputable abbrev cX7_isDigit : ByteArray := prog_9_method_14_code
noncomputable def yX7_isDigit : MethodName := ⟨RX7, "isDigit", "(I)Z"⟩
noncomputable abbrev cX7_next : ByteArray := prog_9_method_15_code
noncomputable def yX7_next : MethodName := ⟨RX7, "next", "()V"⟩
noncomputable abbrev cX7_wrong : ByteArray := prog_9_method_16_code
noncomputable def yX7_wrong : MethodName := ⟨RX7, "wrong", "(II)V"⟩
noncomputable abbrev cX7_isWord : ByteArray := prog_9_method_17_code
noncomputable def yX7_isWord : MethodName := ⟨RX7, "isWord", "(Ljava/lang/String;)Z"⟩
noncomputable abbrev cX7_takesWord : ByteArray := prog_9_method_18_code
noncomputable def yX7_takesWord : MethodName := ⟨RX7, "takesWord", "(Ljava/lang/String;)Z"⟩
noncomputable abbrev cX7_must : ByteArray := prog_9_method_19_code
noncomputable def yX7_must : MethodName := ⟨RX7, "must", "(Ljava/lang/String;)V"⟩
noncomputable abbrev cX7_mustName : ByteArray := prog_9_method_20_code
noncomputable def yX7_mustName : MethodName := ⟨RX7, "mustName", "()V"⟩
noncomputable abbrev cX7_find : ByteArray := prog_9_method_21_code
noncomputable def yX7_find : MethodName := ⟨RX7, "find", "()I"⟩
noncomputable abbrev cX7_newName : ByteArray := prog_9_method_22_code
noncomputable def yX7_newName : MethodName := ⟨RX7, "newName", "(I)V"⟩
noncomputable abbrev cX7_named : ByteArray := prog_9_method_23_code
noncomputable def yX7_named : MethodName := ⟨RX7, "named", "(II)I"⟩
noncomputable abbrev cX7_pass : ByteArray := prog_9_method_24_code
noncomputable def yX7_pass : MethodName := ⟨RX7, "pass", "()V"⟩
noncomputable abbrev cX7_numberHere : ByteArray := prog_9_method_25_code
noncomputable def yX7_numberHere : MethodName := ⟨RX7, "numberHere", "(II)I"⟩
noncomputable abbrev cX7_number : ByteArray := prog_9_method_26_code
noncomputable def yX7_number : MethodName := ⟨RX7, "number", "(II)I"⟩
noncomputable abbrev cX7_after : ByteArray := prog_9_method_27_code
noncomputable def yX7_after : MethodName := ⟨RX7, "after", "(Ljava/lang/String;II)I"⟩
noncomputable abbrev cX7_close : ByteArray := prog_9_method_28_code
noncomputable def yX7_close : MethodName := ⟨RX7, "close", "(I)I"⟩
noncomputable abbrev cX7_begins : ByteArray := prog_9_method_29_code
noncomputable def yX7_begins : MethodName := ⟨RX7, "begins", "(Ljava/lang/String;Z)Z"⟩
noncomputable abbrev cX7_readLine : ByteArray := prog_9_method_30_code
noncomputable def yX7_readLine : MethodName := ⟨RX7, "readLine", "()V"⟩
noncomputable abbrev cX7_closeLine : ByteArray := prog_9_method_31_code
noncomputable def yX7_closeLine : MethodName := ⟨RX7, "closeLine", "()V"⟩
noncomputable abbrev cX7_cellHere : ByteArray := prog_9_method_32_code
noncomputable def yX7_cellHere : MethodName := ⟨RX7, "cellHere", "()I"⟩
noncomputable abbrev cX7_wallLine : ByteArray := prog_9_method_33_code
noncomputable def yX7_wallLine : MethodName := ⟨RX7, "wallLine", "()V"⟩
noncomputable abbrev cX7_faceLine : ByteArray := prog_9_method_34_code
noncomputable def yX7_faceLine : MethodName := ⟨RX7, "faceLine", "()V"⟩
noncomputable abbrev cX7_canonLine : ByteArray := prog_9_method_35_code
noncomputable def yX7_canonLine : MethodName := ⟨RX7, "canonLine", "()V"⟩
noncomputable abbrev cX7_openCell : ByteArray := prog_9_method_36_code
noncomputable def yX7_openCell : MethodName := ⟨RX7, "openCell", "()I"⟩
noncomputable abbrev cX7_walkerLine : ByteArray := prog_9_method_37_code
noncomputable def yX7_walkerLine : MethodName := ⟨RX7, "walkerLine", "()V"⟩
noncomputable abbrev cX7_unsureLine : ByteArray := prog_9_method_38_code
noncomputable def yX7_unsureLine : MethodName := ⟨RX7, "unsureLine", "()V"⟩
noncomputable abbrev cX7_droppedLine : ByteArray := prog_9_method_39_code
noncomputable def yX7_droppedLine : MethodName := ⟨RX7, "droppedLine", "()V"⟩
noncomputable abbrev cX7_fault : ByteArray := prog_9_method_40_code
noncomputable def yX7_fault : MethodName := ⟨RX7, "fault", "()I"⟩
noncomputable abbrev cX7_where : ByteArray := prog_9_method_41_code
noncomputable def yX7_where : MethodName := ⟨RX7, "where", "()I"⟩
noncomputable abbrev cX7_isFace : ByteArray := prog_9_method_42_code
noncomputable def yX7_isFace : MethodName := ⟨RX7, "isFace", "(I)Z"⟩
noncomputable abbrev cX7_isCanon : ByteArray := prog_9_method_43_code
noncomputable def yX7_isCanon : MethodName := ⟨RX7, "isCanon", "(I)Z"⟩
noncomputable abbrev cX7_cells : ByteArray := prog_9_method_44_code
noncomputable def yX7_cells : MethodName := ⟨RX7, "cells", "()I"⟩
noncomputable abbrev cX7_isCell : ByteArray := prog_9_method_45_code
noncomputable def yX7_isCell : MethodName := ⟨RX7, "isCell", "(I)Z"⟩
noncomputable abbrev cX7_isWalker : ByteArray := prog_9_method_46_code
noncomputable def yX7_isWalker : MethodName := ⟨RX7, "isWalker", "(I)Z"⟩
noncomputable abbrev cX7_why : ByteArray := prog_9_method_47_code
noncomputable def yX7_why : MethodName := ⟨RX7, "why", "(ZZ)I"⟩
noncomputable abbrev cX7_vexedBy : ByteArray := prog_9_method_48_code
noncomputable def yX7_vexedBy : MethodName := ⟨RX7, "vexedBy", "(I)V"⟩
noncomputable abbrev cX7_letsGo : ByteArray := prog_9_method_49_code
noncomputable def yX7_letsGo : MethodName := ⟨RX7, "letsGo", "([II)I"⟩
noncomputable abbrev cX7_dayOn : ByteArray := prog_9_method_50_code
noncomputable def yX7_dayOn : MethodName := ⟨RX7, "dayOn", "([IZ)V"⟩
noncomputable abbrev cX7_daysOn : ByteArray := prog_9_method_51_code
noncomputable def yX7_daysOn : MethodName := ⟨RX7, "daysOn", "(I)V"⟩
noncomputable abbrev cX7_letsOf : ByteArray := prog_9_method_52_code
noncomputable def yX7_letsOf : MethodName := ⟨RX7, "letsOf", "([I)I"⟩
noncomputable abbrev cX7_fallenOn : ByteArray := prog_9_method_53_code
noncomputable def yX7_fallenOn : MethodName := ⟨RX7, "fallenOn", "([I)I"⟩
noncomputable abbrev cX7_canonOf : ByteArray := prog_9_method_54_code
noncomputable def yX7_canonOf : MethodName := ⟨RX7, "canonOf", "(I)I"⟩
noncomputable abbrev cX7_face : ByteArray := prog_9_method_55_code
noncomputable def yX7_face : MethodName := ⟨RX7, "face", "(II)I"⟩
noncomputable abbrev cX7_canon : ByteArray := prog_9_method_56_code
noncomputable def yX7_canon : MethodName := ⟨RX7, "canon", "(II)I"⟩
noncomputable abbrev cX7_faceOver : ByteArray := prog_9_method_57_code
noncomputable def yX7_faceOver : MethodName := ⟨RX7, "faceOver", "(I)I"⟩
noncomputable abbrev cX7_isWall : ByteArray := prog_9_method_58_code
noncomputable def yX7_isWall : MethodName := ⟨RX7, "isWall", "(I)Z"⟩
noncomputable abbrev cX7_stepFrom : ByteArray := prog_9_method_59_code
noncomputable def yX7_stepFrom : MethodName := ⟨RX7, "stepFrom", "(II)I"⟩
noncomputable abbrev cX7_beside : ByteArray := prog_9_method_60_code
noncomputable def yX7_beside : MethodName := ⟨RX7, "beside", "(I)I"⟩
noncomputable abbrev cX7_cell : ByteArray := prog_9_method_61_code
noncomputable def yX7_cell : MethodName := ⟨RX7, "cell", "(II)I"⟩
noncomputable abbrev cX7_burden : ByteArray := prog_9_method_62_code
noncomputable def yX7_burden : MethodName := ⟨RX7, "burden", "()I"⟩
noncomputable abbrev cX7_aheadWhy : ByteArray := prog_9_method_63_code
noncomputable def yX7_aheadWhy : MethodName := ⟨RX7, "aheadWhy", "(ZII)I"⟩
noncomputable abbrev cX7_bears : ByteArray := prog_9_method_64_code
noncomputable def yX7_bears : MethodName := ⟨RX7, "bears", "(II)I"⟩
noncomputable abbrev cX7_holds : ByteArray := prog_9_method_65_code
noncomputable def yX7_holds : MethodName := ⟨RX7, "holds", "(II)I"⟩
noncomputable abbrev cX7_drops : ByteArray := prog_9_method_66_code
noncomputable def yX7_drops : MethodName := ⟨RX7, "drops", "(II)I"⟩
noncomputable abbrev cX7_dropsIn : ByteArray := prog_9_method_67_code
noncomputable def yX7_dropsIn : MethodName := ⟨RX7, "dropsIn", "(I)I"⟩
noncomputable abbrev cX7_fallsIn : ByteArray := prog_9_method_68_code
noncomputable def yX7_fallsIn : MethodName := ⟨RX7, "fallsIn", "(I)I"⟩
noncomputable abbrev cX7_wet : ByteArray := prog_9_method_69_code
noncomputable def yX7_wet : MethodName := ⟨RX7, "wet", "(I)I"⟩
noncomputable abbrev cX7_wetOften : ByteArray := prog_9_method_70_code
noncomputable def yX7_wetOften : MethodName := ⟨RX7, "wetOften", "(II)I"⟩
noncomputable abbrev cX7_wetDays : ByteArray := prog_9_method_71_code
noncomputable def yX7_wetDays : MethodName := ⟨RX7, "wetDays", "(II)I"⟩
noncomputable abbrev cX7_wettest : ByteArray := prog_9_method_72_code
noncomputable def yX7_wettest : MethodName := ⟨RX7, "wettest", "()I"⟩
noncomputable abbrev cX7_sunny : ByteArray := prog_9_method_73_code
noncomputable def yX7_sunny : MethodName := ⟨RX7, "sunny", "()I"⟩
noncomputable abbrev cX7_heaviest : ByteArray := prog_9_method_74_code
noncomputable def yX7_heaviest : MethodName := ⟨RX7, "heaviest", "()I"⟩
noncomputable abbrev cX7_fallen : ByteArray := prog_9_method_75_code
noncomputable def yX7_fallen : MethodName := ⟨RX7, "fallen", "(I)I"⟩
noncomputable abbrev cX7_planAsNow : ByteArray := prog_9_method_76_code
noncomputable def yX7_planAsNow : MethodName := ⟨RX7, "planAsNow", "()V"⟩
noncomputable abbrev cX7_goByPlan : ByteArray := prog_9_method_77_code
noncomputable def yX7_goByPlan : MethodName := ⟨RX7, "goByPlan", "(I)V"⟩
noncomputable abbrev cX7_mayHave : ByteArray := prog_9_method_78_code
noncomputable def yX7_mayHave : MethodName := ⟨RX7, "mayHave", "(II)Z"⟩
noncomputable abbrev cX7_planWhy : ByteArray := prog_9_method_79_code
noncomputable def yX7_planWhy : MethodName := ⟨RX7, "planWhy", "(ZI)I"⟩
noncomputable abbrev cX7_dropsIf : ByteArray := prog_9_method_80_code
noncomputable def yX7_dropsIf : MethodName := ⟨RX7, "dropsIf", "(III)I"⟩
noncomputable abbrev cX7_isBest : ByteArray := prog_9_method_81_code
noncomputable def yX7_isBest : MethodName := ⟨RX7, "isBest", "(I)Z"⟩
noncomputable abbrev cX7_faceFor : ByteArray := prog_9_method_82_code
noncomputable def yX7_faceFor : MethodName := ⟨RX7, "faceFor", "(II)I"⟩
noncomputable abbrev cX7_tryPlans : ByteArray := prog_9_method_83_code
noncomputable def yX7_tryPlans : MethodName := ⟨RX7, "tryPlans", "(III)V"⟩
noncomputable abbrev cX7_seekMatch : ByteArray := prog_9_method_84_code
noncomputable def yX7_seekMatch : MethodName := ⟨RX7, "seekMatch", "(I)V"⟩
noncomputable abbrev cX7_match : ByteArray := prog_9_method_85_code
noncomputable def yX7_match : MethodName := ⟨RX7, "match", "(I)I"⟩
noncomputable abbrev cX7_matchDrops : ByteArray := prog_9_method_86_code
noncomputable def yX7_matchDrops : MethodName := ⟨RX7, "matchDrops", "(I)I"⟩
noncomputable abbrev cX7_matchAt : ByteArray := prog_9_method_87_code
noncomputable def yX7_matchAt : MethodName := ⟨RX7, "matchAt", "(II)I"⟩
noncomputable abbrev cX7_costOf : ByteArray := prog_9_method_88_code
noncomputable def yX7_costOf : MethodName := ⟨RX7, "costOf", "(II)I"⟩
noncomputable abbrev cX7_layCosts : ByteArray := prog_9_method_89_code
noncomputable def yX7_layCosts : MethodName := ⟨RX7, "layCosts", "(II)V"⟩
noncomputable abbrev cX7_stepsOf : ByteArray := prog_9_method_90_code
noncomputable def yX7_stepsOf : MethodName := ⟨RX7, "stepsOf", "(II)I"⟩
noncomputable abbrev cX7_steps : ByteArray := prog_9_method_91_code
noncomputable def yX7_steps : MethodName := ⟨RX7, "steps", "(II)I"⟩
noncomputable abbrev cX7_wayOf : ByteArray := prog_9_method_92_code
noncomputable def yX7_wayOf : MethodName := ⟨RX7, "wayOf", "(II)I"⟩
noncomputable abbrev cX7_wets : ByteArray := prog_9_method_93_code
noncomputable def yX7_wets : MethodName := ⟨RX7, "wets", "(II)I"⟩
noncomputable abbrev cX7_way : ByteArray := prog_9_method_94_code
noncomputable def yX7_way : MethodName := ⟨RX7, "way", "(II)I"⟩
noncomputable abbrev cX7_wayAt : ByteArray := prog_9_method_95_code
noncomputable def yX7_wayAt : MethodName := ⟨RX7, "wayAt", "(III)I"⟩
noncomputable abbrev cX7_dryDay : ByteArray := prog_9_method_96_code
noncomputable def yX7_dryDay : MethodName := ⟨RX7, "dryDay", "(I)I"⟩
noncomputable abbrev cX7_allSteps : ByteArray := prog_9_method_97_code
noncomputable def yX7_allSteps : MethodName := ⟨RX7, "allSteps", "()I"⟩
noncomputable abbrev cX7_gate : ByteArray := prog_9_method_98_code
noncomputable def yX7_gate : MethodName := ⟨RX7, "gate", "()I"⟩
noncomputable abbrev cX7_wrongBy : ByteArray := prog_9_method_99_code
noncomputable def yX7_wrongBy : MethodName := ⟨RX7, "wrongBy", "(I)I"⟩
noncomputable abbrev cX7_seekSets : ByteArray := prog_9_method_100_code
noncomputable def yX7_seekSets : MethodName := ⟨RX7, "seekSets", "(I)I"⟩
noncomputable abbrev cX7_fits : ByteArray := prog_9_method_101_code
noncomputable def yX7_fits : MethodName := ⟨RX7, "fits", "()I"⟩
noncomputable abbrev cX7_fitAt : ByteArray := prog_9_method_102_code
noncomputable def yX7_fitAt : MethodName := ⟨RX7, "fitAt", "(I)I"⟩
noncomputable abbrev cX7_could : ByteArray := prog_9_method_103_code
noncomputable def yX7_could : MethodName := ⟨RX7, "could", "()I"⟩
noncomputable abbrev cX7_surely : ByteArray := prog_9_method_104_code
noncomputable def yX7_surely : MethodName := ⟨RX7, "surely", "()I"⟩
noncomputable abbrev cX7_leavesOf : ByteArray := prog_9_method_105_code
noncomputable def yX7_leavesOf : MethodName := ⟨RX7, "leavesOf", "(I)I"⟩
noncomputable abbrev cX7_askOf : ByteArray := prog_9_method_106_code
noncomputable def yX7_askOf : MethodName := ⟨RX7, "askOf", "()I"⟩
noncomputable abbrev cX7_ask : ByteArray := prog_9_method_107_code
noncomputable def yX7_ask : MethodName := ⟨RX7, "ask", "()I"⟩
noncomputable abbrev cX7_askLeaves : ByteArray := prog_9_method_108_code
noncomputable def yX7_askLeaves : MethodName := ⟨RX7, "askLeaves", "()I"⟩
noncomputable abbrev cX7_judge : ByteArray := prog_9_method_109_code
noncomputable def yX7_judge : MethodName := ⟨RX7, "judge", "()I"⟩
noncomputable abbrev cX7_canonHas : ByteArray := prog_9_method_110_code
noncomputable def yX7_canonHas : MethodName := ⟨RX7, "canonHas", "(IZZ)I"⟩
noncomputable abbrev cX7_breadHas : ByteArray := prog_9_method_111_code
noncomputable def yX7_breadHas : MethodName := ⟨RX7, "breadHas", "(ZZ)I"⟩
noncomputable abbrev cX7_sulks : ByteArray := prog_9_method_112_code
noncomputable def yX7_sulks : MethodName := ⟨RX7, "sulks", "(IZZZ)I"⟩
noncomputable abbrev cX7_seekRests : ByteArray := prog_9_method_113_code
noncomputable def yX7_seekRests : MethodName := ⟨RX7, "seekRests", "(I)I"⟩
noncomputable abbrev cX7_rests : ByteArray := prog_9_method_114_code
noncomputable def yX7_rests : MethodName := ⟨RX7, "rests", "(I)I"⟩
noncomputable abbrev cX7_rest : ByteArray := prog_9_method_115_code
noncomputable def yX7_rest : MethodName := ⟨RX7, "rest", "(I)I"⟩
noncomputable abbrev cX7_tryCalms : ByteArray := prog_9_method_116_code
noncomputable def yX7_tryCalms : MethodName := ⟨RX7, "tryCalms", "(II)V"⟩
noncomputable abbrev cX7_odds : ByteArray := prog_9_method_117_code
noncomputable def yX7_odds : MethodName := ⟨RX7, "odds", "(IIZ)J"⟩
noncomputable abbrev cX7_mean : ByteArray := prog_9_method_118_code
noncomputable def yX7_mean : MethodName := ⟨RX7, "mean", "(IIZ)J"⟩
noncomputable abbrev cX7_drawWhy : ByteArray := prog_9_method_119_code
noncomputable def yX7_drawWhy : MethodName := ⟨RX7, "drawWhy", "(ZII)I"⟩
noncomputable abbrev cX7_borne : ByteArray := prog_9_method_120_code
noncomputable def yX7_borne : MethodName := ⟨RX7, "borne", "(III)I"⟩
noncomputable abbrev cX7_firstWet : ByteArray := prog_9_method_121_code
noncomputable def yX7_firstWet : MethodName := ⟨RX7, "firstWet", "(II)I"⟩
noncomputable abbrev cX7_note : ByteArray := prog_9_method_122_code
noncomputable def yX7_note : MethodName := ⟨RX7, "note", "()V"⟩
noncomputable abbrev cX7_day : ByteArray := prog_9_method_123_code
noncomputable def yX7_day : MethodName := ⟨RX7, "day", "()I"⟩
noncomputable abbrev cX7_give : ByteArray := prog_9_method_124_code
noncomputable def yX7_give : MethodName := ⟨RX7, "give", "(II)I"⟩
noncomputable abbrev cX7_mend : ByteArray := prog_9_method_125_code
noncomputable def yX7_mend : MethodName := ⟨RX7, "mend", "(I)Z"⟩
noncomputable abbrev cX7_vex : ByteArray := prog_9_method_126_code
noncomputable def yX7_vex : MethodName := ⟨RX7, "vex", "(II)I"⟩
noncomputable abbrev cX7_undo : ByteArray := prog_9_method_127_code
noncomputable def yX7_undo : MethodName := ⟨RX7, "undo", "()Z"⟩
noncomputable abbrev cX7_image : ByteArray := prog_9_method_128_code
noncomputable def yX7_image : MethodName := ⟨RX7, "image", "()I"⟩
noncomputable abbrev cX7_back : ByteArray := prog_9_method_129_code
noncomputable def yX7_back : MethodName := ⟨RX7, "back", "(I)Z"⟩
noncomputable abbrev cX7_led : ByteArray := prog_9_method_130_code
noncomputable def yX7_led : MethodName := ⟨RX7, "led", "(I)I"⟩
noncomputable abbrev cX7_size : ByteArray := prog_9_method_131_code
noncomputable def yX7_size : MethodName := ⟨RX7, "size", "(I)I"⟩
noncomputable abbrev cX7_trouble : ByteArray := prog_9_method_132_code
noncomputable def yX7_trouble : MethodName := ⟨RX7, "trouble", "()I"⟩
noncomputable def RJ6 : String := "java/lang/Integer"
noncomputable abbrev cJ6_bitCount_0f7a4 : ByteArray := prog_14_method_49_code
noncomputable def yJ6_bitCount_0f7a4 : MethodName := ⟨RJ6, "bitCount", "(I)I"⟩
noncomputable def RJ9 : String := "java/lang/Math"
noncomputable abbrev cJ9_max_7cf53 : ByteArray := prog_15_method_65_code
noncomputable def yJ9_max_7cf53 : MethodName := ⟨RJ9, "max", "(II)I"⟩
noncomputable abbrev cJ9_max_f86c9 : ByteArray := prog_15_method_66_code
noncomputable def yJ9_max_f86c9 : MethodName := ⟨RJ9, "max", "(JJ)J"⟩
noncomputable abbrev cJ9_min_7cf53 : ByteArray := prog_15_method_69_code
noncomputable def yJ9_min_7cf53 : MethodName := ⟨RJ9, "min", "(II)I"⟩
noncomputable def RJ0 : String := "java/lang/String"
noncomputable abbrev cJ0_length_8abf5 : ByteArray := prog_17_method_54_code
noncomputable def yJ0_length_8abf5 : MethodName := ⟨RJ0, "length", "()I"⟩
noncomputable abbrev cJ0_charAt_5068e : ByteArray := prog_17_method_56_code
noncomputable def yJ0_charAt_5068e : MethodName := ⟨RJ0, "charAt", "(I)C"⟩
noncomputable abbrev cJ0_coder_7d493 : ByteArray := prog_17_method_152_code
noncomputable def yJ0_coder_7d493 : MethodName := ⟨RJ0, "coder", "()B"⟩
noncomputable abbrev cJ0_isLatin1_aae02 : ByteArray := prog_17_method_154_code
noncomputable def yJ0_isLatin1_aae02 : MethodName := ⟨RJ0, "isLatin1", "()Z"⟩
noncomputable abbrev cJ0_checkIndex_df160 : ByteArray := prog_17_method_155_code
noncomputable def yJ0_checkIndex_df160 : MethodName := ⟨RJ0, "checkIndex", "(II)V"⟩
noncomputable def RJ1 : String := "java/lang/StringLatin1"
noncomputable abbrev cJ1_charAt_3b067 : ByteArray := prog_18_method_2_code
noncomputable def yJ1_charAt_3b067 : MethodName := ⟨RJ1, "charAt", "([BI)C"⟩
noncomputable def RJ3 : String := "jdk/internal/util/Preconditions"
noncomputable abbrev cJ3_checkIndex_8e157 : ByteArray := prog_25_method_11_code
noncomputable def yJ3_checkIndex_8e157 : MethodName := ⟨RJ3, "checkIndex", "(IILjava/util/function/BiFunction;)I"⟩
noncomputable def RL : String := "GargoyleCloseLaw"
noncomputable abbrev cL_led : ByteArray := method_3_code
noncomputable def yL_led : MethodName := ⟨RL, "led", "(LGargoyleClose;I[J)I"⟩
noncomputable abbrev cL_law : ByteArray := code
noncomputable def yL_law : MethodName := ⟨RL, "law", "([I)Z"⟩
noncomputable abbrev vwCl : List vw_C := [(RX0, TX0, 8), (RX1, TX1, 9), (RX2, TX2, 6), (RX3, TX3, 20), (RX4, TX4, 15), (RX5, TX5, 2), (RX6, TX6, 14), (RX7, TX7, 44)]
end
section
/-- a method: its name, code, locals, answer -/
noncomputable abbrev Md : Type := MethodName × ByteArray × Nat × Option FieldType
/-- the tables' words that stay -/
noncomputable def wB : List Cond := lw_tbl.filter goodWord
noncomputable def wz (q : Md) : List Cond := .code q.1 q.2.1 q.2.2.1 q.2.2.2 :: wB
theorem wB_of {w : Cond} (i : Nat) (h : lw_tbl[i]? = some w) (hg : goodWord w = true) : w ∈ wB := List.mem_filter.mpr ⟨List.mem_of_getElem? h, hg⟩
theorem wT1 {w : Cond} (i : Nat) (e : tables_1_1[i]? = some w) (hg : goodWord w = true) : w ∈ wB := by
  have h := List.mem_of_getElem? e
  exact List.mem_filter.mpr ⟨List.mem_append_right _ (List.mem_append_left _ h), hg⟩
theorem wT2 {w : Cond} (i : Nat) (e : tables_1_2[i]? = some w) (hg : goodWord w = true) : w ∈ wB := by
  have h := List.mem_of_getElem? e
  exact List.mem_filter.mpr ⟨List.mem_append_right _ (List.mem_append_right _ (List.mem_append_left _ h)), hg⟩
theorem wT3 {w : Cond} (i : Nat) (e : tables_1_3[i]? = some w) (hg : goodWord w = true) : w ∈ wB := by
  have h := List.mem_of_getElem? e
  exact List.mem_filter.mpr ⟨List.mem_append_right _ (List.mem_append_right _ (List.mem_append_right _ (List.mem_append_left _ h))), hg⟩
theorem wT4 {w : Cond} (i : Nat) (e : tables_1_4[i]? = some w) (hg : goodWord w = true) : w ∈ wB := by
  have h := List.mem_of_getElem? e
  exact List.mem_filter.mpr ⟨List.mem_append_right _ (List.mem_append_right _ (List.mem_append_right _ (List.mem_append_right _ (List.mem_append_left _ h)))), hg⟩
theorem wT5 {w : Cond} (i : Nat) (e : tables_1_5[i]? = some w) (hg : goodWord w = true) : w ∈ wB := by
  have h := List.mem_of_getElem? e
  exact List.mem_filter.mpr ⟨List.mem_append_right _ (List.mem_append_right _ (List.mem_append_right _ (List.mem_append_right _ (List.mem_append_right _ (List.mem_append_left _ h))))), hg⟩
theorem wT6 {w : Cond} (i : Nat) (e : tables_1_6[i]? = some w) (hg : goodWord w = true) : w ∈ wB := by
  have h := List.mem_of_getElem? e
  exact List.mem_filter.mpr ⟨List.mem_append_right _ (List.mem_append_right _ (List.mem_append_right _ (List.mem_append_right _ (List.mem_append_right _ (List.mem_append_right _ (List.mem_append_left _ h)))))), hg⟩
theorem wT7 {w : Cond} (i : Nat) (e : tables_1_7[i]? = some w) (hg : goodWord w = true) : w ∈ wB := by
  have h := List.mem_of_getElem? e
  exact List.mem_filter.mpr ⟨List.mem_append_right _ (List.mem_append_right _ (List.mem_append_right _ (List.mem_append_right _ (List.mem_append_right _ (List.mem_append_right _ (List.mem_append_right _ (List.mem_append_left _ h))))))), hg⟩
theorem wT8 {w : Cond} (i : Nat) (e : tables_1_8[i]? = some w) (hg : goodWord w = true) : w ∈ wB := by
  have h := List.mem_of_getElem? e
  exact List.mem_filter.mpr ⟨List.mem_append_right _ (List.mem_append_right _ (List.mem_append_right _ (List.mem_append_right _ (List.mem_append_right _ (List.mem_append_right _ (List.mem_append_right _ (List.mem_append_right _ (h)))))))), hg⟩
/-- what a callee's words say -/
noncomputable def cW (q' : Md) (n : Nat) : Prop := Cond.code q'.1 q'.2.1 q'.2.2.1 q'.2.2.2 ∈ wB ∧ Cond.initialized q'.1.cls ∈ wB ∧ (q'.1.cls ≠ "java/lang/invoke/MethodHandle" ∧ q'.1.cls ≠ "java/lang/invoke/VarHandle" ∧ (parseMethodDescriptor q'.1.desc).map (fun d => d.parameters.length) = some n) ∧ q'.2.2.1 ≤ 45
noncomputable def cV (q' : Md) (n : Nat) : Prop := cW q' n ∧ Cond.instanceMethod q'.1 ∈ wB ∧ Cond.selects q'.1.cls q'.1 q'.1 ∈ wB
noncomputable def cT (q' : Md) (n : Nat) : Prop := cW q' n ∧ Cond.static q'.1 ∈ wB
noncomputable def uX0_init : Md := (yX0_init, cX0_init, 1, none)
noncomputable def uX0_start : Md := (yX0_start, cX0_start, 5, none)
noncomputable def uX0_pass : Md := (yX0_pass, cX0_pass, 3, (some .boolean))
noncomputable def uX0_passAll : Md := (yX0_passAll, cX0_passAll, 3, none)
noncomputable def uX0_firstDrop : Md := (yX0_firstDrop, cX0_firstDrop, 3, (some .int))
noncomputable def uX1_init : Md := (yX1_init, cX1_init, 1, none)
noncomputable def uX1_clear : Md := (yX1_clear, cX1_clear, 3, none)
noncomputable def uX1_addFace : Md := (yX1_addFace, cX1_addFace, 3, none)
noncomputable def uX1_setCost : Md := (yX1_setCost, cX1_setCost, 4, none)
noncomputable def uX1_solve : Md := (yX1_solve, cX1_solve, 1, none)
noncomputable def uX1_place : Md := (yX1_place, cX1_place, 5, none)
noncomputable def uX2_init : Md := (yX2_init, cX2_init, 1, none)
noncomputable def uX2_begin : Md := (yX2_begin, cX2_begin, 3, none)
noncomputable def uX2_copy : Md := (yX2_copy, cX2_copy, 2, none)
noncomputable def uX2_hasFallen : Md := (yX2_hasFallen, cX2_hasFallen, 2, (some .boolean))
noncomputable def uX3_init : Md := (yX3_init, cX3_init, 1, none)
noncomputable def uX3_clear : Md := (yX3_clear, cX3_clear, 2, none)
noncomputable def uX3_cells : Md := (yX3_cells, cX3_cells, 1, (some .int))
noncomputable def uX3_isWall : Md := (yX3_isWall, cX3_isWall, 2, (some .boolean))
noncomputable def uX3_wallCount : Md := (yX3_wallCount, cX3_wallCount, 1, (some .int))
noncomputable def uX3_open : Md := (yX3_open, cX3_open, 1, (some .int))
noncomputable def uX3_faceOver : Md := (yX3_faceOver, cX3_faceOver, 3, (some .int))
noncomputable def uX3_toldCanonOf : Md := (yX3_toldCanonOf, cX3_toldCanonOf, 3, (some .int))
noncomputable def uX3_unsureOf : Md := (yX3_unsureOf, cX3_unsureOf, 3, (some .int))
noncomputable def uX3_vexedBy : Md := (yX3_vexedBy, cX3_vexedBy, 4, (some .int))
noncomputable def uX3_droppedCount : Md := (yX3_droppedCount, cX3_droppedCount, 3, (some .int))
noncomputable def uX4_init : Md := (yX4_init, cX4_init, 1, none)
noncomputable def uX4_tape : Md := (yX4_tape, cX4_tape, 3, none)
noncomputable def uX4_reads : Md := (yX4_reads, cX4_reads, 4, (some .boolean))
noncomputable def uX4_fails : Md := (yX4_fails, cX4_fails, 2, (some .boolean))
noncomputable def uX4_take : Md := (yX4_take, cX4_take, 1, none)
noncomputable def uX4_takeWord : Md := (yX4_takeWord, cX4_takeWord, 1, none)
noncomputable def uX4_takeWhole : Md := (yX4_takeWhole, cX4_takeWhole, 1, none)
noncomputable def uX4_isWord : Md := (yX4_isWord, cX4_isWord, 3, (some .boolean))
noncomputable def uX4_beginsLine : Md := (yX4_beginsLine, cX4_beginsLine, 1, (some .boolean))
noncomputable def uX4_readsLine : Md := (yX4_readsLine, cX4_readsLine, 1, (some .boolean))
noncomputable def uX4_readsClose : Md := (yX4_readsClose, cX4_readsClose, 3, (some .boolean))
noncomputable def uX4_readsWall : Md := (yX4_readsWall, cX4_readsWall, 1, (some .boolean))
noncomputable def uX4_readsFace : Md := (yX4_readsFace, cX4_readsFace, 3, (some .boolean))
noncomputable def uX4_kindHere : Md := (yX4_kindHere, cX4_kindHere, 1, (some .int))
noncomputable def uX4_readsCanon : Md := (yX4_readsCanon, cX4_readsCanon, 3, (some .boolean))
noncomputable def uX4_readsWalker : Md := (yX4_readsWalker, cX4_readsWalker, 2, (some .boolean))
noncomputable def uX4_readsUnsure : Md := (yX4_readsUnsure, cX4_readsUnsure, 3, (some .boolean))
noncomputable def uX4_readsDropped : Md := (yX4_readsDropped, cX4_readsDropped, 2, (some .boolean))
noncomputable def uX4_labelled : Md := (yX4_labelled, cX4_labelled, 4, (some .boolean))
noncomputable def uX4_bounded : Md := (yX4_bounded, cX4_bounded, 3, (some .boolean))
noncomputable def uX4_tells : Md := (yX4_tells, cX4_tells, 3, (some .boolean))
noncomputable def uX4_named : Md := (yX4_named, cX4_named, 3, (some .int))
noncomputable def uX4_nameAt : Md := (yX4_nameAt, cX4_nameAt, 2, (some .int))
noncomputable def uX5_init : Md := (yX5_init, cX5_init, 1, none)
noncomputable def uX5_beside : Md := (yX5_beside, cX5_beside, 5, (some .int))
noncomputable def uX5_fewest : Md := (yX5_fewest, cX5_fewest, 9, (some .int))
noncomputable def uX5_measure : Md := (yX5_measure, cX5_measure, 8, none)
noncomputable def uX5_stepAt : Md := (yX5_stepAt, cX5_stepAt, 7, (some .int))
noncomputable def uX5_firstStep : Md := (yX5_firstStep, cX5_firstStep, 5, (some .int))
noncomputable def uX5_leastOnward : Md := (yX5_leastOnward, cX5_leastOnward, 6, (some .int))
noncomputable def uX5_weight : Md := (yX5_weight, cX5_weight, 2, (some .int))
noncomputable def uX5_next : Md := (yX5_next, cX5_next, 9, (some .int))
noncomputable def uX6_init : Md := (yX6_init, cX6_init, 2, none)
noncomputable def uX6_feed : Md := (yX6_feed, cX6_feed, 6, (some .int))
noncomputable def uX6_close : Md := (yX6_close, cX6_close, 3, (some .int))
noncomputable def uX6_fault : Md := (yX6_fault, cX6_fault, 1, (some .int))
noncomputable def uX6_where : Md := (yX6_where, cX6_where, 1, (some .int))
noncomputable def uX6_face : Md := (yX6_face, cX6_face, 3, (some .int))
noncomputable def uX6_canon : Md := (yX6_canon, cX6_canon, 3, (some .int))
noncomputable def uX6_cell : Md := (yX6_cell, cX6_cell, 3, (some .int))
noncomputable def uX6_burden : Md := (yX6_burden, cX6_burden, 3, (some .int))
noncomputable def uX6_bears : Md := (yX6_bears, cX6_bears, 3, (some .int))
noncomputable def uX6_holds : Md := (yX6_holds, cX6_holds, 3, (some .int))
noncomputable def uX6_drops : Md := (yX6_drops, cX6_drops, 3, (some .int))
noncomputable def uX6_dropsIn : Md := (yX6_dropsIn, cX6_dropsIn, 2, (some .int))
noncomputable def uX6_fallsIn : Md := (yX6_fallsIn, cX6_fallsIn, 3, (some .int))
noncomputable def uX6_wet : Md := (yX6_wet, cX6_wet, 2, (some .int))
noncomputable def uX6_wetDays : Md := (yX6_wetDays, cX6_wetDays, 3, (some .int))
noncomputable def uX6_wettest : Md := (yX6_wettest, cX6_wettest, 5, (some .int))
noncomputable def uX6_sunny : Md := (yX6_sunny, cX6_sunny, 2, (some .int))
noncomputable def uX6_heaviest : Md := (yX6_heaviest, cX6_heaviest, 4, (some .int))
noncomputable def uX6_fallen : Md := (yX6_fallen, cX6_fallen, 4, (some .int))
noncomputable def uX6_dropsIf : Md := (yX6_dropsIf, cX6_dropsIf, 4, (some .int))
noncomputable def uX6_faceFor : Md := (yX6_faceFor, cX6_faceFor, 7, (some .int))
noncomputable def uX6_match : Md := (yX6_match, cX6_match, 2, (some .int))
noncomputable def uX6_matchDrops : Md := (yX6_matchDrops, cX6_matchDrops, 2, (some .int))
noncomputable def uX6_matchAt : Md := (yX6_matchAt, cX6_matchAt, 3, (some .int))
noncomputable def uX6_steps : Md := (yX6_steps, cX6_steps, 3, (some .int))
noncomputable def uX6_wets : Md := (yX6_wets, cX6_wets, 4, (some .int))
noncomputable def uX6_way : Md := (yX6_way, cX6_way, 4, (some .int))
noncomputable def uX6_wayAt : Md := (yX6_wayAt, cX6_wayAt, 5, (some .int))
noncomputable def uX6_dryDay : Md := (yX6_dryDay, cX6_dryDay, 4, (some .int))
noncomputable def uX6_gate : Md := (yX6_gate, cX6_gate, 5, (some .int))
noncomputable def uX6_fits : Md := (yX6_fits, cX6_fits, 1, (some .int))
noncomputable def uX6_fitAt : Md := (yX6_fitAt, cX6_fitAt, 5, (some .int))
noncomputable def uX6_could : Md := (yX6_could, cX6_could, 4, (some .int))
noncomputable def uX6_surely : Md := (yX6_surely, cX6_surely, 5, (some .int))
noncomputable def uX6_ask : Md := (yX6_ask, cX6_ask, 1, (some .int))
noncomputable def uX6_askLeaves : Md := (yX6_askLeaves, cX6_askLeaves, 3, (some .int))
noncomputable def uX6_judge : Md := (yX6_judge, cX6_judge, 2, (some .int))
noncomputable def uX6_sulks : Md := (yX6_sulks, cX6_sulks, 5, (some .int))
noncomputable def uX6_rests : Md := (yX6_rests, cX6_rests, 4, (some .int))
noncomputable def uX6_rest : Md := (yX6_rest, cX6_rest, 3, (some .int))
noncomputable def uX6_odds : Md := (yX6_odds, cX6_odds, 4, (some .long))
noncomputable def uX6_mean : Md := (yX6_mean, cX6_mean, 4, (some .long))
noncomputable def uX6_borne : Md := (yX6_borne, cX6_borne, 6, (some .int))
noncomputable def uX6_firstWet : Md := (yX6_firstWet, cX6_firstWet, 6, (some .int))
noncomputable def uX6_day : Md := (yX6_day, cX6_day, 3, (some .int))
noncomputable def uX6_give : Md := (yX6_give, cX6_give, 4, (some .int))
noncomputable def uX6_mend : Md := (yX6_mend, cX6_mend, 3, (some .boolean))
noncomputable def uX6_vex : Md := (yX6_vex, cX6_vex, 3, (some .int))
noncomputable def uX6_undo : Md := (yX6_undo, cX6_undo, 1, (some .boolean))
noncomputable def uX6_image : Md := (yX6_image, cX6_image, 1, (some .int))
noncomputable def uX6_back : Md := (yX6_back, cX6_back, 2, (some .boolean))
noncomputable def uX6_led : Md := (yX6_led, cX6_led, 4, (some .int))
noncomputable def uX6_size : Md := (yX6_size, cX6_size, 2, (some .int))
noncomputable def uX6_trouble : Md := (yX6_trouble, cX6_trouble, 1, (some .int))
noncomputable def uX6_answer : Md := (yX6_answer, cX6_answer, 2, (some .int))
noncomputable def uX6_refuse : Md := (yX6_refuse, cX6_refuse, 2, (some .int))
noncomputable def uX6_within : Md := (yX6_within, cX6_within, 3, (some .boolean))
noncomputable def uX6_hasClose : Md := (yX6_hasClose, cX6_hasClose, 1, (some .boolean))
noncomputable def uX6_isFace : Md := (yX6_isFace, cX6_isFace, 2, (some .boolean))
noncomputable def uX6_isCanon : Md := (yX6_isCanon, cX6_isCanon, 2, (some .boolean))
noncomputable def uX6_isCell : Md := (yX6_isCell, cX6_isCell, 2, (some .boolean))
noncomputable def uX6_isWalker : Md := (yX6_isWalker, cX6_isWalker, 2, (some .boolean))
noncomputable def uX6_isSeed : Md := (yX6_isSeed, cX6_isSeed, 1, (some .boolean))
noncomputable def uX6_canonOf : Md := (yX6_canonOf, cX6_canonOf, 3, (some .int))
noncomputable def uX6_canFollow : Md := (yX6_canFollow, cX6_canFollow, 3, (some .boolean))
noncomputable def uX6_canLookAhead : Md := (yX6_canLookAhead, cX6_canLookAhead, 4, (some .boolean))
noncomputable def uX6_canWalk : Md := (yX6_canWalk, cX6_canWalk, 3, (some .boolean))
noncomputable def uX6_canGame : Md := (yX6_canGame, cX6_canGame, 2, (some .boolean))
noncomputable def uX6_canChance : Md := (yX6_canChance, cX6_canChance, 3, (some .boolean))
noncomputable def uX6_numberFits : Md := (yX6_numberFits, cX6_numberFits, 4, (some .boolean))
noncomputable def uX6_startNow : Md := (yX6_startNow, cX6_startNow, 3, none)
noncomputable def uX6_follow : Md := (yX6_follow, cX6_follow, 3, none)
noncomputable def uX6_foretellWet : Md := (yX6_foretellWet, cX6_foretellWet, 4, none)
noncomputable def uX6_wetDaysOf : Md := (yX6_wetDaysOf, cX6_wetDaysOf, 4, (some .int))
noncomputable def uX6_firstDropBySeed : Md := (yX6_firstDropBySeed, cX6_firstDropBySeed, 6, (some .int))
noncomputable def uX6_draw : Md := (yX6_draw, cX6_draw, 1, (some .int))
noncomputable def uX6_isCalm : Md := (yX6_isCalm, cX6_isCalm, 2, (some .boolean))
noncomputable def uX6_couldHave : Md := (yX6_couldHave, cX6_couldHave, 4, (some .boolean))
noncomputable def uX6_costOf : Md := (yX6_costOf, cX6_costOf, 4, (some .int))
noncomputable def uX6_costIf : Md := (yX6_costIf, cX6_costIf, 7, (some .int))
noncomputable def uX6_tooFewFaces : Md := (yX6_tooFewFaces, cX6_tooFewFaces, 3, (some .boolean))
noncomputable def uX6_makeMatch : Md := (yX6_makeMatch, cX6_makeMatch, 4, none)
noncomputable def uX6_wayCost : Md := (yX6_wayCost, cX6_wayCost, 3, (some .int))
noncomputable def uX6_stepsTogether : Md := (yX6_stepsTogether, cX6_stepsTogether, 5, (some .int))
noncomputable def uX6_fittingSets : Md := (yX6_fittingSets, cX6_fittingSets, 3, (some .int))
noncomputable def uX6_setFits : Md := (yX6_setFits, cX6_setFits, 3, (some .boolean))
noncomputable def uX6_dropFits : Md := (yX6_dropFits, cX6_dropFits, 4, (some .boolean))
noncomputable def uX6_setsWith : Md := (yX6_setsWith, cX6_setsWith, 4, (some .int))
noncomputable def uX6_leftAtMost : Md := (yX6_leftAtMost, cX6_leftAtMost, 3, (some .int))
noncomputable def uX6_bestToAsk : Md := (yX6_bestToAsk, cX6_bestToAsk, 6, (some .int))
noncomputable def uX6_share : Md := (yX6_share, cX6_share, 4, (some .int))
noncomputable def uX6_isRest : Md := (yX6_isRest, cX6_isRest, 3, (some .boolean))
noncomputable def uX6_chance : Md := (yX6_chance, cX6_chance, 18, (some .long))
noncomputable def uX6_greatestDivisor : Md := (yX6_greatestDivisor, cX6_greatestDivisor, 11, (some .long))
noncomputable def uX6_keep : Md := (yX6_keep, cX6_keep, 1, none)
noncomputable def uX7_init : Md := (yX7_init, cX7_init, 1, none)
noncomputable def uX7_good : Md := (yX7_good, cX7_good, 1, none)
noncomputable def uX7_no : Md := (yX7_no, cX7_no, 2, (some .int))
noncomputable def uX7_isNot : Md := (yX7_isNot, cX7_isNot, 2, (some .boolean))
noncomputable def uX7_in : Md := (yX7_in, cX7_in, 3, (some .boolean))
noncomputable def uX7_hasBit : Md := (yX7_hasBit, cX7_hasBit, 2, (some .boolean))
noncomputable def uX7_ones : Md := (yX7_ones, cX7_ones, 3, (some .int))
noncomputable def uX7_copy : Md := (yX7_copy, cX7_copy, 6, none)
noncomputable def uX7_lowest : Md := (yX7_lowest, cX7_lowest, 11, (some .long))
noncomputable def uX7_feed : Md := (yX7_feed, cX7_feed, 8, (some .int))
noncomputable def uX7_see : Md := (yX7_see, cX7_see, 2, (some .int))
noncomputable def uX7_isSmall : Md := (yX7_isSmall, cX7_isSmall, 1, (some .boolean))
noncomputable def uX7_isDigit : Md := (yX7_isDigit, cX7_isDigit, 1, (some .boolean))
noncomputable def uX7_next : Md := (yX7_next, cX7_next, 4, none)
noncomputable def uX7_wrong : Md := (yX7_wrong, cX7_wrong, 3, none)
noncomputable def uX7_isWord : Md := (yX7_isWord, cX7_isWord, 4, (some .boolean))
noncomputable def uX7_takesWord : Md := (yX7_takesWord, cX7_takesWord, 2, (some .boolean))
noncomputable def uX7_must : Md := (yX7_must, cX7_must, 2, none)
noncomputable def uX7_mustName : Md := (yX7_mustName, cX7_mustName, 1, none)
noncomputable def uX7_find : Md := (yX7_find, cX7_find, 4, (some .int))
noncomputable def uX7_newName : Md := (yX7_newName, cX7_newName, 3, none)
noncomputable def uX7_named : Md := (yX7_named, cX7_named, 4, (some .int))
noncomputable def uX7_pass : Md := (yX7_pass, cX7_pass, 1, none)
noncomputable def uX7_numberHere : Md := (yX7_numberHere, cX7_numberHere, 3, (some .int))
noncomputable def uX7_number : Md := (yX7_number, cX7_number, 4, (some .int))
noncomputable def uX7_after : Md := (yX7_after, cX7_after, 4, (some .int))
noncomputable def uX7_close : Md := (yX7_close, cX7_close, 3, (some .int))
noncomputable def uX7_begins : Md := (yX7_begins, cX7_begins, 3, (some .boolean))
noncomputable def uX7_readLine : Md := (yX7_readLine, cX7_readLine, 1, none)
noncomputable def uX7_closeLine : Md := (yX7_closeLine, cX7_closeLine, 1, none)
noncomputable def uX7_cellHere : Md := (yX7_cellHere, cX7_cellHere, 1, (some .int))
noncomputable def uX7_wallLine : Md := (yX7_wallLine, cX7_wallLine, 2, none)
noncomputable def uX7_faceLine : Md := (yX7_faceLine, cX7_faceLine, 7, none)
noncomputable def uX7_canonLine : Md := (yX7_canonLine, cX7_canonLine, 5, none)
noncomputable def uX7_openCell : Md := (yX7_openCell, cX7_openCell, 2, (some .int))
noncomputable def uX7_walkerLine : Md := (yX7_walkerLine, cX7_walkerLine, 4, none)
noncomputable def uX7_unsureLine : Md := (yX7_unsureLine, cX7_unsureLine, 4, none)
noncomputable def uX7_droppedLine : Md := (yX7_droppedLine, cX7_droppedLine, 3, none)
noncomputable def uX7_fault : Md := (yX7_fault, cX7_fault, 1, (some .int))
noncomputable def uX7_where : Md := (yX7_where, cX7_where, 1, (some .int))
noncomputable def uX7_isFace : Md := (yX7_isFace, cX7_isFace, 2, (some .boolean))
noncomputable def uX7_isCanon : Md := (yX7_isCanon, cX7_isCanon, 2, (some .boolean))
noncomputable def uX7_cells : Md := (yX7_cells, cX7_cells, 1, (some .int))
noncomputable def uX7_isCell : Md := (yX7_isCell, cX7_isCell, 2, (some .boolean))
noncomputable def uX7_isWalker : Md := (yX7_isWalker, cX7_isWalker, 2, (some .boolean))
noncomputable def uX7_why : Md := (yX7_why, cX7_why, 3, (some .int))
noncomputable def uX7_vexedBy : Md := (yX7_vexedBy, cX7_vexedBy, 3, none)
noncomputable def uX7_letsGo : Md := (yX7_letsGo, cX7_letsGo, 6, (some .int))
noncomputable def uX7_dayOn : Md := (yX7_dayOn, cX7_dayOn, 5, none)
noncomputable def uX7_daysOn : Md := (yX7_daysOn, cX7_daysOn, 3, none)
noncomputable def uX7_letsOf : Md := (yX7_letsOf, cX7_letsOf, 4, (some .int))
noncomputable def uX7_fallenOn : Md := (yX7_fallenOn, cX7_fallenOn, 4, (some .int))
noncomputable def uX7_canonOf : Md := (yX7_canonOf, cX7_canonOf, 3, (some .int))
noncomputable def uX7_face : Md := (yX7_face, cX7_face, 3, (some .int))
noncomputable def uX7_canon : Md := (yX7_canon, cX7_canon, 3, (some .int))
noncomputable def uX7_faceOver : Md := (yX7_faceOver, cX7_faceOver, 3, (some .int))
noncomputable def uX7_isWall : Md := (yX7_isWall, cX7_isWall, 2, (some .boolean))
noncomputable def uX7_stepFrom : Md := (yX7_stepFrom, cX7_stepFrom, 5, (some .int))
noncomputable def uX7_beside : Md := (yX7_beside, cX7_beside, 4, (some .int))
noncomputable def uX7_cell : Md := (yX7_cell, cX7_cell, 3, (some .int))
noncomputable def uX7_burden : Md := (yX7_burden, cX7_burden, 3, (some .int))
noncomputable def uX7_aheadWhy : Md := (yX7_aheadWhy, cX7_aheadWhy, 4, (some .int))
noncomputable def uX7_bears : Md := (yX7_bears, cX7_bears, 4, (some .int))
noncomputable def uX7_holds : Md := (yX7_holds, cX7_holds, 4, (some .int))
noncomputable def uX7_drops : Md := (yX7_drops, cX7_drops, 4, (some .int))
noncomputable def uX7_dropsIn : Md := (yX7_dropsIn, cX7_dropsIn, 3, (some .int))
noncomputable def uX7_fallsIn : Md := (yX7_fallsIn, cX7_fallsIn, 3, (some .int))
noncomputable def uX7_wet : Md := (yX7_wet, cX7_wet, 3, (some .int))
noncomputable def uX7_wetOften : Md := (yX7_wetOften, cX7_wetOften, 5, (some .int))
noncomputable def uX7_wetDays : Md := (yX7_wetDays, cX7_wetDays, 4, (some .int))
noncomputable def uX7_wettest : Md := (yX7_wettest, cX7_wettest, 5, (some .int))
noncomputable def uX7_sunny : Md := (yX7_sunny, cX7_sunny, 2, (some .int))
noncomputable def uX7_heaviest : Md := (yX7_heaviest, cX7_heaviest, 4, (some .int))
noncomputable def uX7_fallen : Md := (yX7_fallen, cX7_fallen, 3, (some .int))
noncomputable def uX7_planAsNow : Md := (yX7_planAsNow, cX7_planAsNow, 2, none)
noncomputable def uX7_goByPlan : Md := (yX7_goByPlan, cX7_goByPlan, 3, none)
noncomputable def uX7_mayHave : Md := (yX7_mayHave, cX7_mayHave, 3, (some .boolean))
noncomputable def uX7_planWhy : Md := (yX7_planWhy, cX7_planWhy, 3, (some .int))
noncomputable def uX7_dropsIf : Md := (yX7_dropsIf, cX7_dropsIf, 5, (some .int))
noncomputable def uX7_isBest : Md := (yX7_isBest, cX7_isBest, 2, (some .boolean))
noncomputable def uX7_faceFor : Md := (yX7_faceFor, cX7_faceFor, 6, (some .int))
noncomputable def uX7_tryPlans : Md := (yX7_tryPlans, cX7_tryPlans, 5, none)
noncomputable def uX7_seekMatch : Md := (yX7_seekMatch, cX7_seekMatch, 2, none)
noncomputable def uX7_match : Md := (yX7_match, cX7_match, 3, (some .int))
noncomputable def uX7_matchDrops : Md := (yX7_matchDrops, cX7_matchDrops, 3, (some .int))
noncomputable def uX7_matchAt : Md := (yX7_matchAt, cX7_matchAt, 4, (some .int))
noncomputable def uX7_costOf : Md := (yX7_costOf, cX7_costOf, 3, (some .int))
noncomputable def uX7_layCosts : Md := (yX7_layCosts, cX7_layCosts, 7, none)
noncomputable def uX7_stepsOf : Md := (yX7_stepsOf, cX7_stepsOf, 3, (some .int))
noncomputable def uX7_steps : Md := (yX7_steps, cX7_steps, 3, (some .int))
noncomputable def uX7_wayOf : Md := (yX7_wayOf, cX7_wayOf, 4, (some .int))
noncomputable def uX7_wets : Md := (yX7_wets, cX7_wets, 5, (some .int))
noncomputable def uX7_way : Md := (yX7_way, cX7_way, 5, (some .int))
noncomputable def uX7_wayAt : Md := (yX7_wayAt, cX7_wayAt, 8, (some .int))
noncomputable def uX7_dryDay : Md := (yX7_dryDay, cX7_dryDay, 4, (some .int))
noncomputable def uX7_allSteps : Md := (yX7_allSteps, cX7_allSteps, 4, (some .int))
noncomputable def uX7_gate : Md := (yX7_gate, cX7_gate, 5, (some .int))
noncomputable def uX7_wrongBy : Md := (yX7_wrongBy, cX7_wrongBy, 4, (some .int))
noncomputable def uX7_seekSets : Md := (yX7_seekSets, cX7_seekSets, 5, (some .int))
noncomputable def uX7_fits : Md := (yX7_fits, cX7_fits, 1, (some .int))
noncomputable def uX7_fitAt : Md := (yX7_fitAt, cX7_fitAt, 3, (some .int))
noncomputable def uX7_could : Md := (yX7_could, cX7_could, 1, (some .int))
noncomputable def uX7_surely : Md := (yX7_surely, cX7_surely, 1, (some .int))
noncomputable def uX7_leavesOf : Md := (yX7_leavesOf, cX7_leavesOf, 2, (some .int))
noncomputable def uX7_askOf : Md := (yX7_askOf, cX7_askOf, 3, (some .int))
noncomputable def uX7_ask : Md := (yX7_ask, cX7_ask, 1, (some .int))
noncomputable def uX7_askLeaves : Md := (yX7_askLeaves, cX7_askLeaves, 2, (some .int))
noncomputable def uX7_judge : Md := (yX7_judge, cX7_judge, 1, (some .int))
noncomputable def uX7_canonHas : Md := (yX7_canonHas, cX7_canonHas, 3, (some .int))
noncomputable def uX7_breadHas : Md := (yX7_breadHas, cX7_breadHas, 2, (some .int))
noncomputable def uX7_sulks : Md := (yX7_sulks, cX7_sulks, 6, (some .int))
noncomputable def uX7_seekRests : Md := (yX7_seekRests, cX7_seekRests, 6, (some .int))
noncomputable def uX7_rests : Md := (yX7_rests, cX7_rests, 3, (some .int))
noncomputable def uX7_rest : Md := (yX7_rest, cX7_rest, 3, (some .int))
noncomputable def uX7_tryCalms : Md := (yX7_tryCalms, cX7_tryCalms, 7, none)
noncomputable def uX7_odds : Md := (yX7_odds, cX7_odds, 5, (some .long))
noncomputable def uX7_mean : Md := (yX7_mean, cX7_mean, 5, (some .long))
noncomputable def uX7_drawWhy : Md := (yX7_drawWhy, cX7_drawWhy, 7, (some .int))
noncomputable def uX7_borne : Md := (yX7_borne, cX7_borne, 5, (some .int))
noncomputable def uX7_firstWet : Md := (yX7_firstWet, cX7_firstWet, 4, (some .int))
noncomputable def uX7_note : Md := (yX7_note, cX7_note, 2, none)
noncomputable def uX7_day : Md := (yX7_day, cX7_day, 1, (some .int))
noncomputable def uX7_give : Md := (yX7_give, cX7_give, 4, (some .int))
noncomputable def uX7_mend : Md := (yX7_mend, cX7_mend, 3, (some .boolean))
noncomputable def uX7_vex : Md := (yX7_vex, cX7_vex, 4, (some .int))
noncomputable def uX7_undo : Md := (yX7_undo, cX7_undo, 1, (some .boolean))
noncomputable def uX7_image : Md := (yX7_image, cX7_image, 1, (some .int))
noncomputable def uX7_back : Md := (yX7_back, cX7_back, 2, (some .boolean))
noncomputable def uX7_led : Md := (yX7_led, cX7_led, 4, (some .int))
noncomputable def uX7_size : Md := (yX7_size, cX7_size, 2, (some .int))
noncomputable def uX7_trouble : Md := (yX7_trouble, cX7_trouble, 1, (some .int))
noncomputable def uJ6_bitCount_0f7a4 : Md := (yJ6_bitCount_0f7a4, cJ6_bitCount_0f7a4, 1, (some .int))
noncomputable def uJ9_max_7cf53 : Md := (yJ9_max_7cf53, cJ9_max_7cf53, 2, (some .int))
noncomputable def uJ9_max_f86c9 : Md := (yJ9_max_f86c9, cJ9_max_f86c9, 4, (some .long))
noncomputable def uJ9_min_7cf53 : Md := (yJ9_min_7cf53, cJ9_min_7cf53, 2, (some .int))
noncomputable def uJ0_length_8abf5 : Md := (yJ0_length_8abf5, cJ0_length_8abf5, 1, (some .int))
noncomputable def uJ0_charAt_5068e : Md := (yJ0_charAt_5068e, cJ0_charAt_5068e, 2, (some .char))
noncomputable def uJ0_coder_7d493 : Md := (yJ0_coder_7d493, cJ0_coder_7d493, 1, (some .byte))
noncomputable def uJ0_isLatin1_aae02 : Md := (yJ0_isLatin1_aae02, cJ0_isLatin1_aae02, 1, (some .boolean))
noncomputable def uJ0_checkIndex_df160 : Md := (yJ0_checkIndex_df160, cJ0_checkIndex_df160, 2, none)
noncomputable def uJ1_charAt_3b067 : Md := (yJ1_charAt_3b067, cJ1_charAt_3b067, 2, (some .char))
noncomputable def uJ3_checkIndex_8e157 : Md := (yJ3_checkIndex_8e157, cJ3_checkIndex_8e157, 3, (some .int))
theorem wB_all {ws : List Cond} (ps : List Nat) (hp : ws = ps.filterMap (fun i => lw_tbl[i]?)) (h : ws.all goodWord = true) : ∀ w ∈ ws, w ∈ wB := by
  intro w hw
  refine List.mem_filter.mpr ⟨?_, List.all_eq_true.mp h w hw⟩
  rw [hp] at hw
  obtain ⟨i, -, hi⟩ := List.mem_filterMap.mp hw
  exact List.mem_of_getElem? hi
theorem inB0 : ∀ w ∈ u_ws RX0 TX0 8, w ∈ wB := wB_all [372, 374, 376, 378, 380, 382, 384, 386] (by decide +kernel) (by decide +kernel)
theorem inB1 : ∀ w ∈ u_ws RX1 TX1 9, w ∈ wB := wB_all [422, 424, 426, 428, 430, 432, 434, 436, 438] (by decide +kernel) (by decide +kernel)
theorem inB2 : ∀ w ∈ u_ws RX2 TX2 6, w ∈ wB := wB_all [340, 342, 344, 346, 348, 350] (by decide +kernel) (by decide +kernel)
theorem inB3 : ∀ w ∈ u_ws RX3 TX3 20, w ∈ wB := wB_all [281, 283, 285, 287, 289, 291, 293, 295, 297, 299, 301, 303, 305, 307, 309, 311, 313, 315, 317, 319] (by decide +kernel) (by decide +kernel)
theorem inB4 : ∀ w ∈ u_ws RX4 TX4 15, w ∈ wB := wB_all [178, 180, 182, 184, 186, 188, 190, 192, 194, 196, 198, 200, 202, 204, 206] (by decide +kernel) (by decide +kernel)
theorem inB5 : ∀ w ∈ u_ws RX5 TX5 2, w ∈ wB := wB_all [398, 400] (by decide +kernel) (by decide +kernel)
theorem inB6 : ∀ w ∈ u_ws RX6 TX6 14, w ∈ wB := wB_all [455, 457, 459, 461, 463, 465, 467, 469, 471, 473, 475, 477, 479, 481] (by decide +kernel) (by decide +kernel)
theorem inB7 : ∀ w ∈ u_ws RX7 TX7 44, w ∈ wB := wB_all [1290, 1292, 1294, 1296, 1298, 1300, 1302, 1304, 1306, 1308, 1310, 1312, 1314, 1316, 1318, 1320, 1322, 1324, 1326, 1328, 1330, 1332, 1334, 1336, 1338, 1340, 1342, 1344, 1346, 1348, 1350, 1352, 1354, 1356, 1358, 1360, 1362, 1364, 1366, 1368, 1370, 1372, 1374, 1376] (by decide +kernel) (by decide +kernel)
theorem flX6_10 : Cond.fieldLink RX6 10 (TX6 0).1 (TX6 0).2.1 (TX6 0).2.2.1 ∈ wB := wT2 75 rfl (by decide +kernel)
theorem flX6_19 : Cond.fieldLink RX6 19 (TX6 1).1 (TX6 1).2.1 (TX6 1).2.2.1 ∈ wB := wT2 76 rfl (by decide +kernel)
theorem flX6_23 : Cond.fieldLink RX6 23 (TX6 2).1 (TX6 2).2.1 (TX6 2).2.2.1 ∈ wB := wT2 77 rfl (by decide +kernel)
theorem flX6_29 : Cond.fieldLink RX6 29 (TX6 3).1 (TX6 3).2.1 (TX6 3).2.2.1 ∈ wB := wT2 78 rfl (by decide +kernel)
theorem flX6_33 : Cond.fieldLink RX6 33 (TX6 4).1 (TX6 4).2.1 (TX6 4).2.2.1 ∈ wB := wT2 79 rfl (by decide +kernel)
theorem flX6_37 : Cond.fieldLink RX6 37 (TX6 5).1 (TX6 5).2.1 (TX6 5).2.2.1 ∈ wB := wT2 80 rfl (by decide +kernel)
theorem flX6_41 : Cond.fieldLink RX6 41 (TX6 6).1 (TX6 6).2.1 (TX6 6).2.2.1 ∈ wB := wT2 81 rfl (by decide +kernel)
theorem flX6_44 : Cond.fieldLink RX6 44 (TX6 7).1 (TX6 7).2.1 (TX6 7).2.2.1 ∈ wB := wT2 82 rfl (by decide +kernel)
theorem flX6_47 : Cond.fieldLink RX6 47 (TX6 8).1 (TX6 8).2.1 (TX6 8).2.2.1 ∈ wB := wT2 83 rfl (by decide +kernel)
theorem flX6_53 : Cond.fieldLink RX6 53 (TX6 9).1 (TX6 9).2.1 (TX6 9).2.2.1 ∈ wB := wT2 84 rfl (by decide +kernel)
theorem flX6_60 : Cond.fieldLink RX6 60 (TX6 10).1 (TX6 10).2.1 (TX6 10).2.2.1 ∈ wB := wT2 85 rfl (by decide +kernel)
theorem flX6_67 : Cond.fieldLink RX6 67 (TX6 11).1 (TX6 11).2.1 (TX6 11).2.2.1 ∈ wB := wT2 86 rfl (by decide +kernel)
theorem flX6_71 : Cond.fieldLink RX6 71 (TX6 12).1 (TX6 12).2.1 (TX6 12).2.2.1 ∈ wB := wT2 87 rfl (by decide +kernel)
theorem flX6_75 : Cond.fieldLink RX6 75 (TX6 13).1 (TX6 13).2.1 (TX6 13).2.2.1 ∈ wB := wT2 88 rfl (by decide +kernel)
theorem flX6_78 : Cond.fieldLink RX6 78 (TX4 1).1 (TX4 1).2.1 (TX4 1).2.2.1 ∈ wB := wT1 35 rfl (by decide +kernel)
theorem flX6_97 : Cond.fieldLink RX6 97 (TX3 4).1 (TX3 4).2.1 (TX3 4).2.2.1 ∈ wB := wT1 107 rfl (by decide +kernel)
theorem flX6_103 : Cond.fieldLink RX6 103 (TX4 13).1 (TX4 13).2.1 (TX4 13).2.2.1 ∈ wB := wT1 49 rfl (by decide +kernel)
theorem flX6_106 : Cond.fieldLink RX6 106 (TX4 14).1 (TX4 14).2.1 (TX4 14).2.2.1 ∈ wB := wT1 51 rfl (by decide +kernel)
theorem flX6_113 : Cond.fieldLink RX6 113 (TX3 5).1 (TX3 5).2.1 (TX3 5).2.2.1 ∈ wB := wT1 110 rfl (by decide +kernel)
theorem flX6_116 : Cond.fieldLink RX6 116 (TX2 0).1 (TX2 0).2.1 (TX2 0).2.2.1 ∈ wB := wT1 203 rfl (by decide +kernel)
theorem flX6_119 : Cond.fieldLink RX6 119 (TX2 1).1 (TX2 1).2.1 (TX2 1).2.2.1 ∈ wB := wT1 205 rfl (by decide +kernel)
theorem flX6_125 : Cond.fieldLink RX6 125 (TX2 2).1 (TX2 2).2.1 (TX2 2).2.2.1 ∈ wB := wT1 207 rfl (by decide +kernel)
theorem flX6_131 : Cond.fieldLink RX6 131 (TX3 8).1 (TX3 8).2.1 (TX3 8).2.2.1 ∈ wB := wT1 121 rfl (by decide +kernel)
theorem flX6_137 : Cond.fieldLink RX6 137 (TX2 3).1 (TX2 3).2.1 (TX2 3).2.2.1 ∈ wB := wT1 209 rfl (by decide +kernel)
theorem flX6_140 : Cond.fieldLink RX6 140 (TX3 12).1 (TX3 12).2.1 (TX3 12).2.2.1 ∈ wB := wT1 133 rfl (by decide +kernel)
theorem flX6_143 : Cond.fieldLink RX6 143 (TX3 13).1 (TX3 13).2.1 (TX3 13).2.2.1 ∈ wB := wT1 137 rfl (by decide +kernel)
theorem flX6_155 : Cond.fieldLink RX6 155 (TX2 5).1 (TX2 5).2.1 (TX2 5).2.2.1 ∈ wB := wT1 213 rfl (by decide +kernel)
theorem flX6_178 : Cond.fieldLink RX6 178 (TX0 6).1 (TX0 6).2.1 (TX0 6).2.2.1 ∈ wB := wT2 3 rfl (by decide +kernel)
theorem flX6_180 : Cond.fieldLink RX6 180 (TX0 5).1 (TX0 5).2.1 (TX0 5).2.2.1 ∈ wB := wT2 1 rfl (by decide +kernel)
theorem flX6_182 : Cond.fieldLink RX6 182 (TX0 7).1 (TX0 7).2.1 (TX0 7).2.2.1 ∈ wB := wT2 5 rfl (by decide +kernel)
theorem flX6_229 : Cond.fieldLink RX6 229 (TX1 8).1 (TX1 8).2.1 (TX1 8).2.2.1 ∈ wB := wT2 55 rfl (by decide +kernel)
theorem flX6_232 : Cond.fieldLink RX6 232 (TX1 3).1 (TX1 3).2.1 (TX1 3).2.2.1 ∈ wB := wT2 49 rfl (by decide +kernel)
theorem flX6_246 : Cond.fieldLink RX6 246 (TX3 15).1 (TX3 15).2.1 (TX3 15).2.2.1 ∈ wB := wT1 144 rfl (by decide +kernel)
theorem flX6_256 : Cond.fieldLink RX6 256 (TX3 16).1 (TX3 16).2.1 (TX3 16).2.2.1 ∈ wB := wT1 147 rfl (by decide +kernel)
theorem flX6_270 : Cond.fieldLink RX6 270 (TX3 17).1 (TX3 17).2.1 (TX3 17).2.2.1 ∈ wB := wT1 150 rfl (by decide +kernel)
theorem flX6_316 : Cond.fieldLink RX6 316 (TX2 4).1 (TX2 4).2.1 (TX2 4).2.2.1 ∈ wB := wT1 211 rfl (by decide +kernel)
theorem flX6_322 : Cond.fieldLink RX6 322 (TX3 6).1 (TX3 6).2.1 (TX3 6).2.2.1 ∈ wB := wT1 116 rfl (by decide +kernel)
theorem flX6_330 : Cond.fieldLink RX6 330 (TX3 0).1 (TX3 0).2.1 (TX3 0).2.2.1 ∈ wB := wT1 95 rfl (by decide +kernel)
theorem flX6_333 : Cond.fieldLink RX6 333 (TX3 1).1 (TX3 1).2.1 (TX3 1).2.2.1 ∈ wB := wT1 99 rfl (by decide +kernel)
theorem flX6_336 : Cond.fieldLink RX6 336 (TX3 2).1 (TX3 2).2.1 (TX3 2).2.2.1 ∈ wB := wT1 102 rfl (by decide +kernel)
theorem flX6_342 : Cond.fieldLink RX6 342 (TX3 10).1 (TX3 10).2.1 (TX3 10).2.2.1 ∈ wB := wT1 128 rfl (by decide +kernel)
theorem flX6_345 : Cond.fieldLink RX6 345 (TX3 14).1 (TX3 14).2.1 (TX3 14).2.2.1 ∈ wB := wT1 141 rfl (by decide +kernel)
theorem flX6_359 : Cond.fieldLink RX6 359 (TX0 4).1 (TX0 4).2.1 (TX0 4).2.2.1 ∈ wB := wT1 239 rfl (by decide +kernel)
theorem flX6_385 : Cond.fieldLink RX6 385 (TX5 0).1 (TX5 0).2.1 (TX5 0).2.2.1 ∈ wB := wT2 30 rfl (by decide +kernel)
theorem flX6_391 : Cond.fieldLink RX6 391 (TX3 9).1 (TX3 9).2.1 (TX3 9).2.2.1 ∈ wB := wT1 125 rfl (by decide +kernel)
theorem flX0_9 : Cond.fieldLink RX0 9 (TX3 5).1 (TX3 5).2.1 (TX3 5).2.2.1 ∈ wB := wT1 109 rfl (by decide +kernel)
theorem flX0_15 : Cond.fieldLink RX0 15 (TX0 0).1 (TX0 0).2.1 (TX0 0).2.2.1 ∈ wB := wT1 234 rfl (by decide +kernel)
theorem flX0_20 : Cond.fieldLink RX0 20 (TX3 7).1 (TX3 7).2.1 (TX3 7).2.2.1 ∈ wB := wT1 118 rfl (by decide +kernel)
theorem flX0_23 : Cond.fieldLink RX0 23 (TX0 1).1 (TX0 1).2.1 (TX0 1).2.2.1 ∈ wB := wT1 235 rfl (by decide +kernel)
theorem flX0_25 : Cond.fieldLink RX0 25 (TX0 2).1 (TX0 2).2.1 (TX0 2).2.2.1 ∈ wB := wT1 236 rfl (by decide +kernel)
theorem flX0_28 : Cond.fieldLink RX0 28 (TX3 13).1 (TX3 13).2.1 (TX3 13).2.2.1 ∈ wB := wT1 136 rfl (by decide +kernel)
theorem flX0_31 : Cond.fieldLink RX0 31 (TX0 3).1 (TX0 3).2.1 (TX0 3).2.2.1 ∈ wB := wT1 237 rfl (by decide +kernel)
theorem flX0_33 : Cond.fieldLink RX0 33 (TX0 4).1 (TX0 4).2.1 (TX0 4).2.2.1 ∈ wB := wT1 238 rfl (by decide +kernel)
theorem flX0_36 : Cond.fieldLink RX0 36 (TX3 6).1 (TX3 6).2.1 (TX3 6).2.2.1 ∈ wB := wT1 114 rfl (by decide +kernel)
theorem flX0_39 : Cond.fieldLink RX0 39 (TX0 5).1 (TX0 5).2.1 (TX0 5).2.2.1 ∈ wB := wT2 0 rfl (by decide +kernel)
theorem flX0_41 : Cond.fieldLink RX0 41 (TX0 6).1 (TX0 6).2.1 (TX0 6).2.2.1 ∈ wB := wT2 2 rfl (by decide +kernel)
theorem flX0_44 : Cond.fieldLink RX0 44 (TX0 7).1 (TX0 7).2.1 (TX0 7).2.2.1 ∈ wB := wT2 4 rfl (by decide +kernel)
theorem flX1_11 : Cond.fieldLink RX1 11 (TX1 0).1 (TX1 0).2.1 (TX1 0).2.2.1 ∈ wB := wT2 45 rfl (by decide +kernel)
theorem flX1_16 : Cond.fieldLink RX1 16 (TX1 1).1 (TX1 1).2.1 (TX1 1).2.2.1 ∈ wB := wT2 46 rfl (by decide +kernel)
theorem flX1_20 : Cond.fieldLink RX1 20 (TX1 2).1 (TX1 2).2.1 (TX1 2).2.2.1 ∈ wB := wT2 47 rfl (by decide +kernel)
theorem flX1_23 : Cond.fieldLink RX1 23 (TX1 3).1 (TX1 3).2.1 (TX1 3).2.2.1 ∈ wB := wT2 48 rfl (by decide +kernel)
theorem flX1_26 : Cond.fieldLink RX1 26 (TX1 4).1 (TX1 4).2.1 (TX1 4).2.2.1 ∈ wB := wT2 50 rfl (by decide +kernel)
theorem flX1_30 : Cond.fieldLink RX1 30 (TX1 5).1 (TX1 5).2.1 (TX1 5).2.2.1 ∈ wB := wT2 51 rfl (by decide +kernel)
theorem flX1_33 : Cond.fieldLink RX1 33 (TX1 6).1 (TX1 6).2.1 (TX1 6).2.2.1 ∈ wB := wT2 52 rfl (by decide +kernel)
theorem flX1_36 : Cond.fieldLink RX1 36 (TX1 7).1 (TX1 7).2.1 (TX1 7).2.2.1 ∈ wB := wT2 53 rfl (by decide +kernel)
theorem flX1_42 : Cond.fieldLink RX1 42 (TX1 8).1 (TX1 8).2.1 (TX1 8).2.2.1 ∈ wB := wT2 54 rfl (by decide +kernel)
theorem flX2_9 : Cond.fieldLink RX2 9 (TX2 0).1 (TX2 0).2.1 (TX2 0).2.2.1 ∈ wB := wT1 202 rfl (by decide +kernel)
theorem flX2_15 : Cond.fieldLink RX2 15 (TX2 1).1 (TX2 1).2.1 (TX2 1).2.2.1 ∈ wB := wT1 204 rfl (by decide +kernel)
theorem flX2_18 : Cond.fieldLink RX2 18 (TX2 2).1 (TX2 2).2.1 (TX2 2).2.2.1 ∈ wB := wT1 206 rfl (by decide +kernel)
theorem flX2_21 : Cond.fieldLink RX2 21 (TX2 3).1 (TX2 3).2.1 (TX2 3).2.2.1 ∈ wB := wT1 208 rfl (by decide +kernel)
theorem flX2_24 : Cond.fieldLink RX2 24 (TX3 6).1 (TX3 6).2.1 (TX3 6).2.2.1 ∈ wB := wT1 113 rfl (by decide +kernel)
theorem flX2_33 : Cond.fieldLink RX2 33 (TX3 11).1 (TX3 11).2.1 (TX3 11).2.2.1 ∈ wB := wT1 130 rfl (by decide +kernel)
theorem flX2_34 : Cond.fieldLink RX2 34 (TX2 4).1 (TX2 4).2.1 (TX2 4).2.2.1 ∈ wB := wT1 210 rfl (by decide +kernel)
theorem flX2_38 : Cond.fieldLink RX2 38 (TX2 5).1 (TX2 5).2.1 (TX2 5).2.2.1 ∈ wB := wT1 212 rfl (by decide +kernel)
theorem flX3_9 : Cond.fieldLink RX3 9 (TX3 5).1 (TX3 5).2.1 (TX3 5).2.2.1 ∈ wB := wT1 108 rfl (by decide +kernel)
theorem flX3_15 : Cond.fieldLink RX3 15 (TX3 6).1 (TX3 6).2.1 (TX3 6).2.2.1 ∈ wB := wT1 112 rfl (by decide +kernel)
theorem flX3_18 : Cond.fieldLink RX3 18 (TX3 7).1 (TX3 7).2.1 (TX3 7).2.2.1 ∈ wB := wT1 117 rfl (by decide +kernel)
theorem flX3_21 : Cond.fieldLink RX3 21 (TX3 8).1 (TX3 8).2.1 (TX3 8).2.2.1 ∈ wB := wT1 120 rfl (by decide +kernel)
theorem flX3_24 : Cond.fieldLink RX3 24 (TX3 9).1 (TX3 9).2.1 (TX3 9).2.2.1 ∈ wB := wT1 123 rfl (by decide +kernel)
theorem flX3_27 : Cond.fieldLink RX3 27 (TX3 11).1 (TX3 11).2.1 (TX3 11).2.2.1 ∈ wB := wT1 129 rfl (by decide +kernel)
theorem flX3_30 : Cond.fieldLink RX3 30 (TX3 12).1 (TX3 12).2.1 (TX3 12).2.2.1 ∈ wB := wT1 132 rfl (by decide +kernel)
theorem flX3_33 : Cond.fieldLink RX3 33 (TX3 13).1 (TX3 13).2.1 (TX3 13).2.2.1 ∈ wB := wT1 135 rfl (by decide +kernel)
theorem flX3_36 : Cond.fieldLink RX3 36 (TX3 15).1 (TX3 15).2.1 (TX3 15).2.2.1 ∈ wB := wT1 142 rfl (by decide +kernel)
theorem flX3_39 : Cond.fieldLink RX3 39 (TX3 16).1 (TX3 16).2.1 (TX3 16).2.2.1 ∈ wB := wT1 145 rfl (by decide +kernel)
theorem flX3_42 : Cond.fieldLink RX3 42 (TX3 18).1 (TX3 18).2.1 (TX3 18).2.2.1 ∈ wB := wT1 151 rfl (by decide +kernel)
theorem flX3_45 : Cond.fieldLink RX3 45 (TX3 19).1 (TX3 19).2.1 (TX3 19).2.2.1 ∈ wB := wT1 153 rfl (by decide +kernel)
theorem flX3_48 : Cond.fieldLink RX3 48 (TX3 0).1 (TX3 0).2.1 (TX3 0).2.2.1 ∈ wB := wT1 92 rfl (by decide +kernel)
theorem flX3_52 : Cond.fieldLink RX3 52 (TX3 1).1 (TX3 1).2.1 (TX3 1).2.2.1 ∈ wB := wT1 96 rfl (by decide +kernel)
theorem flX3_55 : Cond.fieldLink RX3 55 (TX3 2).1 (TX3 2).2.1 (TX3 2).2.2.1 ∈ wB := wT1 100 rfl (by decide +kernel)
theorem flX3_58 : Cond.fieldLink RX3 58 (TX3 3).1 (TX3 3).2.1 (TX3 3).2.2.1 ∈ wB := wT1 103 rfl (by decide +kernel)
theorem flX3_61 : Cond.fieldLink RX3 61 (TX3 4).1 (TX3 4).2.1 (TX3 4).2.2.1 ∈ wB := wT1 105 rfl (by decide +kernel)
theorem flX3_64 : Cond.fieldLink RX3 64 (TX3 10).1 (TX3 10).2.1 (TX3 10).2.2.1 ∈ wB := wT1 126 rfl (by decide +kernel)
theorem flX3_67 : Cond.fieldLink RX3 67 (TX3 14).1 (TX3 14).2.1 (TX3 14).2.2.1 ∈ wB := wT1 139 rfl (by decide +kernel)
theorem flX3_70 : Cond.fieldLink RX3 70 (TX3 17).1 (TX3 17).2.1 (TX3 17).2.2.1 ∈ wB := wT1 148 rfl (by decide +kernel)
theorem flX4_9 : Cond.fieldLink RX4 9 (TX4 0).1 (TX4 0).2.1 (TX4 0).2.2.1 ∈ wB := wT1 34 rfl (by decide +kernel)
theorem flX4_15 : Cond.fieldLink RX4 15 (TX4 9).1 (TX4 9).2.1 (TX4 9).2.2.1 ∈ wB := wT1 44 rfl (by decide +kernel)
theorem flX4_19 : Cond.fieldLink RX4 19 (TX4 10).1 (TX4 10).2.1 (TX4 10).2.2.1 ∈ wB := wT1 45 rfl (by decide +kernel)
theorem flX4_23 : Cond.fieldLink RX4 23 (TX4 11).1 (TX4 11).2.1 (TX4 11).2.2.1 ∈ wB := wT1 46 rfl (by decide +kernel)
theorem flX4_26 : Cond.fieldLink RX4 26 (TX4 1).1 (TX4 1).2.1 (TX4 1).2.2.1 ∈ wB := wT1 36 rfl (by decide +kernel)
theorem flX4_36 : Cond.fieldLink RX4 36 (TX4 2).1 (TX4 2).2.1 (TX4 2).2.2.1 ∈ wB := wT1 37 rfl (by decide +kernel)
theorem flX4_39 : Cond.fieldLink RX4 39 (TX4 3).1 (TX4 3).2.1 (TX4 3).2.2.1 ∈ wB := wT1 38 rfl (by decide +kernel)
theorem flX4_48 : Cond.fieldLink RX4 48 (TX4 12).1 (TX4 12).2.1 (TX4 12).2.2.1 ∈ wB := wT1 47 rfl (by decide +kernel)
theorem flX4_51 : Cond.fieldLink RX4 51 (TX4 13).1 (TX4 13).2.1 (TX4 13).2.2.1 ∈ wB := wT1 48 rfl (by decide +kernel)
theorem flX4_54 : Cond.fieldLink RX4 54 (TX4 14).1 (TX4 14).2.1 (TX4 14).2.2.1 ∈ wB := wT1 50 rfl (by decide +kernel)
theorem flX4_57 : Cond.fieldLink RX4 57 (TX4 6).1 (TX4 6).2.1 (TX4 6).2.2.1 ∈ wB := wT1 41 rfl (by decide +kernel)
theorem flX4_67 : Cond.fieldLink RX4 67 (TX4 4).1 (TX4 4).2.1 (TX4 4).2.2.1 ∈ wB := wT1 39 rfl (by decide +kernel)
theorem flX4_70 : Cond.fieldLink RX4 70 (TX3 4).1 (TX3 4).2.1 (TX3 4).2.2.1 ∈ wB := wT1 106 rfl (by decide +kernel)
theorem flX4_77 : Cond.fieldLink RX4 77 (TX4 5).1 (TX4 5).2.1 (TX4 5).2.2.1 ∈ wB := wT1 40 rfl (by decide +kernel)
theorem flX4_86 : Cond.fieldLink RX4 86 (TX4 8).1 (TX4 8).2.1 (TX4 8).2.2.1 ∈ wB := wT1 43 rfl (by decide +kernel)
theorem flX4_92 : Cond.fieldLink RX4 92 (TX4 7).1 (TX4 7).2.1 (TX4 7).2.2.1 ∈ wB := wT1 42 rfl (by decide +kernel)
theorem flX4_125 : Cond.fieldLink RX4 125 (TX3 0).1 (TX3 0).2.1 (TX3 0).2.2.1 ∈ wB := wT1 94 rfl (by decide +kernel)
theorem flX4_158 : Cond.fieldLink RX4 158 (TX3 1).1 (TX3 1).2.1 (TX3 1).2.2.1 ∈ wB := wT1 98 rfl (by decide +kernel)
theorem flX4_160 : Cond.fieldLink RX4 160 (TX3 2).1 (TX3 2).2.1 (TX3 2).2.2.1 ∈ wB := wT1 101 rfl (by decide +kernel)
theorem flX4_165 : Cond.fieldLink RX4 165 (TX3 14).1 (TX3 14).2.1 (TX3 14).2.2.1 ∈ wB := wT1 140 rfl (by decide +kernel)
theorem flX4_178 : Cond.fieldLink RX4 178 (TX3 3).1 (TX3 3).2.1 (TX3 3).2.2.1 ∈ wB := wT1 104 rfl (by decide +kernel)
theorem flX4_187 : Cond.fieldLink RX4 187 (TX3 5).1 (TX3 5).2.1 (TX3 5).2.2.1 ∈ wB := wT1 111 rfl (by decide +kernel)
theorem flX4_192 : Cond.fieldLink RX4 192 (TX3 6).1 (TX3 6).2.1 (TX3 6).2.2.1 ∈ wB := wT1 115 rfl (by decide +kernel)
theorem flX4_196 : Cond.fieldLink RX4 196 (TX3 7).1 (TX3 7).2.1 (TX3 7).2.2.1 ∈ wB := wT1 119 rfl (by decide +kernel)
theorem flX4_204 : Cond.fieldLink RX4 204 (TX3 8).1 (TX3 8).2.1 (TX3 8).2.2.1 ∈ wB := wT1 122 rfl (by decide +kernel)
theorem flX4_212 : Cond.fieldLink RX4 212 (TX3 10).1 (TX3 10).2.1 (TX3 10).2.2.1 ∈ wB := wT1 127 rfl (by decide +kernel)
theorem flX4_221 : Cond.fieldLink RX4 221 (TX3 11).1 (TX3 11).2.1 (TX3 11).2.2.1 ∈ wB := wT1 131 rfl (by decide +kernel)
theorem flX4_226 : Cond.fieldLink RX4 226 (TX3 12).1 (TX3 12).2.1 (TX3 12).2.2.1 ∈ wB := wT1 134 rfl (by decide +kernel)
theorem flX4_230 : Cond.fieldLink RX4 230 (TX3 13).1 (TX3 13).2.1 (TX3 13).2.2.1 ∈ wB := wT1 138 rfl (by decide +kernel)
theorem flX4_234 : Cond.fieldLink RX4 234 (TX3 15).1 (TX3 15).2.1 (TX3 15).2.2.1 ∈ wB := wT1 143 rfl (by decide +kernel)
theorem flX4_238 : Cond.fieldLink RX4 238 (TX3 16).1 (TX3 16).2.1 (TX3 16).2.2.1 ∈ wB := wT1 146 rfl (by decide +kernel)
theorem flX4_240 : Cond.fieldLink RX4 240 (TX3 17).1 (TX3 17).2.1 (TX3 17).2.2.1 ∈ wB := wT1 149 rfl (by decide +kernel)
theorem flX4_246 : Cond.fieldLink RX4 246 (TX3 18).1 (TX3 18).2.1 (TX3 18).2.2.1 ∈ wB := wT1 152 rfl (by decide +kernel)
theorem flX4_248 : Cond.fieldLink RX4 248 (TX3 19).1 (TX3 19).2.1 (TX3 19).2.2.1 ∈ wB := wT1 154 rfl (by decide +kernel)
theorem flX4_251 : Cond.fieldLink RX4 251 (TX3 9).1 (TX3 9).2.1 (TX3 9).2.2.1 ∈ wB := wT1 124 rfl (by decide +kernel)
theorem flX5_9 : Cond.fieldLink RX5 9 (TX5 0).1 (TX5 0).2.1 (TX5 0).2.2.1 ∈ wB := wT2 29 rfl (by decide +kernel)
theorem flX5_15 : Cond.fieldLink RX5 15 (TX3 1).1 (TX3 1).2.1 (TX3 1).2.2.1 ∈ wB := wT1 97 rfl (by decide +kernel)
theorem flX5_21 : Cond.fieldLink RX5 21 (TX3 0).1 (TX3 0).2.1 (TX3 0).2.2.1 ∈ wB := wT1 93 rfl (by decide +kernel)
theorem flX5_28 : Cond.fieldLink RX5 28 (TX5 1).1 (TX5 1).2.1 (TX5 1).2.2.1 ∈ wB := wT2 31 rfl (by decide +kernel)
theorem flX7_7 : Cond.fieldLink RX7 7 (TX7 1).1 (TX7 1).2.1 (TX7 1).2.2.1 ∈ wB := wT5 161 rfl (by decide +kernel)
theorem flX7_13 : Cond.fieldLink RX7 13 (TX7 10).1 (TX7 10).2.1 (TX7 10).2.2.1 ∈ wB := wT5 170 rfl (by decide +kernel)
theorem flX7_17 : Cond.fieldLink RX7 17 (TX7 12).1 (TX7 12).2.1 (TX7 12).2.2.1 ∈ wB := wT5 172 rfl (by decide +kernel)
theorem flX7_20 : Cond.fieldLink RX7 20 (TX7 15).1 (TX7 15).2.1 (TX7 15).2.2.1 ∈ wB := wT5 175 rfl (by decide +kernel)
theorem flX7_23 : Cond.fieldLink RX7 23 (TX7 16).1 (TX7 16).2.1 (TX7 16).2.2.1 ∈ wB := wT5 176 rfl (by decide +kernel)
theorem flX7_26 : Cond.fieldLink RX7 26 (TX7 17).1 (TX7 17).2.1 (TX7 17).2.2.1 ∈ wB := wT5 177 rfl (by decide +kernel)
theorem flX7_29 : Cond.fieldLink RX7 29 (TX7 18).1 (TX7 18).2.1 (TX7 18).2.2.1 ∈ wB := wT5 178 rfl (by decide +kernel)
theorem flX7_32 : Cond.fieldLink RX7 32 (TX7 19).1 (TX7 19).2.1 (TX7 19).2.2.1 ∈ wB := wT5 179 rfl (by decide +kernel)
theorem flX7_35 : Cond.fieldLink RX7 35 (TX7 20).1 (TX7 20).2.1 (TX7 20).2.2.1 ∈ wB := wT5 180 rfl (by decide +kernel)
theorem flX7_38 : Cond.fieldLink RX7 38 (TX7 21).1 (TX7 21).2.1 (TX7 21).2.2.1 ∈ wB := wT5 181 rfl (by decide +kernel)
theorem flX7_41 : Cond.fieldLink RX7 41 (TX7 24).1 (TX7 24).2.1 (TX7 24).2.2.1 ∈ wB := wT5 184 rfl (by decide +kernel)
theorem flX7_44 : Cond.fieldLink RX7 44 (TX7 25).1 (TX7 25).2.1 (TX7 25).2.2.1 ∈ wB := wT5 185 rfl (by decide +kernel)
theorem flX7_47 : Cond.fieldLink RX7 47 (TX7 27).1 (TX7 27).2.1 (TX7 27).2.2.1 ∈ wB := wT5 187 rfl (by decide +kernel)
theorem flX7_50 : Cond.fieldLink RX7 50 (TX7 28).1 (TX7 28).2.1 (TX7 28).2.2.1 ∈ wB := wT5 188 rfl (by decide +kernel)
theorem flX7_53 : Cond.fieldLink RX7 53 (TX7 33).1 (TX7 33).2.1 (TX7 33).2.2.1 ∈ wB := wT5 193 rfl (by decide +kernel)
theorem flX7_56 : Cond.fieldLink RX7 56 (TX7 34).1 (TX7 34).2.1 (TX7 34).2.2.1 ∈ wB := wT5 194 rfl (by decide +kernel)
theorem flX7_59 : Cond.fieldLink RX7 59 (TX7 35).1 (TX7 35).2.1 (TX7 35).2.2.1 ∈ wB := wT5 195 rfl (by decide +kernel)
theorem flX7_62 : Cond.fieldLink RX7 62 (TX7 0).1 (TX7 0).2.1 (TX7 0).2.2.1 ∈ wB := wT5 160 rfl (by decide +kernel)
theorem flX7_65 : Cond.fieldLink RX7 65 (TX7 11).1 (TX7 11).2.1 (TX7 11).2.2.1 ∈ wB := wT5 171 rfl (by decide +kernel)
theorem flX7_68 : Cond.fieldLink RX7 68 (TX7 2).1 (TX7 2).2.1 (TX7 2).2.2.1 ∈ wB := wT5 162 rfl (by decide +kernel)
theorem flX7_71 : Cond.fieldLink RX7 71 (TX7 3).1 (TX7 3).2.1 (TX7 3).2.2.1 ∈ wB := wT5 163 rfl (by decide +kernel)
theorem flX7_74 : Cond.fieldLink RX7 74 (TX7 5).1 (TX7 5).2.1 (TX7 5).2.2.1 ∈ wB := wT5 165 rfl (by decide +kernel)
theorem flX7_81 : Cond.fieldLink RX7 81 (TX7 4).1 (TX7 4).2.1 (TX7 4).2.2.1 ∈ wB := wT5 164 rfl (by decide +kernel)
theorem flX7_84 : Cond.fieldLink RX7 84 (TX7 8).1 (TX7 8).2.1 (TX7 8).2.2.1 ∈ wB := wT5 168 rfl (by decide +kernel)
theorem flX7_87 : Cond.fieldLink RX7 87 (TX7 7).1 (TX7 7).2.1 (TX7 7).2.2.1 ∈ wB := wT5 167 rfl (by decide +kernel)
theorem flX7_90 : Cond.fieldLink RX7 90 (TX7 6).1 (TX7 6).2.1 (TX7 6).2.2.1 ∈ wB := wT5 166 rfl (by decide +kernel)
theorem flX7_100 : Cond.fieldLink RX7 100 (TX7 13).1 (TX7 13).2.1 (TX7 13).2.2.1 ∈ wB := wT5 173 rfl (by decide +kernel)
theorem flX7_104 : Cond.fieldLink RX7 104 (TX7 9).1 (TX7 9).2.1 (TX7 9).2.2.1 ∈ wB := wT5 169 rfl (by decide +kernel)
theorem flX7_182 : Cond.fieldLink RX7 182 (TX7 14).1 (TX7 14).2.1 (TX7 14).2.2.1 ∈ wB := wT5 174 rfl (by decide +kernel)
theorem flX7_185 : Cond.fieldLink RX7 185 (TX7 22).1 (TX7 22).2.1 (TX7 22).2.2.1 ∈ wB := wT5 182 rfl (by decide +kernel)
theorem flX7_188 : Cond.fieldLink RX7 188 (TX7 23).1 (TX7 23).2.1 (TX7 23).2.2.1 ∈ wB := wT5 183 rfl (by decide +kernel)
theorem flX7_286 : Cond.fieldLink RX7 286 (TX7 26).1 (TX7 26).2.1 (TX7 26).2.2.1 ∈ wB := wT5 186 rfl (by decide +kernel)
theorem flX7_325 : Cond.fieldLink RX7 325 (TX7 29).1 (TX7 29).2.1 (TX7 29).2.2.1 ∈ wB := wT5 189 rfl (by decide +kernel)
theorem flX7_331 : Cond.fieldLink RX7 331 (TX7 30).1 (TX7 30).2.1 (TX7 30).2.2.1 ∈ wB := wT5 190 rfl (by decide +kernel)
theorem flX7_347 : Cond.fieldLink RX7 347 (TX7 31).1 (TX7 31).2.1 (TX7 31).2.2.1 ∈ wB := wT5 191 rfl (by decide +kernel)
theorem flX7_350 : Cond.fieldLink RX7 350 (TX7 32).1 (TX7 32).2.1 (TX7 32).2.2.1 ∈ wB := wT5 192 rfl (by decide +kernel)
theorem flX7_382 : Cond.fieldLink RX7 382 (TX7 36).1 (TX7 36).2.1 (TX7 36).2.2.1 ∈ wB := wT5 196 rfl (by decide +kernel)
theorem flX7_385 : Cond.fieldLink RX7 385 (TX7 37).1 (TX7 37).2.1 (TX7 37).2.2.1 ∈ wB := wT5 197 rfl (by decide +kernel)
theorem flX7_388 : Cond.fieldLink RX7 388 (TX7 38).1 (TX7 38).2.1 (TX7 38).2.2.1 ∈ wB := wT5 198 rfl (by decide +kernel)
theorem flX7_410 : Cond.fieldLink RX7 410 (TX7 39).1 (TX7 39).2.1 (TX7 39).2.2.1 ∈ wB := wT5 199 rfl (by decide +kernel)
theorem flX7_416 : Cond.fieldLink RX7 416 (TX7 40).1 (TX7 40).2.1 (TX7 40).2.2.1 ∈ wB := wT5 200 rfl (by decide +kernel)
theorem flX7_420 : Cond.fieldLink RX7 420 (TX7 41).1 (TX7 41).2.1 (TX7 41).2.2.1 ∈ wB := wT5 201 rfl (by decide +kernel)
theorem flX7_423 : Cond.fieldLink RX7 423 (TX7 42).1 (TX7 42).2.1 (TX7 42).2.2.1 ∈ wB := wT5 202 rfl (by decide +kernel)
theorem flX7_434 : Cond.fieldLink RX7 434 (TX7 43).1 (TX7 43).2.1 (TX7 43).2.2.1 ∈ wB := wT5 203 rfl (by decide +kernel)
theorem mlX6_81 : Cond.methodLink RX6 81 yX4_tape ∈ wB := wT2 122 rfl (by decide +kernel)
theorem mlX6_85 : Cond.methodLink RX6 85 yX6_refuse ∈ wB := wT2 130 rfl (by decide +kernel)
theorem mlX6_89 : Cond.methodLink RX6 89 yX4_reads ∈ wB := wT2 134 rfl (by decide +kernel)
theorem mlX6_93 : Cond.methodLink RX6 93 yX2_begin ∈ wB := wT3 88 rfl (by decide +kernel)
theorem mlX6_100 : Cond.methodLink RX6 100 yX6_answer ∈ wB := wT3 95 rfl (by decide +kernel)
theorem mlX6_109 : Cond.methodLink RX6 109 yX6_isFace ∈ wB := wT3 111 rfl (by decide +kernel)
theorem mlX6_122 : Cond.methodLink RX6 122 yX2_hasFallen ∈ wB := wT3 115 rfl (by decide +kernel)
theorem mlX6_128 : Cond.methodLink RX6 128 yX6_canonOf ∈ wB := wT3 119 rfl (by decide +kernel)
theorem mlX6_134 : Cond.methodLink RX6 134 yX6_isCanon ∈ wB := wT3 127 rfl (by decide +kernel)
theorem mlX6_146 : Cond.methodLink RX6 146 yX6_isCell ∈ wB := wT3 135 rfl (by decide +kernel)
theorem mlX6_149 : Cond.methodLink RX6 149 yX3_isWall ∈ wB := wT3 140 rfl (by decide +kernel)
theorem mlX6_152 : Cond.methodLink RX6 152 yX3_faceOver ∈ wB := wT3 141 rfl (by decide +kernel)
theorem mlX6_158 : Cond.methodLink RX6 158 yX5_beside ∈ wB := wT3 142 rfl (by decide +kernel)
theorem mlX6_162 : Cond.methodLink RX6 162 yX3_open ∈ wB := wT3 146 rfl (by decide +kernel)
theorem mlX6_166 : Cond.methodLink RX6 166 yX6_hasClose ∈ wB := wT3 155 rfl (by decide +kernel)
theorem mlX6_170 : Cond.methodLink RX6 170 yX6_canFollow ∈ wB := wT3 163 rfl (by decide +kernel)
theorem mlX6_174 : Cond.methodLink RX6 174 yX6_follow ∈ wB := wT3 172 rfl (by decide +kernel)
theorem mlX6_184 : Cond.methodLink RX6 184 yX6_startNow ∈ wB := wT3 176 rfl (by decide +kernel)
theorem mlX6_187 : Cond.methodLink RX6 187 yX0_firstDrop ∈ wB := wT3 204 rfl (by decide +kernel)
theorem mlX6_190 : Cond.methodLink RX6 190 yX0_pass ∈ wB := wT3 212 rfl (by decide +kernel)
theorem mlX6_194 : Cond.methodLink RX6 194 yX6_canLookAhead ∈ wB := wT3 217 rfl (by decide +kernel)
theorem mlX6_198 : Cond.methodLink RX6 198 yX6_foretellWet ∈ wB := wT3 221 rfl (by decide +kernel)
theorem mlX6_201 : Cond.methodLink RX6 201 yX6_within ∈ wB := wT3 171 rfl (by decide +kernel)
theorem mlX6_204 : Cond.methodLink RX6 204 yX6_wetDaysOf ∈ wB := wT3 229 rfl (by decide +kernel)
theorem mlX6_208 : Cond.methodLink RX6 208 yX3_cells ∈ wB := wT3 139 rfl (by decide +kernel)
theorem mlX6_211 : Cond.methodLink RX6 211 yJ9_max_7cf53 ∈ wB := wT4 5 rfl (by decide +kernel)
theorem mlX6_216 : Cond.methodLink RX6 216 yX6_couldHave ∈ wB := wT4 16 rfl (by decide +kernel)
theorem mlX6_219 : Cond.methodLink RX6 219 yX6_costIf ∈ wB := wT4 20 rfl (by decide +kernel)
theorem mlX6_223 : Cond.methodLink RX6 223 yX6_tooFewFaces ∈ wB := wT4 36 rfl (by decide +kernel)
theorem mlX6_226 : Cond.methodLink RX6 226 yX6_makeMatch ∈ wB := wT4 40 rfl (by decide +kernel)
theorem mlX6_235 : Cond.methodLink RX6 235 yX5_fewest ∈ wB := wT4 78 rfl (by decide +kernel)
theorem mlX6_239 : Cond.methodLink RX6 239 yX6_canWalk ∈ wB := wT4 87 rfl (by decide +kernel)
theorem mlX6_242 : Cond.methodLink RX6 242 yX6_wayCost ∈ wB := wT4 95 rfl (by decide +kernel)
theorem mlX6_249 : Cond.methodLink RX6 249 yX5_stepAt ∈ wB := wT4 129 rfl (by decide +kernel)
theorem mlX6_253 : Cond.methodLink RX6 253 yX6_isWalker ∈ wB := wT4 91 rfl (by decide +kernel)
theorem mlX6_259 : Cond.methodLink RX6 259 yX6_stepsTogether ∈ wB := wT4 145 rfl (by decide +kernel)
theorem mlX6_262 : Cond.methodLink RX6 262 yX6_fittingSets ∈ wB := wT4 153 rfl (by decide +kernel)
theorem mlX6_265 : Cond.methodLink RX6 265 yJ6_bitCount_0f7a4 ∈ wB := wT4 171 rfl (by decide +kernel)
theorem mlX6_273 : Cond.methodLink RX6 273 yX6_setsWith ∈ wB := wT4 180 rfl (by decide +kernel)
theorem mlX6_276 : Cond.methodLink RX6 276 yX6_bestToAsk ∈ wB := wT4 191 rfl (by decide +kernel)
theorem mlX6_279 : Cond.methodLink RX6 279 yX6_leftAtMost ∈ wB := wT4 195 rfl (by decide +kernel)
theorem mlX6_282 : Cond.methodLink RX6 282 yX6_dropFits ∈ wB := wT4 161 rfl (by decide +kernel)
theorem mlX6_285 : Cond.methodLink RX6 285 yX6_canGame ∈ wB := wT4 210 rfl (by decide +kernel)
theorem mlX6_288 : Cond.methodLink RX6 288 yX6_share ∈ wB := wT4 214 rfl (by decide +kernel)
theorem mlX6_292 : Cond.methodLink RX6 292 yX6_isRest ∈ wB := wT4 221 rfl (by decide +kernel)
theorem mlX6_295 : Cond.methodLink RX6 295 yX6_canChance ∈ wB := wT4 232 rfl (by decide +kernel)
theorem mlX6_300 : Cond.methodLink RX6 300 yX6_chance ∈ wB := wT4 237 rfl (by decide +kernel)
theorem mlX6_304 : Cond.methodLink RX6 304 yX6_isSeed ∈ wB := wT5 16 rfl (by decide +kernel)
theorem mlX6_307 : Cond.methodLink RX6 307 yX6_draw ∈ wB := wT5 20 rfl (by decide +kernel)
theorem mlX6_310 : Cond.methodLink RX6 310 yX6_isCalm ∈ wB := wT5 23 rfl (by decide +kernel)
theorem mlX6_313 : Cond.methodLink RX6 313 yX6_firstDropBySeed ∈ wB := wT5 31 rfl (by decide +kernel)
theorem mlX6_319 : Cond.methodLink RX6 319 yX6_keep ∈ wB := wT5 39 rfl (by decide +kernel)
theorem mlX6_323 : Cond.methodLink RX6 323 yX2_copy ∈ wB := wT5 43 rfl (by decide +kernel)
theorem mlX6_339 : Cond.methodLink RX6 339 yX3_wallCount ∈ wB := wT5 76 rfl (by decide +kernel)
theorem mlX6_348 : Cond.methodLink RX6 348 yX3_droppedCount ∈ wB := wT5 77 rfl (by decide +kernel)
theorem mlX6_352 : Cond.methodLink RX6 352 yX6_numberFits ∈ wB := wT3 167 rfl (by decide +kernel)
theorem mlX6_355 : Cond.methodLink RX6 355 yX0_start ∈ wB := wT3 180 rfl (by decide +kernel)
theorem mlX6_362 : Cond.methodLink RX6 362 yX0_passAll ∈ wB := wT3 184 rfl (by decide +kernel)
theorem mlX6_365 : Cond.methodLink RX6 365 yX6_costOf ∈ wB := wT4 24 rfl (by decide +kernel)
theorem mlX6_368 : Cond.methodLink RX6 368 yX1_clear ∈ wB := wT4 44 rfl (by decide +kernel)
theorem mlX6_371 : Cond.methodLink RX6 371 yX1_addFace ∈ wB := wT4 49 rfl (by decide +kernel)
theorem mlX6_374 : Cond.methodLink RX6 374 yX1_setCost ∈ wB := wT4 53 rfl (by decide +kernel)
theorem mlX6_378 : Cond.methodLink RX6 378 yX1_solve ∈ wB := wT4 57 rfl (by decide +kernel)
theorem mlX6_381 : Cond.methodLink RX6 381 yX5_measure ∈ wB := wT4 99 rfl (by decide +kernel)
theorem mlX6_388 : Cond.methodLink RX6 388 yX6_setFits ∈ wB := wT4 157 rfl (by decide +kernel)
theorem mlX6_394 : Cond.methodLink RX6 394 yX3_toldCanonOf ∈ wB := wT4 165 rfl (by decide +kernel)
theorem mlX6_397 : Cond.methodLink RX6 397 yX3_vexedBy ∈ wB := wT4 166 rfl (by decide +kernel)
theorem mlX6_402 : Cond.methodLink RX6 402 yX6_greatestDivisor ∈ wB := wT5 2 rfl (by decide +kernel)
theorem mlX6_406 : Cond.methodLink RX6 406 yJ9_max_f86c9 ∈ wB := wT5 5 rfl (by decide +kernel)
theorem mlX6_408 : Cond.methodLink RX6 408 yJ9_min_7cf53 ∈ wB := wT5 47 rfl (by decide +kernel)
theorem mlX0_47 : Cond.methodLink RX0 47 yX0_pass ∈ wB := wT3 188 rfl (by decide +kernel)
theorem mlX1_45 : Cond.methodLink RX1 45 yX1_place ∈ wB := wT4 61 rfl (by decide +kernel)
theorem mlX3_73 : Cond.methodLink RX3 73 yJ6_bitCount_0f7a4 ∈ wB := wT3 15 rfl (by decide +kernel)
theorem mlX3_79 : Cond.methodLink RX3 79 yX3_cells ∈ wB := wT3 150 rfl (by decide +kernel)
theorem mlX3_83 : Cond.methodLink RX3 83 yX3_unsureOf ∈ wB := wT4 170 rfl (by decide +kernel)
theorem mlX4_30 : Cond.methodLink RX4 30 yJ9_min_7cf53 ∈ wB := wT2 138 rfl (by decide +kernel)
theorem mlX4_43 : Cond.methodLink RX4 43 yX3_clear ∈ wB := wT2 141 rfl (by decide +kernel)
theorem mlX4_60 : Cond.methodLink RX4 60 yX4_take ∈ wB := wT2 145 rfl (by decide +kernel)
theorem mlX4_63 : Cond.methodLink RX4 63 yX4_readsLine ∈ wB := wT2 158 rfl (by decide +kernel)
theorem mlX4_73 : Cond.methodLink RX4 73 yX4_fails ∈ wB := wT2 225 rfl (by decide +kernel)
theorem mlX4_80 : Cond.methodLink RX4 80 yX4_takeWord ∈ wB := wT2 149 rfl (by decide +kernel)
theorem mlX4_83 : Cond.methodLink RX4 83 yX4_takeWhole ∈ wB := wT2 154 rfl (by decide +kernel)
theorem mlX4_95 : Cond.methodLink RX4 95 yJ0_length_8abf5 ∈ wB := wT2 171 rfl (by decide +kernel)
theorem mlX4_100 : Cond.methodLink RX4 100 yJ0_charAt_5068e ∈ wB := wT2 181 rfl (by decide +kernel)
theorem mlX4_106 : Cond.methodLink RX4 106 yX4_isWord ∈ wB := wT2 167 rfl (by decide +kernel)
theorem mlX4_122 : Cond.methodLink RX4 122 yX4_beginsLine ∈ wB := wT2 162 rfl (by decide +kernel)
theorem mlX4_128 : Cond.methodLink RX4 128 yX4_readsClose ∈ wB := wT2 229 rfl (by decide +kernel)
theorem mlX4_131 : Cond.methodLink RX4 131 yX4_readsWall ∈ wB := wT3 7 rfl (by decide +kernel)
theorem mlX4_134 : Cond.methodLink RX4 134 yX4_readsFace ∈ wB := wT3 29 rfl (by decide +kernel)
theorem mlX4_137 : Cond.methodLink RX4 137 yX4_readsCanon ∈ wB := wT3 55 rfl (by decide +kernel)
theorem mlX4_140 : Cond.methodLink RX4 140 yX4_readsWalker ∈ wB := wT3 69 rfl (by decide +kernel)
theorem mlX4_143 : Cond.methodLink RX4 143 yX4_readsUnsure ∈ wB := wT3 75 rfl (by decide +kernel)
theorem mlX4_146 : Cond.methodLink RX4 146 yX4_readsDropped ∈ wB := wT3 83 rfl (by decide +kernel)
theorem mlX4_150 : Cond.methodLink RX4 150 yX4_labelled ∈ wB := wT2 234 rfl (by decide +kernel)
theorem mlX4_162 : Cond.methodLink RX4 162 yX3_wallCount ∈ wB := wT3 11 rfl (by decide +kernel)
theorem mlX4_168 : Cond.methodLink RX4 168 yX3_cells ∈ wB := wT3 21 rfl (by decide +kernel)
theorem mlX4_171 : Cond.methodLink RX4 171 yX4_bounded ∈ wB := wT2 238 rfl (by decide +kernel)
theorem mlX4_175 : Cond.methodLink RX4 175 yX3_isWall ∈ wB := wT3 25 rfl (by decide +kernel)
theorem mlX4_181 : Cond.methodLink RX4 181 yX4_tells ∈ wB := wT3 33 rfl (by decide +kernel)
theorem mlX4_184 : Cond.methodLink RX4 184 yX4_kindHere ∈ wB := wT3 41 rfl (by decide +kernel)
theorem mlX4_200 : Cond.methodLink RX4 200 yX3_faceOver ∈ wB := wT3 51 rfl (by decide +kernel)
theorem mlX4_215 : Cond.methodLink RX4 215 yX4_named ∈ wB := wT3 59 rfl (by decide +kernel)
theorem mlX4_218 : Cond.methodLink RX4 218 yX3_toldCanonOf ∈ wB := wT3 63 rfl (by decide +kernel)
theorem mlX4_243 : Cond.methodLink RX4 243 yX3_unsureOf ∈ wB := wT3 79 rfl (by decide +kernel)
theorem mlX4_260 : Cond.methodLink RX4 260 yX4_nameAt ∈ wB := wT3 37 rfl (by decide +kernel)
theorem mlX5_24 : Cond.methodLink RX5 24 yX5_beside ∈ wB := wT4 82 rfl (by decide +kernel)
theorem mlX5_32 : Cond.methodLink RX5 32 yX5_weight ∈ wB := wT4 104 rfl (by decide +kernel)
theorem mlX5_36 : Cond.methodLink RX5 36 yX3_cells ∈ wB := wT4 108 rfl (by decide +kernel)
theorem mlX5_40 : Cond.methodLink RX5 40 yX5_leastOnward ∈ wB := wT4 109 rfl (by decide +kernel)
theorem mlX5_43 : Cond.methodLink RX5 43 yX3_isWall ∈ wB := wT4 118 rfl (by decide +kernel)
theorem mlX5_47 : Cond.methodLink RX5 47 yX5_firstStep ∈ wB := wT4 133 rfl (by decide +kernel)
theorem mlX5_50 : Cond.methodLink RX5 50 yX5_next ∈ wB := wT4 113 rfl (by decide +kernel)
theorem mlX5_54 : Cond.methodLink RX5 54 yJ9_min_7cf53 ∈ wB := wT4 119 rfl (by decide +kernel)
theorem mlX5_60 : Cond.methodLink RX5 60 yJ9_max_7cf53 ∈ wB := wT4 117 rfl (by decide +kernel)
theorem mlX7_77 : Cond.methodLink RX7 77 yX7_see ∈ wB := wT6 76 rfl (by decide +kernel)
theorem mlX7_93 : Cond.methodLink RX7 93 yX7_isSmall ∈ wB := wT6 80 rfl (by decide +kernel)
theorem mlX7_97 : Cond.methodLink RX7 97 yX7_isDigit ∈ wB := wT6 83 rfl (by decide +kernel)
theorem mlX7_107 : Cond.methodLink RX7 107 yJ0_length_8abf5 ∈ wB := wT6 95 rfl (by decide +kernel)
theorem mlX7_113 : Cond.methodLink RX7 113 yJ0_charAt_5068e ∈ wB := wT6 96 rfl (by decide +kernel)
theorem mlX7_117 : Cond.methodLink RX7 117 yX7_isWord ∈ wB := wT6 91 rfl (by decide +kernel)
theorem mlX7_121 : Cond.methodLink RX7 121 yX7_next ∈ wB := wT6 72 rfl (by decide +kernel)
theorem mlX7_124 : Cond.methodLink RX7 124 yX7_takesWord ∈ wB := wT6 114 rfl (by decide +kernel)
theorem mlX7_127 : Cond.methodLink RX7 127 yX7_wrong ∈ wB := wT6 101 rfl (by decide +kernel)
theorem mlX7_145 : Cond.methodLink RX7 145 yX7_mustName ∈ wB := wT6 157 rfl (by decide +kernel)
theorem mlX7_148 : Cond.methodLink RX7 148 yX7_find ∈ wB := wT6 165 rfl (by decide +kernel)
theorem mlX7_151 : Cond.methodLink RX7 151 yX7_in ∈ wB := wT6 65 rfl (by decide +kernel)
theorem mlX7_155 : Cond.methodLink RX7 155 yX7_numberHere ∈ wB := wT6 122 rfl (by decide +kernel)
theorem mlX7_159 : Cond.methodLink RX7 159 yX7_pass ∈ wB := wT6 126 rfl (by decide +kernel)
theorem mlX7_162 : Cond.methodLink RX7 162 yX7_must ∈ wB := wT6 110 rfl (by decide +kernel)
theorem mlX7_166 : Cond.methodLink RX7 166 yX7_number ∈ wB := wT6 118 rfl (by decide +kernel)
theorem mlX7_169 : Cond.methodLink RX7 169 yX7_good ∈ wB := wT6 61 rfl (by decide +kernel)
theorem mlX7_172 : Cond.methodLink RX7 172 yX7_no ∈ wB := wT6 68 rfl (by decide +kernel)
theorem mlX7_175 : Cond.methodLink RX7 175 yX7_readLine ∈ wB := wT6 86 rfl (by decide +kernel)
theorem mlX7_178 : Cond.methodLink RX7 178 yX7_copy ∈ wB := wT6 204 rfl (by decide +kernel)
theorem mlX7_191 : Cond.methodLink RX7 191 yX7_closeLine ∈ wB := wT6 97 rfl (by decide +kernel)
theorem mlX7_194 : Cond.methodLink RX7 194 yX7_begins ∈ wB := wT6 133 rfl (by decide +kernel)
theorem mlX7_198 : Cond.methodLink RX7 198 yX7_wallLine ∈ wB := wT6 137 rfl (by decide +kernel)
theorem mlX7_201 : Cond.methodLink RX7 201 yX7_faceLine ∈ wB := wT6 149 rfl (by decide +kernel)
theorem mlX7_204 : Cond.methodLink RX7 204 yX7_canonLine ∈ wB := wT6 175 rfl (by decide +kernel)
theorem mlX7_207 : Cond.methodLink RX7 207 yX7_walkerLine ∈ wB := wT6 185 rfl (by decide +kernel)
theorem mlX7_210 : Cond.methodLink RX7 210 yX7_unsureLine ∈ wB := wT6 195 rfl (by decide +kernel)
theorem mlX7_213 : Cond.methodLink RX7 213 yX7_droppedLine ∈ wB := wT6 199 rfl (by decide +kernel)
theorem mlX7_218 : Cond.methodLink RX7 218 yX7_after ∈ wB := wT6 106 rfl (by decide +kernel)
theorem mlX7_226 : Cond.methodLink RX7 226 yX7_cellHere ∈ wB := wT6 141 rfl (by decide +kernel)
theorem mlX7_229 : Cond.methodLink RX7 229 yX7_hasBit ∈ wB := wT6 145 rfl (by decide +kernel)
theorem mlX7_233 : Cond.methodLink RX7 233 yX7_newName ∈ wB := wT6 153 rfl (by decide +kernel)
theorem mlX7_248 : Cond.methodLink RX7 248 yX7_named ∈ wB := wT6 179 rfl (by decide +kernel)
theorem mlX7_256 : Cond.methodLink RX7 256 yX7_openCell ∈ wB := wT6 190 rfl (by decide +kernel)
theorem mlX7_263 : Cond.methodLink RX7 263 yX7_cells ∈ wB := wT7 3 rfl (by decide +kernel)
theorem mlX7_266 : Cond.methodLink RX7 266 yX7_letsGo ∈ wB := wT7 51 rfl (by decide +kernel)
theorem mlX7_270 : Cond.methodLink RX7 270 yX7_vexedBy ∈ wB := wT7 43 rfl (by decide +kernel)
theorem mlX7_273 : Cond.methodLink RX7 273 yX7_dayOn ∈ wB := wT7 47 rfl (by decide +kernel)
theorem mlX7_277 : Cond.methodLink RX7 277 yX7_isFace ∈ wB := wT6 219 rfl (by decide +kernel)
theorem mlX7_280 : Cond.methodLink RX7 280 yX7_canonOf ∈ wB := wT6 223 rfl (by decide +kernel)
theorem mlX7_283 : Cond.methodLink RX7 283 yX7_isCanon ∈ wB := wT6 231 rfl (by decide +kernel)
theorem mlX7_289 : Cond.methodLink RX7 289 yX7_isWall ∈ wB := wT7 19 rfl (by decide +kernel)
theorem mlX7_292 : Cond.methodLink RX7 292 yX7_stepFrom ∈ wB := wT7 15 rfl (by decide +kernel)
theorem mlX7_295 : Cond.methodLink RX7 295 yX7_isCell ∈ wB := wT6 239 rfl (by decide +kernel)
theorem mlX7_298 : Cond.methodLink RX7 298 yX7_faceOver ∈ wB := wT7 7 rfl (by decide +kernel)
theorem mlX7_301 : Cond.methodLink RX7 301 yX7_beside ∈ wB := wT7 11 rfl (by decide +kernel)
theorem mlX7_304 : Cond.methodLink RX7 304 yX7_why ∈ wB := wT7 35 rfl (by decide +kernel)
theorem mlX7_308 : Cond.methodLink RX7 308 yX7_aheadWhy ∈ wB := wT7 31 rfl (by decide +kernel)
theorem mlX7_312 : Cond.methodLink RX7 312 yX7_daysOn ∈ wB := wT7 39 rfl (by decide +kernel)
theorem mlX7_315 : Cond.methodLink RX7 315 yX7_wetOften ∈ wB := wT7 79 rfl (by decide +kernel)
theorem mlX7_318 : Cond.methodLink RX7 318 yX7_fallenOn ∈ wB := wT7 99 rfl (by decide +kernel)
theorem mlX7_322 : Cond.methodLink RX7 322 yX7_ones ∈ wB := wT7 123 rfl (by decide +kernel)
theorem mlX7_328 : Cond.methodLink RX7 328 yX7_letsOf ∈ wB := wT7 126 rfl (by decide +kernel)
theorem mlX7_334 : Cond.methodLink RX7 334 yX7_planWhy ∈ wB := wT7 107 rfl (by decide +kernel)
theorem mlX7_338 : Cond.methodLink RX7 338 yX7_mayHave ∈ wB := wT7 111 rfl (by decide +kernel)
theorem mlX7_341 : Cond.methodLink RX7 341 yX7_planAsNow ∈ wB := wT7 115 rfl (by decide +kernel)
theorem mlX7_344 : Cond.methodLink RX7 344 yX7_goByPlan ∈ wB := wT7 119 rfl (by decide +kernel)
theorem mlX7_353 : Cond.methodLink RX7 353 yX7_isBest ∈ wB := wT7 134 rfl (by decide +kernel)
theorem mlX7_356 : Cond.methodLink RX7 356 yX7_tryPlans ∈ wB := wT7 146 rfl (by decide +kernel)
theorem mlX7_360 : Cond.methodLink RX7 360 yX7_seekMatch ∈ wB := wT7 142 rfl (by decide +kernel)
theorem mlX7_364 : Cond.methodLink RX7 364 yX7_costOf ∈ wB := wT7 171 rfl (by decide +kernel)
theorem mlX7_367 : Cond.methodLink RX7 367 yX7_layCosts ∈ wB := wT7 166 rfl (by decide +kernel)
theorem mlX7_370 : Cond.methodLink RX7 370 yX7_stepsOf ∈ wB := wT7 162 rfl (by decide +kernel)
theorem mlX7_373 : Cond.methodLink RX7 373 yX7_isWalker ∈ wB := wT7 179 rfl (by decide +kernel)
theorem mlX7_376 : Cond.methodLink RX7 376 yX7_wayOf ∈ wB := wT7 183 rfl (by decide +kernel)
theorem mlX7_379 : Cond.methodLink RX7 379 yX7_allSteps ∈ wB := wT7 203 rfl (by decide +kernel)
theorem mlX7_391 : Cond.methodLink RX7 391 yX7_wrongBy ∈ wB := wT7 215 rfl (by decide +kernel)
theorem mlX7_394 : Cond.methodLink RX7 394 yX7_seekSets ∈ wB := wT7 211 rfl (by decide +kernel)
theorem mlX7_397 : Cond.methodLink RX7 397 yX7_leavesOf ∈ wB := wT7 239 rfl (by decide +kernel)
theorem mlX7_400 : Cond.methodLink RX7 400 yX7_askOf ∈ wB := wT7 235 rfl (by decide +kernel)
theorem mlX7_403 : Cond.methodLink RX7 403 yX7_breadHas ∈ wB := wT8 15 rfl (by decide +kernel)
theorem mlX7_406 : Cond.methodLink RX7 406 yX7_canonHas ∈ wB := wT8 18 rfl (by decide +kernel)
theorem mlX7_413 : Cond.methodLink RX7 413 yX7_seekRests ∈ wB := wT8 25 rfl (by decide +kernel)
theorem mlX7_426 : Cond.methodLink RX7 426 yX7_tryCalms ∈ wB := wT8 37 rfl (by decide +kernel)
theorem mlX7_429 : Cond.methodLink RX7 429 yX7_lowest ∈ wB := wT8 41 rfl (by decide +kernel)
theorem mlX7_438 : Cond.methodLink RX7 438 yX7_drawWhy ∈ wB := wT8 52 rfl (by decide +kernel)
theorem mlX7_441 : Cond.methodLink RX7 441 yX7_note ∈ wB := wT8 66 rfl (by decide +kernel)
theorem mlX7_444 : Cond.methodLink RX7 444 yX7_isNot ∈ wB := wT8 78 rfl (by decide +kernel)
theorem kiX6_245 : Cond.constant RX6 245 1048576 ∈ wB := wT4 120 rfl (by decide +kernel)
theorem kiX6_351 : Cond.constant RX6 351 65537 ∈ wB := wT5 19 rfl (by decide +kernel)
theorem kiX1_41 : Cond.constant RX1 41 2147483647 ∈ wB := wT4 48 rfl (by decide +kernel)
theorem kiX5_31 : Cond.constant RX5 31 1048576 ∈ wB := wT4 103 rfl (by decide +kernel)
theorem kiX7_363 : Cond.constant RX7 363 100000000 ∈ wB := wT7 170 rfl (by decide +kernel)
theorem kiX7_433 : Cond.constant RX7 433 65536 ∈ wB := wT8 56 rfl (by decide +kernel)
theorem kiX7_437 : Cond.constant RX7 437 65537 ∈ wB := wT8 57 rfl (by decide +kernel)
theorem kiJ6_265 : Cond.constant RJ6 265 1431655765 ∈ wB := wT3 18 rfl (by decide +kernel)
theorem kiJ6_266 : Cond.constant RJ6 266 858993459 ∈ wB := wT3 19 rfl (by decide +kernel)
theorem kiJ6_267 : Cond.constant RJ6 267 252645135 ∈ wB := wT3 20 rfl (by decide +kernel)
theorem klX6_298 : Cond.constantLong RX6 298 (-1) ∈ wB := wT4 236 rfl (by decide +kernel)
theorem klX6_400 : Cond.constantLong RX6 400 100 ∈ wB := wT5 1 rfl (by decide +kernel)
theorem klX4_90 : Cond.constantLong RX4 90 32 ∈ wB := wT2 153 rfl (by decide +kernel)
theorem cv_J0_charAt_5068e : cV uJ0_charAt_5068e 1 := ⟨⟨wT2 184 rfl (by decide +kernel), wT1 10 rfl (by decide +kernel), by decide +kernel, by decide⟩, wT2 182 rfl (by decide +kernel), wT2 183 rfl (by decide +kernel)⟩
theorem cv_J0_length_8abf5 : cV uJ0_length_8abf5 0 := ⟨⟨wT2 174 rfl (by decide +kernel), wT1 10 rfl (by decide +kernel), by decide +kernel, by decide⟩, wT2 172 rfl (by decide +kernel), wT2 173 rfl (by decide +kernel)⟩
theorem ct_J6_bitCount_0f7a4 : cT uJ6_bitCount_0f7a4 1 := ⟨⟨wT3 17 rfl (by decide +kernel), wT1 14 rfl (by decide +kernel), by decide +kernel, by decide⟩, wT3 16 rfl (by decide +kernel)⟩
theorem ct_J9_max_7cf53 : cT uJ9_max_7cf53 2 := ⟨⟨wT4 7 rfl (by decide +kernel), wT1 9 rfl (by decide +kernel), by decide +kernel, by decide⟩, wT4 6 rfl (by decide +kernel)⟩
theorem ct_J9_max_f86c9 : cT uJ9_max_f86c9 2 := ⟨⟨wT5 7 rfl (by decide +kernel), wT1 9 rfl (by decide +kernel), by decide +kernel, by decide⟩, wT5 6 rfl (by decide +kernel)⟩
theorem ct_J9_min_7cf53 : cT uJ9_min_7cf53 2 := ⟨⟨wT2 140 rfl (by decide +kernel), wT1 9 rfl (by decide +kernel), by decide +kernel, by decide⟩, wT2 139 rfl (by decide +kernel)⟩
theorem cv_X0_firstDrop : cV uX0_firstDrop 1 := ⟨⟨wT3 207 rfl (by decide +kernel), wT1 5 rfl (by decide +kernel), by decide +kernel, by decide⟩, wT3 205 rfl (by decide +kernel), wT3 206 rfl (by decide +kernel)⟩
theorem cv_X0_pass : cV uX0_pass 1 := ⟨⟨wT3 191 rfl (by decide +kernel), wT1 5 rfl (by decide +kernel), by decide +kernel, by decide⟩, wT3 189 rfl (by decide +kernel), wT3 190 rfl (by decide +kernel)⟩
theorem cv_X0_passAll : cV uX0_passAll 1 := ⟨⟨wT3 187 rfl (by decide +kernel), wT1 5 rfl (by decide +kernel), by decide +kernel, by decide⟩, wT3 185 rfl (by decide +kernel), wT3 186 rfl (by decide +kernel)⟩
theorem cv_X0_start : cV uX0_start 4 := ⟨⟨wT3 183 rfl (by decide +kernel), wT1 5 rfl (by decide +kernel), by decide +kernel, by decide⟩, wT3 181 rfl (by decide +kernel), wT3 182 rfl (by decide +kernel)⟩
theorem cv_X1_addFace : cV uX1_addFace 2 := ⟨⟨wT4 52 rfl (by decide +kernel), wT1 7 rfl (by decide +kernel), by decide +kernel, by decide⟩, wT4 50 rfl (by decide +kernel), wT4 51 rfl (by decide +kernel)⟩
theorem cv_X1_clear : cV uX1_clear 2 := ⟨⟨wT4 47 rfl (by decide +kernel), wT1 7 rfl (by decide +kernel), by decide +kernel, by decide⟩, wT4 45 rfl (by decide +kernel), wT4 46 rfl (by decide +kernel)⟩
theorem cv_X1_place : cV uX1_place 3 := ⟨⟨wT4 64 rfl (by decide +kernel), wT1 7 rfl (by decide +kernel), by decide +kernel, by decide⟩, wT4 63 rfl (by decide +kernel), wB_of 39 (by decide +kernel) (by decide +kernel)⟩
theorem cv_X1_setCost : cV uX1_setCost 3 := ⟨⟨wT4 56 rfl (by decide +kernel), wT1 7 rfl (by decide +kernel), by decide +kernel, by decide⟩, wT4 54 rfl (by decide +kernel), wT4 55 rfl (by decide +kernel)⟩
theorem cv_X1_solve : cV uX1_solve 0 := ⟨⟨wT4 60 rfl (by decide +kernel), wT1 7 rfl (by decide +kernel), by decide +kernel, by decide⟩, wT4 58 rfl (by decide +kernel), wT4 59 rfl (by decide +kernel)⟩
theorem cv_X2_begin : cV uX2_begin 1 := ⟨⟨wT3 91 rfl (by decide +kernel), wT1 4 rfl (by decide +kernel), by decide +kernel, by decide⟩, wT3 89 rfl (by decide +kernel), wT3 90 rfl (by decide +kernel)⟩
theorem cv_X2_copy : cV uX2_copy 1 := ⟨⟨wT5 46 rfl (by decide +kernel), wT1 4 rfl (by decide +kernel), by decide +kernel, by decide⟩, wT5 44 rfl (by decide +kernel), wT5 45 rfl (by decide +kernel)⟩
theorem cv_X2_hasFallen : cV uX2_hasFallen 1 := ⟨⟨wT3 118 rfl (by decide +kernel), wT1 4 rfl (by decide +kernel), by decide +kernel, by decide⟩, wT3 116 rfl (by decide +kernel), wT3 117 rfl (by decide +kernel)⟩
theorem cv_X3_cells : cV uX3_cells 0 := ⟨⟨wT3 24 rfl (by decide +kernel), wT1 3 rfl (by decide +kernel), by decide +kernel, by decide⟩, wT3 22 rfl (by decide +kernel), wT3 23 rfl (by decide +kernel)⟩
theorem cv_X3_clear : cV uX3_clear 0 := ⟨⟨wT2 144 rfl (by decide +kernel), wT1 3 rfl (by decide +kernel), by decide +kernel, by decide⟩, wT2 142 rfl (by decide +kernel), wT2 143 rfl (by decide +kernel)⟩
theorem cv_X3_droppedCount : cV uX3_droppedCount 0 := ⟨⟨wT5 80 rfl (by decide +kernel), wT1 3 rfl (by decide +kernel), by decide +kernel, by decide⟩, wT5 78 rfl (by decide +kernel), wT5 79 rfl (by decide +kernel)⟩
theorem cv_X3_faceOver : cV uX3_faceOver 1 := ⟨⟨wT3 54 rfl (by decide +kernel), wT1 3 rfl (by decide +kernel), by decide +kernel, by decide⟩, wT3 52 rfl (by decide +kernel), wT3 53 rfl (by decide +kernel)⟩
theorem cv_X3_isWall : cV uX3_isWall 1 := ⟨⟨wT3 28 rfl (by decide +kernel), wT1 3 rfl (by decide +kernel), by decide +kernel, by decide⟩, wT3 26 rfl (by decide +kernel), wT3 27 rfl (by decide +kernel)⟩
theorem cv_X3_open : cV uX3_open 0 := ⟨⟨wT3 149 rfl (by decide +kernel), wT1 3 rfl (by decide +kernel), by decide +kernel, by decide⟩, wT3 147 rfl (by decide +kernel), wT3 148 rfl (by decide +kernel)⟩
theorem cv_X3_toldCanonOf : cV uX3_toldCanonOf 1 := ⟨⟨wT3 66 rfl (by decide +kernel), wT1 3 rfl (by decide +kernel), by decide +kernel, by decide⟩, wT3 64 rfl (by decide +kernel), wT3 65 rfl (by decide +kernel)⟩
theorem cv_X3_unsureOf : cV uX3_unsureOf 1 := ⟨⟨wT3 82 rfl (by decide +kernel), wT1 3 rfl (by decide +kernel), by decide +kernel, by decide⟩, wT3 80 rfl (by decide +kernel), wT3 81 rfl (by decide +kernel)⟩
theorem cv_X3_vexedBy : cV uX3_vexedBy 2 := ⟨⟨wT4 169 rfl (by decide +kernel), wT1 3 rfl (by decide +kernel), by decide +kernel, by decide⟩, wT4 167 rfl (by decide +kernel), wT4 168 rfl (by decide +kernel)⟩
theorem cv_X3_wallCount : cV uX3_wallCount 0 := ⟨⟨wT3 14 rfl (by decide +kernel), wT1 3 rfl (by decide +kernel), by decide +kernel, by decide⟩, wT3 12 rfl (by decide +kernel), wT3 13 rfl (by decide +kernel)⟩
theorem cv_X4_beginsLine : cV uX4_beginsLine 0 := ⟨⟨wT2 165 rfl (by decide +kernel), wT1 2 rfl (by decide +kernel), by decide +kernel, by decide⟩, wT2 164 rfl (by decide +kernel), wB_of 5 (by decide +kernel) (by decide +kernel)⟩
theorem cv_X4_bounded : cV uX4_bounded 2 := ⟨⟨wT3 1 rfl (by decide +kernel), wT1 2 rfl (by decide +kernel), by decide +kernel, by decide⟩, wT3 0 rfl (by decide +kernel), wB_of 10 (by decide +kernel) (by decide +kernel)⟩
theorem cv_X4_fails : cV uX4_fails 1 := ⟨⟨wT2 228 rfl (by decide +kernel), wT1 2 rfl (by decide +kernel), by decide +kernel, by decide⟩, wT2 227 rfl (by decide +kernel), wB_of 7 (by decide +kernel) (by decide +kernel)⟩
theorem cv_X4_isWord : cV uX4_isWord 1 := ⟨⟨wT2 170 rfl (by decide +kernel), wT1 2 rfl (by decide +kernel), by decide +kernel, by decide⟩, wT2 169 rfl (by decide +kernel), wB_of 6 (by decide +kernel) (by decide +kernel)⟩
theorem cv_X4_kindHere : cV uX4_kindHere 0 := ⟨⟨wT3 44 rfl (by decide +kernel), wT1 2 rfl (by decide +kernel), by decide +kernel, by decide⟩, wT3 43 rfl (by decide +kernel), wB_of 15 (by decide +kernel) (by decide +kernel)⟩
theorem cv_X4_labelled : cV uX4_labelled 3 := ⟨⟨wT2 237 rfl (by decide +kernel), wT1 2 rfl (by decide +kernel), by decide +kernel, by decide⟩, wT2 236 rfl (by decide +kernel), wB_of 9 (by decide +kernel) (by decide +kernel)⟩
theorem cv_X4_nameAt : cV uX4_nameAt 0 := ⟨⟨wT3 40 rfl (by decide +kernel), wT1 2 rfl (by decide +kernel), by decide +kernel, by decide⟩, wT3 39 rfl (by decide +kernel), wB_of 14 (by decide +kernel) (by decide +kernel)⟩
theorem cv_X4_named : cV uX4_named 1 := ⟨⟨wT3 62 rfl (by decide +kernel), wT1 2 rfl (by decide +kernel), by decide +kernel, by decide⟩, wT3 61 rfl (by decide +kernel), wB_of 17 (by decide +kernel) (by decide +kernel)⟩
theorem cv_X4_reads : cV uX4_reads 2 := ⟨⟨wT2 137 rfl (by decide +kernel), wT1 2 rfl (by decide +kernel), by decide +kernel, by decide⟩, wT2 135 rfl (by decide +kernel), wT2 136 rfl (by decide +kernel)⟩
theorem cv_X4_readsCanon : cV uX4_readsCanon 0 := ⟨⟨wT3 58 rfl (by decide +kernel), wT1 2 rfl (by decide +kernel), by decide +kernel, by decide⟩, wT3 57 rfl (by decide +kernel), wB_of 16 (by decide +kernel) (by decide +kernel)⟩
theorem cv_X4_readsClose : cV uX4_readsClose 0 := ⟨⟨wT2 232 rfl (by decide +kernel), wT1 2 rfl (by decide +kernel), by decide +kernel, by decide⟩, wT2 231 rfl (by decide +kernel), wB_of 8 (by decide +kernel) (by decide +kernel)⟩
theorem cv_X4_readsDropped : cV uX4_readsDropped 0 := ⟨⟨wT3 86 rfl (by decide +kernel), wT1 2 rfl (by decide +kernel), by decide +kernel, by decide⟩, wT3 85 rfl (by decide +kernel), wB_of 20 (by decide +kernel) (by decide +kernel)⟩
theorem cv_X4_readsFace : cV uX4_readsFace 0 := ⟨⟨wT3 32 rfl (by decide +kernel), wT1 2 rfl (by decide +kernel), by decide +kernel, by decide⟩, wT3 31 rfl (by decide +kernel), wB_of 12 (by decide +kernel) (by decide +kernel)⟩
theorem cv_X4_readsLine : cV uX4_readsLine 0 := ⟨⟨wT2 161 rfl (by decide +kernel), wT1 2 rfl (by decide +kernel), by decide +kernel, by decide⟩, wT2 160 rfl (by decide +kernel), wB_of 4 (by decide +kernel) (by decide +kernel)⟩
theorem cv_X4_readsUnsure : cV uX4_readsUnsure 0 := ⟨⟨wT3 78 rfl (by decide +kernel), wT1 2 rfl (by decide +kernel), by decide +kernel, by decide⟩, wT3 77 rfl (by decide +kernel), wB_of 19 (by decide +kernel) (by decide +kernel)⟩
theorem cv_X4_readsWalker : cV uX4_readsWalker 0 := ⟨⟨wT3 72 rfl (by decide +kernel), wT1 2 rfl (by decide +kernel), by decide +kernel, by decide⟩, wT3 71 rfl (by decide +kernel), wB_of 18 (by decide +kernel) (by decide +kernel)⟩
theorem cv_X4_readsWall : cV uX4_readsWall 0 := ⟨⟨wT3 10 rfl (by decide +kernel), wT1 2 rfl (by decide +kernel), by decide +kernel, by decide⟩, wT3 9 rfl (by decide +kernel), wB_of 11 (by decide +kernel) (by decide +kernel)⟩
theorem cv_X4_take : cV uX4_take 0 := ⟨⟨wT2 148 rfl (by decide +kernel), wT1 2 rfl (by decide +kernel), by decide +kernel, by decide⟩, wT2 147 rfl (by decide +kernel), wB_of 1 (by decide +kernel) (by decide +kernel)⟩
theorem cv_X4_takeWhole : cV uX4_takeWhole 0 := ⟨⟨wT2 157 rfl (by decide +kernel), wT1 2 rfl (by decide +kernel), by decide +kernel, by decide⟩, wT2 156 rfl (by decide +kernel), wB_of 3 (by decide +kernel) (by decide +kernel)⟩
theorem cv_X4_takeWord : cV uX4_takeWord 0 := ⟨⟨wT2 152 rfl (by decide +kernel), wT1 2 rfl (by decide +kernel), by decide +kernel, by decide⟩, wT2 151 rfl (by decide +kernel), wB_of 2 (by decide +kernel) (by decide +kernel)⟩
theorem cv_X4_tape : cV uX4_tape 1 := ⟨⟨wT2 125 rfl (by decide +kernel), wT1 2 rfl (by decide +kernel), by decide +kernel, by decide⟩, wT2 123 rfl (by decide +kernel), wT2 124 rfl (by decide +kernel)⟩
theorem cv_X4_tells : cV uX4_tells 2 := ⟨⟨wT3 36 rfl (by decide +kernel), wT1 2 rfl (by decide +kernel), by decide +kernel, by decide⟩, wT3 35 rfl (by decide +kernel), wB_of 13 (by decide +kernel) (by decide +kernel)⟩
theorem cv_X5_beside : cV uX5_beside 2 := ⟨⟨wT3 145 rfl (by decide +kernel), wT1 6 rfl (by decide +kernel), by decide +kernel, by decide⟩, wT3 143 rfl (by decide +kernel), wT3 144 rfl (by decide +kernel)⟩
theorem cv_X5_fewest : cV uX5_fewest 4 := ⟨⟨wT4 81 rfl (by decide +kernel), wT1 6 rfl (by decide +kernel), by decide +kernel, by decide⟩, wT4 79 rfl (by decide +kernel), wT4 80 rfl (by decide +kernel)⟩
theorem cv_X5_firstStep : cV uX5_firstStep 2 := ⟨⟨wT4 136 rfl (by decide +kernel), wT1 6 rfl (by decide +kernel), by decide +kernel, by decide⟩, wT4 135 rfl (by decide +kernel), wB_of 46 (by decide +kernel) (by decide +kernel)⟩
theorem cv_X5_leastOnward : cV uX5_leastOnward 2 := ⟨⟨wT4 112 rfl (by decide +kernel), wT1 6 rfl (by decide +kernel), by decide +kernel, by decide⟩, wT4 111 rfl (by decide +kernel), wB_of 44 (by decide +kernel) (by decide +kernel)⟩
theorem cv_X5_measure : cV uX5_measure 3 := ⟨⟨wT4 102 rfl (by decide +kernel), wT1 6 rfl (by decide +kernel), by decide +kernel, by decide⟩, wT4 100 rfl (by decide +kernel), wT4 101 rfl (by decide +kernel)⟩
theorem cv_X5_next : cV uX5_next 3 := ⟨⟨wT4 116 rfl (by decide +kernel), wT1 6 rfl (by decide +kernel), by decide +kernel, by decide⟩, wT4 115 rfl (by decide +kernel), wB_of 45 (by decide +kernel) (by decide +kernel)⟩
theorem cv_X5_stepAt : cV uX5_stepAt 3 := ⟨⟨wT4 132 rfl (by decide +kernel), wT1 6 rfl (by decide +kernel), by decide +kernel, by decide⟩, wT4 130 rfl (by decide +kernel), wT4 131 rfl (by decide +kernel)⟩
theorem cv_X5_weight : cV uX5_weight 1 := ⟨⟨wT4 107 rfl (by decide +kernel), wT1 6 rfl (by decide +kernel), by decide +kernel, by decide⟩, wT4 106 rfl (by decide +kernel), wB_of 43 (by decide +kernel) (by decide +kernel)⟩
theorem cv_X6_answer : cV uX6_answer 1 := ⟨⟨wT3 98 rfl (by decide +kernel), wT1 1 rfl (by decide +kernel), by decide +kernel, by decide⟩, wT3 97 rfl (by decide +kernel), wB_of 21 (by decide +kernel) (by decide +kernel)⟩
theorem cv_X6_bestToAsk : cV uX6_bestToAsk 1 := ⟨⟨wT4 194 rfl (by decide +kernel), wT1 1 rfl (by decide +kernel), by decide +kernel, by decide⟩, wT4 193 rfl (by decide +kernel), wB_of 51 (by decide +kernel) (by decide +kernel)⟩
theorem cv_X6_canChance : cV uX6_canChance 2 := ⟨⟨wT4 235 rfl (by decide +kernel), wT1 1 rfl (by decide +kernel), by decide +kernel, by decide⟩, wT4 234 rfl (by decide +kernel), wB_of 53 (by decide +kernel) (by decide +kernel)⟩
theorem cv_X6_canFollow : cV uX6_canFollow 2 := ⟨⟨wT3 166 rfl (by decide +kernel), wT1 1 rfl (by decide +kernel), by decide +kernel, by decide⟩, wT3 165 rfl (by decide +kernel), wB_of 27 (by decide +kernel) (by decide +kernel)⟩
theorem cv_X6_canGame : cV uX6_canGame 1 := ⟨⟨wT4 213 rfl (by decide +kernel), wT1 1 rfl (by decide +kernel), by decide +kernel, by decide⟩, wT4 212 rfl (by decide +kernel), wB_of 52 (by decide +kernel) (by decide +kernel)⟩
theorem cv_X6_canLookAhead : cV uX6_canLookAhead 3 := ⟨⟨wT3 220 rfl (by decide +kernel), wT1 1 rfl (by decide +kernel), by decide +kernel, by decide⟩, wT3 219 rfl (by decide +kernel), wB_of 31 (by decide +kernel) (by decide +kernel)⟩
theorem cv_X6_canWalk : cV uX6_canWalk 2 := ⟨⟨wT4 90 rfl (by decide +kernel), wT1 1 rfl (by decide +kernel), by decide +kernel, by decide⟩, wT4 89 rfl (by decide +kernel), wB_of 40 (by decide +kernel) (by decide +kernel)⟩
theorem cv_X6_canonOf : cV uX6_canonOf 1 := ⟨⟨wT3 122 rfl (by decide +kernel), wT1 1 rfl (by decide +kernel), by decide +kernel, by decide⟩, wT3 121 rfl (by decide +kernel), wB_of 23 (by decide +kernel) (by decide +kernel)⟩
theorem cv_X6_chance : cV uX6_chance 4 := ⟨⟨wT5 0 rfl (by decide +kernel), wT1 1 rfl (by decide +kernel), by decide +kernel, by decide⟩, wT4 239 rfl (by decide +kernel), wB_of 54 (by decide +kernel) (by decide +kernel)⟩
theorem cv_X6_costIf : cV uX6_costIf 3 := ⟨⟨wT4 23 rfl (by decide +kernel), wT1 1 rfl (by decide +kernel), by decide +kernel, by decide⟩, wT4 22 rfl (by decide +kernel), wB_of 35 (by decide +kernel) (by decide +kernel)⟩
theorem cv_X6_costOf : cV uX6_costOf 3 := ⟨⟨wT4 27 rfl (by decide +kernel), wT1 1 rfl (by decide +kernel), by decide +kernel, by decide⟩, wT4 26 rfl (by decide +kernel), wB_of 36 (by decide +kernel) (by decide +kernel)⟩
theorem cv_X6_couldHave : cV uX6_couldHave 2 := ⟨⟨wT4 19 rfl (by decide +kernel), wT1 1 rfl (by decide +kernel), by decide +kernel, by decide⟩, wT4 18 rfl (by decide +kernel), wB_of 34 (by decide +kernel) (by decide +kernel)⟩
theorem ct_X6_draw : cT uX6_draw 1 := ⟨⟨wT5 22 rfl (by decide +kernel), wT1 1 rfl (by decide +kernel), by decide +kernel, by decide⟩, wT5 21 rfl (by decide +kernel)⟩
theorem cv_X6_dropFits : cV uX6_dropFits 2 := ⟨⟨wT4 164 rfl (by decide +kernel), wT1 1 rfl (by decide +kernel), by decide +kernel, by decide⟩, wT4 163 rfl (by decide +kernel), wB_of 50 (by decide +kernel) (by decide +kernel)⟩
theorem cv_X6_firstDropBySeed : cV uX6_firstDropBySeed 3 := ⟨⟨wT5 34 rfl (by decide +kernel), wT1 1 rfl (by decide +kernel), by decide +kernel, by decide⟩, wT5 33 rfl (by decide +kernel), wB_of 56 (by decide +kernel) (by decide +kernel)⟩
theorem cv_X6_fittingSets : cV uX6_fittingSets 0 := ⟨⟨wT4 156 rfl (by decide +kernel), wT1 1 rfl (by decide +kernel), by decide +kernel, by decide⟩, wT4 155 rfl (by decide +kernel), wB_of 48 (by decide +kernel) (by decide +kernel)⟩
theorem cv_X6_follow : cV uX6_follow 2 := ⟨⟨wT3 175 rfl (by decide +kernel), wT1 1 rfl (by decide +kernel), by decide +kernel, by decide⟩, wT3 174 rfl (by decide +kernel), wB_of 29 (by decide +kernel) (by decide +kernel)⟩
theorem cv_X6_foretellWet : cV uX6_foretellWet 1 := ⟨⟨wT3 224 rfl (by decide +kernel), wT1 1 rfl (by decide +kernel), by decide +kernel, by decide⟩, wT3 223 rfl (by decide +kernel), wB_of 32 (by decide +kernel) (by decide +kernel)⟩
theorem ct_X6_greatestDivisor : cT uX6_greatestDivisor 2 := ⟨⟨wT5 4 rfl (by decide +kernel), wT1 1 rfl (by decide +kernel), by decide +kernel, by decide⟩, wT5 3 rfl (by decide +kernel)⟩
theorem cv_X6_hasClose : cV uX6_hasClose 0 := ⟨⟨wT3 158 rfl (by decide +kernel), wT1 1 rfl (by decide +kernel), by decide +kernel, by decide⟩, wT3 157 rfl (by decide +kernel), wB_of 26 (by decide +kernel) (by decide +kernel)⟩
theorem cv_X6_isCalm : cV uX6_isCalm 1 := ⟨⟨wT5 26 rfl (by decide +kernel), wT1 1 rfl (by decide +kernel), by decide +kernel, by decide⟩, wT5 25 rfl (by decide +kernel), wB_of 55 (by decide +kernel) (by decide +kernel)⟩
theorem cv_X6_isCanon : cV uX6_isCanon 1 := ⟨⟨wT3 130 rfl (by decide +kernel), wT1 1 rfl (by decide +kernel), by decide +kernel, by decide⟩, wT3 129 rfl (by decide +kernel), wB_of 24 (by decide +kernel) (by decide +kernel)⟩
theorem cv_X6_isCell : cV uX6_isCell 1 := ⟨⟨wT3 138 rfl (by decide +kernel), wT1 1 rfl (by decide +kernel), by decide +kernel, by decide⟩, wT3 137 rfl (by decide +kernel), wB_of 25 (by decide +kernel) (by decide +kernel)⟩
theorem cv_X6_isFace : cV uX6_isFace 1 := ⟨⟨wT3 114 rfl (by decide +kernel), wT1 1 rfl (by decide +kernel), by decide +kernel, by decide⟩, wT3 113 rfl (by decide +kernel), wB_of 22 (by decide +kernel) (by decide +kernel)⟩
theorem ct_X6_isRest : cT uX6_isRest 3 := ⟨⟨wT4 223 rfl (by decide +kernel), wT1 1 rfl (by decide +kernel), by decide +kernel, by decide⟩, wT4 222 rfl (by decide +kernel)⟩
theorem ct_X6_isSeed : cT uX6_isSeed 1 := ⟨⟨wT5 18 rfl (by decide +kernel), wT1 1 rfl (by decide +kernel), by decide +kernel, by decide⟩, wT5 17 rfl (by decide +kernel)⟩
theorem cv_X6_isWalker : cV uX6_isWalker 1 := ⟨⟨wT4 94 rfl (by decide +kernel), wT1 1 rfl (by decide +kernel), by decide +kernel, by decide⟩, wT4 93 rfl (by decide +kernel), wB_of 41 (by decide +kernel) (by decide +kernel)⟩
theorem cv_X6_keep : cV uX6_keep 0 := ⟨⟨wT5 42 rfl (by decide +kernel), wT1 1 rfl (by decide +kernel), by decide +kernel, by decide⟩, wT5 41 rfl (by decide +kernel), wB_of 57 (by decide +kernel) (by decide +kernel)⟩
theorem ct_X6_leftAtMost : cT uX6_leftAtMost 2 := ⟨⟨wT4 197 rfl (by decide +kernel), wT1 1 rfl (by decide +kernel), by decide +kernel, by decide⟩, wT4 196 rfl (by decide +kernel)⟩
theorem cv_X6_makeMatch : cV uX6_makeMatch 1 := ⟨⟨wT4 43 rfl (by decide +kernel), wT1 1 rfl (by decide +kernel), by decide +kernel, by decide⟩, wT4 42 rfl (by decide +kernel), wB_of 38 (by decide +kernel) (by decide +kernel)⟩
theorem cv_X6_numberFits : cV uX6_numberFits 3 := ⟨⟨wT3 170 rfl (by decide +kernel), wT1 1 rfl (by decide +kernel), by decide +kernel, by decide⟩, wT3 169 rfl (by decide +kernel), wB_of 28 (by decide +kernel) (by decide +kernel)⟩
theorem cv_X6_refuse : cV uX6_refuse 1 := ⟨⟨wT2 133 rfl (by decide +kernel), wT1 1 rfl (by decide +kernel), by decide +kernel, by decide⟩, wT2 132 rfl (by decide +kernel), wB_of 0 (by decide +kernel) (by decide +kernel)⟩
theorem cv_X6_setFits : cV uX6_setFits 1 := ⟨⟨wT4 160 rfl (by decide +kernel), wT1 1 rfl (by decide +kernel), by decide +kernel, by decide⟩, wT4 159 rfl (by decide +kernel), wB_of 49 (by decide +kernel) (by decide +kernel)⟩
theorem ct_X6_setsWith : cT uX6_setsWith 2 := ⟨⟨wT4 182 rfl (by decide +kernel), wT1 1 rfl (by decide +kernel), by decide +kernel, by decide⟩, wT4 181 rfl (by decide +kernel)⟩
theorem ct_X6_share : cT uX6_share 4 := ⟨⟨wT4 216 rfl (by decide +kernel), wT1 1 rfl (by decide +kernel), by decide +kernel, by decide⟩, wT4 215 rfl (by decide +kernel)⟩
theorem cv_X6_startNow : cV uX6_startNow 2 := ⟨⟨wT3 179 rfl (by decide +kernel), wT1 1 rfl (by decide +kernel), by decide +kernel, by decide⟩, wT3 178 rfl (by decide +kernel), wB_of 30 (by decide +kernel) (by decide +kernel)⟩
theorem cv_X6_stepsTogether : cV uX6_stepsTogether 1 := ⟨⟨wT4 148 rfl (by decide +kernel), wT1 1 rfl (by decide +kernel), by decide +kernel, by decide⟩, wT4 147 rfl (by decide +kernel), wB_of 47 (by decide +kernel) (by decide +kernel)⟩
theorem cv_X6_tooFewFaces : cV uX6_tooFewFaces 0 := ⟨⟨wT4 39 rfl (by decide +kernel), wT1 1 rfl (by decide +kernel), by decide +kernel, by decide⟩, wT4 38 rfl (by decide +kernel), wB_of 37 (by decide +kernel) (by decide +kernel)⟩
theorem cv_X6_wayCost : cV uX6_wayCost 2 := ⟨⟨wT4 98 rfl (by decide +kernel), wT1 1 rfl (by decide +kernel), by decide +kernel, by decide⟩, wT4 97 rfl (by decide +kernel), wB_of 42 (by decide +kernel) (by decide +kernel)⟩
theorem cv_X6_wetDaysOf : cV uX6_wetDaysOf 2 := ⟨⟨wT3 232 rfl (by decide +kernel), wT1 1 rfl (by decide +kernel), by decide +kernel, by decide⟩, wT3 231 rfl (by decide +kernel), wB_of 33 (by decide +kernel) (by decide +kernel)⟩
theorem ct_X6_within : cT uX6_within 3 := ⟨⟨wT3 4 rfl (by decide +kernel), wT1 1 rfl (by decide +kernel), by decide +kernel, by decide⟩, wT3 3 rfl (by decide +kernel)⟩
theorem cv_X7_after : cV uX7_after 3 := ⟨⟨wT6 109 rfl (by decide +kernel), wT1 8 rfl (by decide +kernel), by decide +kernel, by decide⟩, wT6 108 rfl (by decide +kernel), wB_of 67 (by decide +kernel) (by decide +kernel)⟩
theorem cv_X7_aheadWhy : cV uX7_aheadWhy 3 := ⟨⟨wT7 34 rfl (by decide +kernel), wT1 8 rfl (by decide +kernel), by decide +kernel, by decide⟩, wT7 33 rfl (by decide +kernel), wB_of 95 (by decide +kernel) (by decide +kernel)⟩
theorem cv_X7_allSteps : cV uX7_allSteps 0 := ⟨⟨wT7 206 rfl (by decide +kernel), wT1 8 rfl (by decide +kernel), by decide +kernel, by decide⟩, wT7 205 rfl (by decide +kernel), wB_of 116 (by decide +kernel) (by decide +kernel)⟩
theorem cv_X7_askOf : cV uX7_askOf 0 := ⟨⟨wT7 238 rfl (by decide +kernel), wT1 8 rfl (by decide +kernel), by decide +kernel, by decide⟩, wT7 237 rfl (by decide +kernel), wB_of 119 (by decide +kernel) (by decide +kernel)⟩
theorem cv_X7_begins : cV uX7_begins 2 := ⟨⟨wT6 136 rfl (by decide +kernel), wT1 8 rfl (by decide +kernel), by decide +kernel, by decide⟩, wT6 135 rfl (by decide +kernel), wB_of 73 (by decide +kernel) (by decide +kernel)⟩
theorem cv_X7_beside : cV uX7_beside 1 := ⟨⟨wT7 14 rfl (by decide +kernel), wT1 8 rfl (by decide +kernel), by decide +kernel, by decide⟩, wT7 13 rfl (by decide +kernel), wB_of 92 (by decide +kernel) (by decide +kernel)⟩
theorem ct_X7_breadHas : cT uX7_breadHas 2 := ⟨⟨wT8 17 rfl (by decide +kernel), wT1 8 rfl (by decide +kernel), by decide +kernel, by decide⟩, wT8 16 rfl (by decide +kernel)⟩
theorem ct_X7_canonHas : cT uX7_canonHas 3 := ⟨⟨wT8 20 rfl (by decide +kernel), wT1 8 rfl (by decide +kernel), by decide +kernel, by decide⟩, wT8 19 rfl (by decide +kernel)⟩
theorem cv_X7_canonLine : cV uX7_canonLine 0 := ⟨⟨wT6 178 rfl (by decide +kernel), wT1 8 rfl (by decide +kernel), by decide +kernel, by decide⟩, wT6 177 rfl (by decide +kernel), wB_of 80 (by decide +kernel) (by decide +kernel)⟩
theorem cv_X7_canonOf : cV uX7_canonOf 1 := ⟨⟨wT6 226 rfl (by decide +kernel), wT1 8 rfl (by decide +kernel), by decide +kernel, by decide⟩, wT6 225 rfl (by decide +kernel), wB_of 87 (by decide +kernel) (by decide +kernel)⟩
theorem cv_X7_cellHere : cV uX7_cellHere 0 := ⟨⟨wT6 144 rfl (by decide +kernel), wT1 8 rfl (by decide +kernel), by decide +kernel, by decide⟩, wT6 143 rfl (by decide +kernel), wB_of 75 (by decide +kernel) (by decide +kernel)⟩
theorem cv_X7_cells : cV uX7_cells 0 := ⟨⟨wT7 6 rfl (by decide +kernel), wT1 8 rfl (by decide +kernel), by decide +kernel, by decide⟩, wT7 5 rfl (by decide +kernel), wB_of 90 (by decide +kernel) (by decide +kernel)⟩
theorem cv_X7_closeLine : cV uX7_closeLine 0 := ⟨⟨wT6 100 rfl (by decide +kernel), wT1 8 rfl (by decide +kernel), by decide +kernel, by decide⟩, wT6 99 rfl (by decide +kernel), wB_of 65 (by decide +kernel) (by decide +kernel)⟩
theorem ct_X7_copy : cT uX7_copy 5 := ⟨⟨wT6 206 rfl (by decide +kernel), wT1 8 rfl (by decide +kernel), by decide +kernel, by decide⟩, wT6 205 rfl (by decide +kernel)⟩
theorem cv_X7_costOf : cV uX7_costOf 2 := ⟨⟨wT7 174 rfl (by decide +kernel), wT1 8 rfl (by decide +kernel), by decide +kernel, by decide⟩, wT7 173 rfl (by decide +kernel), wB_of 113 (by decide +kernel) (by decide +kernel)⟩
theorem cv_X7_dayOn : cV uX7_dayOn 2 := ⟨⟨wT7 50 rfl (by decide +kernel), wT1 8 rfl (by decide +kernel), by decide +kernel, by decide⟩, wT7 49 rfl (by decide +kernel), wB_of 99 (by decide +kernel) (by decide +kernel)⟩
theorem cv_X7_daysOn : cV uX7_daysOn 1 := ⟨⟨wT7 42 rfl (by decide +kernel), wT1 8 rfl (by decide +kernel), by decide +kernel, by decide⟩, wT7 41 rfl (by decide +kernel), wB_of 97 (by decide +kernel) (by decide +kernel)⟩
theorem cv_X7_drawWhy : cV uX7_drawWhy 3 := ⟨⟨wT8 55 rfl (by decide +kernel), wT1 8 rfl (by decide +kernel), by decide +kernel, by decide⟩, wT8 54 rfl (by decide +kernel), wB_of 123 (by decide +kernel) (by decide +kernel)⟩
theorem cv_X7_droppedLine : cV uX7_droppedLine 0 := ⟨⟨wT6 202 rfl (by decide +kernel), wT1 8 rfl (by decide +kernel), by decide +kernel, by decide⟩, wT6 201 rfl (by decide +kernel), wB_of 85 (by decide +kernel) (by decide +kernel)⟩
theorem cv_X7_faceLine : cV uX7_faceLine 0 := ⟨⟨wT6 152 rfl (by decide +kernel), wT1 8 rfl (by decide +kernel), by decide +kernel, by decide⟩, wT6 151 rfl (by decide +kernel), wB_of 76 (by decide +kernel) (by decide +kernel)⟩
theorem cv_X7_faceOver : cV uX7_faceOver 1 := ⟨⟨wT7 10 rfl (by decide +kernel), wT1 8 rfl (by decide +kernel), by decide +kernel, by decide⟩, wT7 9 rfl (by decide +kernel), wB_of 91 (by decide +kernel) (by decide +kernel)⟩
theorem cv_X7_fallenOn : cV uX7_fallenOn 1 := ⟨⟨wT7 102 rfl (by decide +kernel), wT1 8 rfl (by decide +kernel), by decide +kernel, by decide⟩, wT7 101 rfl (by decide +kernel), wB_of 102 (by decide +kernel) (by decide +kernel)⟩
theorem cv_X7_find : cV uX7_find 0 := ⟨⟨wT6 168 rfl (by decide +kernel), wT1 8 rfl (by decide +kernel), by decide +kernel, by decide⟩, wT6 167 rfl (by decide +kernel), wB_of 79 (by decide +kernel) (by decide +kernel)⟩
theorem cv_X7_goByPlan : cV uX7_goByPlan 1 := ⟨⟨wT7 122 rfl (by decide +kernel), wT1 8 rfl (by decide +kernel), by decide +kernel, by decide⟩, wT7 121 rfl (by decide +kernel), wB_of 106 (by decide +kernel) (by decide +kernel)⟩
theorem cv_X7_good : cV uX7_good 0 := ⟨⟨wT6 64 rfl (by decide +kernel), wT1 8 rfl (by decide +kernel), by decide +kernel, by decide⟩, wT6 63 rfl (by decide +kernel), wB_of 59 (by decide +kernel) (by decide +kernel)⟩
theorem ct_X7_hasBit : cT uX7_hasBit 2 := ⟨⟨wT6 147 rfl (by decide +kernel), wT1 8 rfl (by decide +kernel), by decide +kernel, by decide⟩, wT6 146 rfl (by decide +kernel)⟩
theorem ct_X7_in : cT uX7_in 3 := ⟨⟨wT6 67 rfl (by decide +kernel), wT1 8 rfl (by decide +kernel), by decide +kernel, by decide⟩, wT6 66 rfl (by decide +kernel)⟩
theorem cv_X7_isBest : cV uX7_isBest 1 := ⟨⟨wT7 137 rfl (by decide +kernel), wT1 8 rfl (by decide +kernel), by decide +kernel, by decide⟩, wT7 136 rfl (by decide +kernel), wB_of 108 (by decide +kernel) (by decide +kernel)⟩
theorem cv_X7_isCanon : cV uX7_isCanon 1 := ⟨⟨wT6 234 rfl (by decide +kernel), wT1 8 rfl (by decide +kernel), by decide +kernel, by decide⟩, wT6 233 rfl (by decide +kernel), wB_of 88 (by decide +kernel) (by decide +kernel)⟩
theorem cv_X7_isCell : cV uX7_isCell 1 := ⟨⟨wT7 2 rfl (by decide +kernel), wT1 8 rfl (by decide +kernel), by decide +kernel, by decide⟩, wT7 1 rfl (by decide +kernel), wB_of 89 (by decide +kernel) (by decide +kernel)⟩
theorem ct_X7_isDigit : cT uX7_isDigit 1 := ⟨⟨wT6 85 rfl (by decide +kernel), wT1 8 rfl (by decide +kernel), by decide +kernel, by decide⟩, wT6 84 rfl (by decide +kernel)⟩
theorem cv_X7_isFace : cV uX7_isFace 1 := ⟨⟨wT6 222 rfl (by decide +kernel), wT1 8 rfl (by decide +kernel), by decide +kernel, by decide⟩, wT6 221 rfl (by decide +kernel), wB_of 86 (by decide +kernel) (by decide +kernel)⟩
theorem cv_X7_isNot : cV uX7_isNot 1 := ⟨⟨wT8 81 rfl (by decide +kernel), wT1 8 rfl (by decide +kernel), by decide +kernel, by decide⟩, wT8 80 rfl (by decide +kernel), wB_of 125 (by decide +kernel) (by decide +kernel)⟩
theorem ct_X7_isSmall : cT uX7_isSmall 1 := ⟨⟨wT6 82 rfl (by decide +kernel), wT1 8 rfl (by decide +kernel), by decide +kernel, by decide⟩, wT6 81 rfl (by decide +kernel)⟩
theorem cv_X7_isWalker : cV uX7_isWalker 1 := ⟨⟨wT7 182 rfl (by decide +kernel), wT1 8 rfl (by decide +kernel), by decide +kernel, by decide⟩, wT7 181 rfl (by decide +kernel), wB_of 114 (by decide +kernel) (by decide +kernel)⟩
theorem cv_X7_isWall : cV uX7_isWall 1 := ⟨⟨wT7 22 rfl (by decide +kernel), wT1 8 rfl (by decide +kernel), by decide +kernel, by decide⟩, wT7 21 rfl (by decide +kernel), wB_of 94 (by decide +kernel) (by decide +kernel)⟩
theorem cv_X7_isWord : cV uX7_isWord 1 := ⟨⟨wT6 94 rfl (by decide +kernel), wT1 8 rfl (by decide +kernel), by decide +kernel, by decide⟩, wT6 93 rfl (by decide +kernel), wB_of 64 (by decide +kernel) (by decide +kernel)⟩
theorem cv_X7_layCosts : cV uX7_layCosts 2 := ⟨⟨wT7 169 rfl (by decide +kernel), wT1 8 rfl (by decide +kernel), by decide +kernel, by decide⟩, wT7 168 rfl (by decide +kernel), wB_of 112 (by decide +kernel) (by decide +kernel)⟩
theorem cv_X7_leavesOf : cV uX7_leavesOf 1 := ⟨⟨wT8 2 rfl (by decide +kernel), wT1 8 rfl (by decide +kernel), by decide +kernel, by decide⟩, wT8 1 rfl (by decide +kernel), wB_of 120 (by decide +kernel) (by decide +kernel)⟩
theorem cv_X7_letsGo : cV uX7_letsGo 2 := ⟨⟨wT7 54 rfl (by decide +kernel), wT1 8 rfl (by decide +kernel), by decide +kernel, by decide⟩, wT7 53 rfl (by decide +kernel), wB_of 100 (by decide +kernel) (by decide +kernel)⟩
theorem cv_X7_letsOf : cV uX7_letsOf 1 := ⟨⟨wT7 129 rfl (by decide +kernel), wT1 8 rfl (by decide +kernel), by decide +kernel, by decide⟩, wT7 128 rfl (by decide +kernel), wB_of 107 (by decide +kernel) (by decide +kernel)⟩
theorem ct_X7_lowest : cT uX7_lowest 3 := ⟨⟨wT8 43 rfl (by decide +kernel), wT1 8 rfl (by decide +kernel), by decide +kernel, by decide⟩, wT8 42 rfl (by decide +kernel)⟩
theorem cv_X7_mayHave : cV uX7_mayHave 2 := ⟨⟨wT7 114 rfl (by decide +kernel), wT1 8 rfl (by decide +kernel), by decide +kernel, by decide⟩, wT7 113 rfl (by decide +kernel), wB_of 104 (by decide +kernel) (by decide +kernel)⟩
theorem cv_X7_must : cV uX7_must 1 := ⟨⟨wT6 113 rfl (by decide +kernel), wT1 8 rfl (by decide +kernel), by decide +kernel, by decide⟩, wT6 112 rfl (by decide +kernel), wB_of 68 (by decide +kernel) (by decide +kernel)⟩
theorem cv_X7_mustName : cV uX7_mustName 0 := ⟨⟨wT6 160 rfl (by decide +kernel), wT1 8 rfl (by decide +kernel), by decide +kernel, by decide⟩, wT6 159 rfl (by decide +kernel), wB_of 78 (by decide +kernel) (by decide +kernel)⟩
theorem cv_X7_named : cV uX7_named 2 := ⟨⟨wT6 182 rfl (by decide +kernel), wT1 8 rfl (by decide +kernel), by decide +kernel, by decide⟩, wT6 181 rfl (by decide +kernel), wB_of 81 (by decide +kernel) (by decide +kernel)⟩
theorem cv_X7_newName : cV uX7_newName 1 := ⟨⟨wT6 156 rfl (by decide +kernel), wT1 8 rfl (by decide +kernel), by decide +kernel, by decide⟩, wT6 155 rfl (by decide +kernel), wB_of 77 (by decide +kernel) (by decide +kernel)⟩
theorem cv_X7_next : cV uX7_next 0 := ⟨⟨wT6 75 rfl (by decide +kernel), wT1 8 rfl (by decide +kernel), by decide +kernel, by decide⟩, wT6 74 rfl (by decide +kernel), wB_of 61 (by decide +kernel) (by decide +kernel)⟩
theorem cv_X7_no : cV uX7_no 1 := ⟨⟨wT6 71 rfl (by decide +kernel), wT1 8 rfl (by decide +kernel), by decide +kernel, by decide⟩, wT6 70 rfl (by decide +kernel), wB_of 60 (by decide +kernel) (by decide +kernel)⟩
theorem cv_X7_note : cV uX7_note 0 := ⟨⟨wT8 69 rfl (by decide +kernel), wT1 8 rfl (by decide +kernel), by decide +kernel, by decide⟩, wT8 68 rfl (by decide +kernel), wB_of 124 (by decide +kernel) (by decide +kernel)⟩
theorem cv_X7_number : cV uX7_number 2 := ⟨⟨wT6 121 rfl (by decide +kernel), wT1 8 rfl (by decide +kernel), by decide +kernel, by decide⟩, wT6 120 rfl (by decide +kernel), wB_of 70 (by decide +kernel) (by decide +kernel)⟩
theorem cv_X7_numberHere : cV uX7_numberHere 2 := ⟨⟨wT6 125 rfl (by decide +kernel), wT1 8 rfl (by decide +kernel), by decide +kernel, by decide⟩, wT6 124 rfl (by decide +kernel), wB_of 71 (by decide +kernel) (by decide +kernel)⟩
theorem ct_X7_ones : cT uX7_ones 1 := ⟨⟨wT7 125 rfl (by decide +kernel), wT1 8 rfl (by decide +kernel), by decide +kernel, by decide⟩, wT7 124 rfl (by decide +kernel)⟩
theorem cv_X7_openCell : cV uX7_openCell 0 := ⟨⟨wT6 193 rfl (by decide +kernel), wT1 8 rfl (by decide +kernel), by decide +kernel, by decide⟩, wT6 192 rfl (by decide +kernel), wB_of 83 (by decide +kernel) (by decide +kernel)⟩
theorem cv_X7_pass : cV uX7_pass 0 := ⟨⟨wT6 129 rfl (by decide +kernel), wT1 8 rfl (by decide +kernel), by decide +kernel, by decide⟩, wT6 128 rfl (by decide +kernel), wB_of 72 (by decide +kernel) (by decide +kernel)⟩
theorem cv_X7_planAsNow : cV uX7_planAsNow 0 := ⟨⟨wT7 118 rfl (by decide +kernel), wT1 8 rfl (by decide +kernel), by decide +kernel, by decide⟩, wT7 117 rfl (by decide +kernel), wB_of 105 (by decide +kernel) (by decide +kernel)⟩
theorem cv_X7_planWhy : cV uX7_planWhy 2 := ⟨⟨wT7 110 rfl (by decide +kernel), wT1 8 rfl (by decide +kernel), by decide +kernel, by decide⟩, wT7 109 rfl (by decide +kernel), wB_of 103 (by decide +kernel) (by decide +kernel)⟩
theorem cv_X7_readLine : cV uX7_readLine 0 := ⟨⟨wT6 89 rfl (by decide +kernel), wT1 8 rfl (by decide +kernel), by decide +kernel, by decide⟩, wT6 88 rfl (by decide +kernel), wB_of 63 (by decide +kernel) (by decide +kernel)⟩
theorem cv_X7_see : cV uX7_see 1 := ⟨⟨wT6 79 rfl (by decide +kernel), wT1 8 rfl (by decide +kernel), by decide +kernel, by decide⟩, wT6 78 rfl (by decide +kernel), wB_of 62 (by decide +kernel) (by decide +kernel)⟩
theorem cv_X7_seekMatch : cV uX7_seekMatch 1 := ⟨⟨wT7 145 rfl (by decide +kernel), wT1 8 rfl (by decide +kernel), by decide +kernel, by decide⟩, wT7 144 rfl (by decide +kernel), wB_of 109 (by decide +kernel) (by decide +kernel)⟩
theorem cv_X7_seekRests : cV uX7_seekRests 1 := ⟨⟨wT8 28 rfl (by decide +kernel), wT1 8 rfl (by decide +kernel), by decide +kernel, by decide⟩, wT8 27 rfl (by decide +kernel), wB_of 121 (by decide +kernel) (by decide +kernel)⟩
theorem cv_X7_seekSets : cV uX7_seekSets 1 := ⟨⟨wT7 214 rfl (by decide +kernel), wT1 8 rfl (by decide +kernel), by decide +kernel, by decide⟩, wT7 213 rfl (by decide +kernel), wB_of 117 (by decide +kernel) (by decide +kernel)⟩
theorem cv_X7_stepFrom : cV uX7_stepFrom 2 := ⟨⟨wT7 18 rfl (by decide +kernel), wT1 8 rfl (by decide +kernel), by decide +kernel, by decide⟩, wT7 17 rfl (by decide +kernel), wB_of 93 (by decide +kernel) (by decide +kernel)⟩
theorem cv_X7_stepsOf : cV uX7_stepsOf 2 := ⟨⟨wT7 165 rfl (by decide +kernel), wT1 8 rfl (by decide +kernel), by decide +kernel, by decide⟩, wT7 164 rfl (by decide +kernel), wB_of 111 (by decide +kernel) (by decide +kernel)⟩
theorem cv_X7_takesWord : cV uX7_takesWord 1 := ⟨⟨wT6 117 rfl (by decide +kernel), wT1 8 rfl (by decide +kernel), by decide +kernel, by decide⟩, wT6 116 rfl (by decide +kernel), wB_of 69 (by decide +kernel) (by decide +kernel)⟩
theorem cv_X7_tryCalms : cV uX7_tryCalms 2 := ⟨⟨wT8 40 rfl (by decide +kernel), wT1 8 rfl (by decide +kernel), by decide +kernel, by decide⟩, wT8 39 rfl (by decide +kernel), wB_of 122 (by decide +kernel) (by decide +kernel)⟩
theorem cv_X7_tryPlans : cV uX7_tryPlans 3 := ⟨⟨wT7 149 rfl (by decide +kernel), wT1 8 rfl (by decide +kernel), by decide +kernel, by decide⟩, wT7 148 rfl (by decide +kernel), wB_of 110 (by decide +kernel) (by decide +kernel)⟩
theorem cv_X7_unsureLine : cV uX7_unsureLine 0 := ⟨⟨wT6 198 rfl (by decide +kernel), wT1 8 rfl (by decide +kernel), by decide +kernel, by decide⟩, wT6 197 rfl (by decide +kernel), wB_of 84 (by decide +kernel) (by decide +kernel)⟩
theorem cv_X7_vexedBy : cV uX7_vexedBy 1 := ⟨⟨wT7 46 rfl (by decide +kernel), wT1 8 rfl (by decide +kernel), by decide +kernel, by decide⟩, wT7 45 rfl (by decide +kernel), wB_of 98 (by decide +kernel) (by decide +kernel)⟩
theorem cv_X7_walkerLine : cV uX7_walkerLine 0 := ⟨⟨wT6 188 rfl (by decide +kernel), wT1 8 rfl (by decide +kernel), by decide +kernel, by decide⟩, wT6 187 rfl (by decide +kernel), wB_of 82 (by decide +kernel) (by decide +kernel)⟩
theorem cv_X7_wallLine : cV uX7_wallLine 0 := ⟨⟨wT6 140 rfl (by decide +kernel), wT1 8 rfl (by decide +kernel), by decide +kernel, by decide⟩, wT6 139 rfl (by decide +kernel), wB_of 74 (by decide +kernel) (by decide +kernel)⟩
theorem cv_X7_wayOf : cV uX7_wayOf 2 := ⟨⟨wT7 186 rfl (by decide +kernel), wT1 8 rfl (by decide +kernel), by decide +kernel, by decide⟩, wT7 185 rfl (by decide +kernel), wB_of 115 (by decide +kernel) (by decide +kernel)⟩
theorem cv_X7_wetOften : cV uX7_wetOften 2 := ⟨⟨wT7 82 rfl (by decide +kernel), wT1 8 rfl (by decide +kernel), by decide +kernel, by decide⟩, wT7 81 rfl (by decide +kernel), wB_of 101 (by decide +kernel) (by decide +kernel)⟩
theorem cv_X7_why : cV uX7_why 2 := ⟨⟨wT7 38 rfl (by decide +kernel), wT1 8 rfl (by decide +kernel), by decide +kernel, by decide⟩, wT7 37 rfl (by decide +kernel), wB_of 96 (by decide +kernel) (by decide +kernel)⟩
theorem cv_X7_wrong : cV uX7_wrong 2 := ⟨⟨wT6 104 rfl (by decide +kernel), wT1 8 rfl (by decide +kernel), by decide +kernel, by decide⟩, wT6 103 rfl (by decide +kernel), wB_of 66 (by decide +kernel) (by decide +kernel)⟩
theorem cv_X7_wrongBy : cV uX7_wrongBy 1 := ⟨⟨wT7 218 rfl (by decide +kernel), wT1 8 rfl (by decide +kernel), by decide +kernel, by decide⟩, wT7 217 rfl (by decide +kernel), wB_of 118 (by decide +kernel) (by decide +kernel)⟩
end
section
/-! THE SHADOW: the pool's objects have names 1, 2, .. (0 is null, 4999 the script, 5000 + i the i-th String constant); a memory says what each name is (kind, length) and holds. Methods are walked over the memory; the rows below tie each step to the machine once and for all. -/
noncomputable abbrev Ls : Type := List (Nat × Value)
/-- how many names; cells and slots used; (kind, length) of a name; ints, longs, references of a name by place -/
noncomputable abbrev Mm : Type := (Nat × Nat × Nat × (Nat → Nat × Nat)) × (Nat → Nat → Int32) × (Nat → Nat → Int64) × (Nat → Nat → Nat)
noncomputable def mN (M : Mm) : Nat := M.1.1
noncomputable def mC (M : Mm) : Nat := M.1.2.1
noncomputable def mS (M : Mm) : Nat := M.1.2.2.1
noncomputable def mK (M : Mm) (a : Nat) : Nat × Nat := M.1.2.2.2 a
noncomputable def mI (M : Mm) (a i : Nat) : Int32 := M.2.1 a i
noncomputable def mL (M : Mm) (a i : Nat) : Int64 := M.2.2.1 a i
noncomputable def mR (M : Mm) (a i : Nat) : Nat := M.2.2.2 a i
noncomputable def wI (M : Mm) (a i : Nat) (v : Int32) : Mm := (M.1, fun b j => if b = a ∧ j = i then v else M.2.1 b j, M.2.2)
noncomputable def wL (M : Mm) (a i : Nat) (v : Int64) : Mm := (M.1, M.2.1, fun b j => if b = a ∧ j = i then v else M.2.2.1 b j, M.2.2.2)
noncomputable def wR (M : Mm) (a i : Nat) (v : Nat) : Mm := (M.1, M.2.1, M.2.2.1, fun b j => if b = a ∧ j = i then v else M.2.2.2 b j)
noncomputable def wF (M : Mm) (a : Nat) (f : Nat → Int32) : Mm := (M.1, fun b j => if b = a then f j else M.2.1 b j, M.2.2)
/-- a new name, of a kind and length, n slots more -/
noncomputable def wA (M : Mm) (k : Nat × Nat) (n : Nat) : Mm := ((mN M + 1, mC M + 1, mS M + n, fun b => if b = mN M + 1 then k else mK M b), (fun b j => if b = mN M + 1 then 0 else M.2.1 b j), (fun b j => if b = mN M + 1 then 0 else M.2.2.1 b j), (fun b j => if b = mN M + 1 then 0 else M.2.2.2 b j))
/-- a value as the machine has it -/
noncomputable def iv (ad : Nat → Nat) (v : Value) : Value := match v with
  | .ref 0 => .null
  | .ref (k + 1) => .ref (ad (k + 1))
  | w => w
theorem iv_ref {ad : Nat → Nat} {a : Nat} (h : 0 < a) : iv ad (.ref a) = .ref (ad a) := by
  cases a with
  | zero => exact absurd h (Nat.lt_irrefl 0)
  | succ k => rfl
theorem iv_cat (ad : Nat → Nat) (v : Value) : (iv ad v).category = v.category := by
  cases v with
  | ref a => cases a <;> rfl
  | _ => rfl
/-- the kinds of a class's fields: 0 int, 1 long, 2 a reference -/
noncomputable def tf (c : Nat) : List Nat := match c with
  | 0 => [0, 0, 0, 0, 0, 0, 0, 0]
  | 1 => [2, 2, 2, 2, 0, 0, 0, 0, 0]
  | 2 => [2, 2, 2, 2, 0, 0]
  | 3 => [0, 0, 0, 0, 0, 2, 2, 2, 2, 2, 0, 2, 2, 2, 0, 2, 2, 0, 2, 2]
  | 4 => [2, 0, 0, 2, 0, 0, 0, 0, 1, 2, 2, 2, 0, 0, 0]
  | 5 => [2, 0]
  | 6 => [2, 2, 2, 2, 2, 0, 0, 2, 0, 2, 2, 2, 2, 0]
  | 7 => [0, 2, 0, 0, 0, 0, 0, 0, 0, 0, 0, 0, 2, 0, 0, 2, 2, 2, 2, 2, 2, 2, 0, 0, 2, 2, 0, 2, 2, 0, 0, 0, 0, 2, 2, 2, 0, 0, 0, 0, 1, 1, 1, 0]
  | _ => []
noncomputable def sv (M : Mm) (a k t : Nat) : Value := match t with
  | 0 => .int (mI M a k)
  | 1 => .long (mL M a k)
  | _ => .ref (mR M a k)
noncomputable def eo (ad : Nat → Nat) (M : Mm) (a : Nat) (ts : List Nat) : List Value := (List.range ts.length).map (fun k => iv ad (sv M a k (ts.getD k 0)))
noncomputable def er (ad : Nat → Nat) (M : Mm) (a : Nat) : Nat → Option Nat := fun i => match mR M a i with
  | 0 => none
  | n + 1 => some (ad (n + 1))
theorem er_rf (ad : Nat → Nat) (M : Mm) (a i : Nat) : va_rf (er ad M a i) = iv ad (.ref (mR M a i)) := by
  unfold er
  cases mR M a i <;> rfl
/-- the cell of a name -/
noncomputable def en (g : Nat → ClassId) (ad : Nat → Nat) (M : Mm) (a : Nat) : va_E :=
  if (mK M a).1 < 8 then .inr ((mK M a).1, eo ad M a (tf (mK M a).1))
  else if (mK M a).1 = 10 then .inl (g 10, (mK M a).2, .inr (.inl (mL M a)))
  else if (mK M a).1 < 10 then .inl (g (mK M a).1, (mK M a).2, .inl (mI M a))
  else .inl (g (mK M a).1, (mK M a).2, .inr (.inr (.inr (.inr (er ad M a)))))
noncomputable def wl (g : Nat → ClassId) (ad : Nat → Nat) (M : Mm) : va_W := (List.range (mN M)).map (fun i => (ad (i + 1), en g ad M (i + 1)))
theorem wl_at {g : Nat → ClassId} {ad : Nat → Nat} {M : Mm} {a : Nat} (h0 : 0 < a) (h1 : a ≤ mN M) : (wl g ad M)[a - 1]? = some (ad a, en g ad M a) := by
  unfold wl
  rw [List.getElem?_map, List.getElem?_range (by omega)]
  simp [show a - 1 + 1 = a by omega]
theorem wl_set {g : Nat → ClassId} {ad : Nat → Nat} {M M' : Mm} {a : Nat} (h0 : 0 < a) (h1 : a ≤ mN M) (hn : mN M' = mN M) (ho : ∀ b, b ≠ a → en g ad M' b = en g ad M b) : (wl g ad M).set (a - 1) (ad a, en g ad M' a) = wl g ad M' := by
  apply List.ext_getElem?
  intro i
  unfold wl
  rw [List.getElem?_set, hn]
  by_cases hi : a - 1 = i
  · subst hi
    rw [if_pos rfl, if_pos (by simp; omega), List.getElem?_map, List.getElem?_range (by omega)]
    simp [show a - 1 + 1 = a by omega]
  · rw [if_neg hi, List.getElem?_map, List.getElem?_map]
    by_cases hl : i < mN M
    · rw [List.getElem?_range hl]
      simp [ho (i + 1) (by omega)]
    · rw [List.getElem?_eq_none (by simp; omega)]
      rfl
theorem eo_at {ad : Nat → Nat} {M : Mm} {a : Nat} {ts : List Nat} {k : Nat} (h : k < ts.length) : (eo ad M a ts)[k]? = some (iv ad (sv M a k (ts.getD k 0))) := by
  unfold eo
  rw [List.getElem?_map, List.getElem?_range h]
  rfl
theorem eo_set {ad : Nat → Nat} {M M' : Mm} {a : Nat} {ts : List Nat} {k : Nat} (h : k < ts.length) (ho : ∀ j, j ≠ k → sv M' a j (ts.getD j 0) = sv M a j (ts.getD j 0)) : (eo ad M a ts).set k (iv ad (sv M' a k (ts.getD k 0))) = eo ad M' a ts := by
  apply List.ext_getElem?
  intro i
  unfold eo
  rw [List.getElem?_set]
  by_cases hi : k = i
  · subst hi
    rw [if_pos rfl, if_pos (by simp; omega), List.getElem?_map, List.getElem?_range h]
    rfl
  · rw [if_neg hi, List.getElem?_map, List.getElem?_map]
    by_cases hl : i < ts.length
    · rw [List.getElem?_range hl]
      simp only [Option.map_some]
      rw [ho i (fun e => hi e.symm)]
    · rw [List.getElem?_eq_none (by simp; omega)]
      rfl
/-- the array kinds' types -/
noncomputable def tz (g : Nat → ClassId) : List (ClassId × FieldType) := [(g 8, .byte), (g 9, .int), (g 10, .long), (g 11, .object RX2), (g 12, .array .int)]
/-- the room of a method at depth d -/
noncomputable def rz (d mc ms : Nat) : Room := { frames := d, cells := mc, slots := ms, locals := 64 * d }
/-- links to a nest mate's private members -/
noncomputable def wN : List (String × Nat × MethodName) := [(RX6, 9, yX4_init), (RX6, 18, yX3_init), (RX6, 28, yX2_init), (RX6, 52, yX0_init), (RX6, 59, yX5_init), (RX6, 66, yX1_init), (RX4, 256, yX6_within)]
/-- the String constants: texts (those of the reader, those of the reference), places in the pools -/
noncomputable def tS (i : Nat) : String := ["close", "wall", "face", "canon", "walker", "unsure", "dropped", "wide", "deep", "calm", "holds", "wears", "at", "bat", "lion", "pig", "vexed", "every", "from", "to", "day"].getD (i % 21) ""
noncomputable def tB (i : Nat) : List Int32 := (tS i).toList.map (fun c => Int32.ofNat c.toNat)
noncomputable def tQ : List (String × Nat × String × Nat) := [(RX4, 104, "close", 0), (RX4, 110, "wall", 1), (RX4, 112, "face", 2), (RX4, 114, "canon", 3), (RX4, 116, "walker", 4), (RX4, 118, "unsure", 5), (RX4, 120, "dropped", 6), (RX4, 149, "wide", 7), (RX4, 154, "deep", 8), (RX4, 156, "calm", 9), (RX4, 190, "holds", 10), (RX4, 194, "wears", 11), (RX4, 198, "at", 12), (RX4, 206, "bat", 13), (RX4, 208, "lion", 14), (RX4, 210, "pig", 15), (RX4, 224, "vexed", 16), (RX4, 228, "every", 17), (RX4, 232, "from", 18), (RX4, 236, "to", 19), (RX4, 254, "day", 20), (RX7, 131, "close", 21), (RX7, 133, "wall", 22), (RX7, 135, "face", 23), (RX7, 137, "canon", 24), (RX7, 139, "walker", 25), (RX7, 141, "unsure", 26), (RX7, 143, "dropped", 27), (RX7, 216, "wide", 28), (RX7, 222, "deep", 29), (RX7, 224, "calm", 30), (RX7, 243, "holds", 31), (RX7, 245, "wears", 32), (RX7, 247, "at", 33), (RX7, 237, "bat", 34), (RX7, 239, "lion", 35), (RX7, 241, "pig", 36), (RX7, 251, "vexed", 37), (RX7, 252, "every", 38), (RX7, 254, "from", 39), (RX7, 259, "to", 40), (RX7, 261, "day", 41)]
/-- what never changes: the classes, the nest mates' links, the String constants, the script -/
noncomputable def ks (ad : Nat → Nat) (A : Nat → Prop) (U : State) (H : Heap) : Prop := ∀ i : Nat, i < 42 → va_O "java/lang/String" (ad (5000 + i)) A U H ∧ va_OF "java/lang/String" "coder" "B" (.int 0) (ad (5000 + i)) A U H ∧ va_OF "java/lang/String" "value" "[B" (.ref (ad (5100 + i))) (ad (5000 + i)) A U H ∧ va_T .byte (ad (5100 + i)) (tB i).length (fun j => .int ((tB i).getD j 0)) A U H
noncomputable def kx (ad : Nat → Nat) (X : Nat × (Nat → Int32)) (A : Nat → Prop) (U : State) (H : Heap) : Prop := va_X (ad 4999) X.1 X.2 U H ∧ ad 4999 < H.size ∧ ¬ A (ad 4999)
/-- a static field that holds a reference or null, with all that is said of its place -/
noncomputable def sq (C n d : String) (A : Nat → Prop) (U : State) (H : Heap) : Prop := ∃ (cf : ClassId) (kf : Class) (fi : Nat) (f : Field) (a : Nat) (cell : Cell) (v : Value), U.vm.findClass C = some cf ∧ U.fieldFound? C n d = some (cf, kf, fi, f) ∧ f.isStatic = true ∧ kf.statics = some a ∧ kf.staticTypes[f.slot]? = some f.type ∧ H[a]? = some cell ∧ cell.vm.isStatics = true ∧ cell.cls = cf ∧ f.slot < cell.slots.size ∧ cell.slots[f.slot]? = some v ∧ (v = .null ∨ ∃ t, v = .ref t) ∧ ¬ A a
theorem sq.moved {C n d : String} {A : Nat → Prop} {u U : State} {H : Heap} (hvm : u.vm.Alike U.vm) (h : sq C n d A u H) : sq C n d A U H := by
  obtain ⟨cf, kf, fi, f, a, cell, v, h0, h1, h2, h3, h4, h5⟩ := h
  obtain ⟨k', hi', he⟩ := State.fieldFound?_setVm hvm h1
  exact ⟨cf, k', fi, f, a, cell, v, by rw [hvm.findClass]; exact h0, hi', h2, by rw [he]; exact h3, by rw [he]; exact h4, h5⟩
theorem sq.kept {C n d : String} {A : Nat → Prop} {U : State} {H H1 : Heap} (h : sq C n d A U H) (hq : ∀ a : Nat, a < H.size → ¬ A a → H1[a]? = H[a]?) : sq C n d A U H1 := by
  obtain ⟨cf, kf, fi, f, a, cell, v, h0, h1, h2, h3, h4, h5, h6, h7, h8, h9, h10, h11⟩ := h
  exact ⟨cf, kf, fi, f, a, cell, v, h0, h1, h2, h3, h4, by rw [hq a (Array.getElem?_eq_some_iff.mp h5).1 h11]; exact h5, h6, h7, h8, h9, h10, h11⟩
theorem sq.of {args : Array Value} {s : State} {C n d : String} {A : Nat → Prop} (hl : (Cond.laysStatic C n d).before args s = true) (hr : (Cond.isRef (.static C n d)).before args s = true) (hA : ∀ a : Nat, a < s.heap.size → ¬ A a) : sq C n d A s s.heap := by
  obtain ⟨c, k, i, f, a, cell, hc, hi, hst, ha, hcell, hs, hcls, hlt, hty⟩ := Cond.laysStatic_spec hl
  cases hv : (Term.static C n d).eval args s none [] s with
  | none => simp [Cond.before, Cond.holds, Cond.value, hv] at hr
  | some w =>
    obtain ⟨hst', a', cell', ha', hcell', -, hslot⟩ := Term.static_spec hi hv
    cases ha.symm.trans ha'
    cases hcell.symm.trans hcell'
    simp only [Cond.before, Cond.holds, Cond.value, hv] at hr
    refine ⟨c, k, i, f, a, cell, w, hc, hi, hst, ha, hty, hcell, hs, hcls, hlt, hslot, ?_, hA a (Array.getElem?_eq_some_iff.mp hcell).1⟩
    cases w with
    | null => exact Or.inl rfl
    | ref t => exact Or.inr ⟨t, rfl⟩
    | _ => simp at hr
theorem sq.lays {args : Array Value} {s : State} {C n d : String} {A : Nat → Prop} (h : sq C n d A s s.heap) : (Cond.laysStatic C n d).before args s = true := by
  obtain ⟨cf, kf, fi, f, a, cell, v, h0, h1, h2, h3, h4, h5, h6, h7, h8, h9, h10, h11⟩ := h
  simp [Cond.before, Cond.holds, Cond.value, h0, h1, h2, h3, h4, h5, h6, h7, h8]
theorem sq.isRef {args : Array Value} {s : State} {C n d : String} {A : Nat → Prop} (h : sq C n d A s s.heap) : (Cond.isRef (.static C n d)).before args s = true := by
  obtain ⟨cf, kf, fi, f, a, cell, v, h0, h1, h2, h3, h4, h5, h6, h7, h8, h9, h10, h11⟩ := h
  have hv : (Term.static C n d).eval args s none [] s = some v := by simp [Term.eval, State.fieldNamed?, h1, h2, h3, h5, h6, h9]
  rcases h10 with rfl | ⟨t, rfl⟩ <;> simp [Cond.before, Cond.holds, Cond.value, hv]
/-- the constructors of the throwables that 'led' makes -/
noncomputable def wD : List MethodName := [⟨"java/lang/RuntimeException", "<init>", "()V"⟩, ⟨"java/lang/Exception", "<init>", "()V"⟩, ⟨"java/lang/Throwable", "<init>", "()V"⟩]
noncomputable def NSE : String := "java/util/NoSuchElementException"
/-- arrays of Moments, arrays of arrays; throwables -/
noncomputable def ao (g : Nat → ClassId) (A : Nat → Prop) (U : State) (H : Heap) : Prop := va_AO RX2 U ∧ (∃ k, U.vm.classes[g 12]? = some k ∧ k.kind = .array (g 9) (.array .int)) ∧ (sq "java/lang/Throwable" "UNASSIGNED_STACK" "[Ljava/lang/StackTraceElement;" A U H ∧ sq "java/lang/Throwable" "SUPPRESSED_SENTINEL" "Ljava/util/List;" A U H) ∧ va_Nw (.castable NSE NSE) U ∧ ∀ x ∈ wD, va_Nw (.declares x) U
theorem ao.kept {g : Nat → ClassId} {A : Nat → Prop} {U : State} {H H1 : Heap} (h : ao g A U H) (hq : ∀ a : Nat, a < H.size → ¬ A a → H1[a]? = H[a]?) : ao g A U H1 :=
  ⟨h.1, h.2.1, ⟨h.2.2.1.1.kept hq, h.2.2.1.2.kept hq⟩, h.2.2.2⟩
theorem ao.warm {g : Nat → ClassId} {A : Nat → Prop} {u U : State} {H : Heap} (hW : u.WarmedH U.vm) (h : ao g A u H) : ao g A U H := by
  obtain ⟨h1, ⟨k, hk, hk2⟩, ⟨h3, h4⟩, h5, h6⟩ := h
  obtain ⟨k', hk', he⟩ := hW.alike.2.2 _ _ hk
  exact ⟨h1.moved hW.alike, ⟨k', hk', by rw [he]; exact hk2⟩, ⟨h3.moved hW.alike, h4.moved hW.alike⟩, h5.warmC hW, fun x hx => (h6 x hx).warmD hW⟩
theorem ao.same {g : Nat → ClassId} {A : Nat → Prop} {u U : State} {H : Heap} (hv : u.vm = U.vm) (h : ao g A u H) : ao g A U H := by
  obtain ⟨h1, h2, ⟨h3, h4⟩, h5, h6⟩ := h
  have ha : u.vm.Alike U.vm := by rw [hv]; exact Vm.Alike.refl _
  exact ⟨h1.moved ha, by rw [← hv]; exact h2, ⟨h3.moved ha, h4.moved ha⟩, va_Nw.same rfl hv h5, fun x hx => va_Nw.same rfl hv (h6 x hx)⟩
/-- the statics that Strings read: compact strings, the maker of a wrong index's throwable (a reference or null) -/
noncomputable def zs (A : Nat → Prop) (U : State) (H : Heap) : Prop := va_Z "java/lang/String" "COMPACT_STRINGS" "Z" (.int 1) A U H ∧ va_Zq "jdk/internal/util/Preconditions" "SIOOBE_FORMATTER" "Ljava/util/function/BiFunction;" A U H
theorem zs.moved {A : Nat → Prop} {u U : State} {H : Heap} (hvm : u.vm.Alike U.vm) (h : zs A u H) : zs A U H := ⟨h.1.moved hvm, h.2.moved hvm⟩
theorem zs.kept {A : Nat → Prop} {U : State} {H H1 : Heap} (h : zs A U H) (hq : ∀ a : Nat, a < H.size → ¬ A a → H1[a]? = H[a]?) : zs A U H1 := ⟨h.1.kept hq, h.2.kept hq⟩
noncomputable def sx (D : va_G) (g : Nat → ClassId) (ad : Nat → Nat) (X : Nat × (Nat → Int32)) (A : Nat → Prop) (U : State) (H : Heap) : Prop :=
  va_K D vwCl (tz g) U ∧ (∀ x ∈ wN, va_Nw (.methodLinkNest x.1 x.2.1 x.2.2 RX6) U) ∧ ao g A U H ∧ ks ad A U H ∧ (∀ x ∈ tQ, vk_R x.1 x.2.1 x.2.2.1 (ad (5000 + x.2.2.2)) U) ∧ zs A U H ∧ kx ad X A U H
theorem kx_moved {ad : Nat → Nat} {X : Nat × (Nat → Int32)} {A : Nat → Prop} {u U : State} {H : Heap} (hvm : u.vm.Alike U.vm) (h : kx ad X A u H) : kx ad X A U H := by
  obtain ⟨⟨scr, h1, h2, h3⟩, h4⟩ := h
  exact ⟨⟨scr, h1, State.isArrayOf_alike hvm h2, h3⟩, h4⟩
theorem ks_moved {ad : Nat → Nat} {A : Nat → Prop} {u U : State} {H : Heap} (hvm : u.vm.Alike U.vm) (h : ks ad A u H) : ks ad A U H :=
  fun i hi => ⟨va_O.moved hvm (h i hi).1, va_OF.moved hvm (h i hi).2.1, va_OF.moved hvm (h i hi).2.2.1, va_T.moved hvm (h i hi).2.2.2⟩
theorem ks_kept {ad : Nat → Nat} {A : Nat → Prop} {U : State} {H H1 : Heap} (h : ks ad A U H) (hq : ∀ a : Nat, a < H.size → ¬ A a → H1[a]? = H[a]?) : ks ad A U H1 :=
  fun i hi => ⟨(h i hi).1.kept hq, (h i hi).2.1.kept hq, (h i hi).2.2.1.kept hq, (h i hi).2.2.2.kept hq⟩
theorem sx_kept {D : va_G} {g : Nat → ClassId} {ad : Nat → Nat} {X : Nat × (Nat → Int32)} {A : Nat → Prop} {U : State} {H H1 : Heap} (h : sx D g ad X A U H) (hz : H.size ≤ H1.size) (hq : ∀ a : Nat, a < H.size → ¬ A a → H1[a]? = H[a]?) : sx D g ad X A U H1 := by
  obtain ⟨h1, h2, h3, h4, h5, h6, h7, h8, h9⟩ := h
  exact ⟨h1, h2, h3.kept hq, ks_kept h4 hq, h5, h6.kept hq, h7.kept (hq _ h8 h9), Nat.lt_of_lt_of_le h8 hz, h9⟩
theorem sx_warm {D : va_G} {g : Nat → ClassId} {ad : Nat → Nat} {X : Nat × (Nat → Int32)} {A : Nat → Prop} {u U : State} {H : Heap} (hW : u.WarmedH U.vm) (h : sx D g ad X A u H) : sx D g ad X A U H := by
  obtain ⟨h1, h2, h3, h4, h5, h6, h7⟩ := h
  exact ⟨va_K.moved hW.alike h1, fun x hx => (h2 x hx).warmM hW, h3.warm hW, ks_moved hW.alike h4, fun x hx => (h5 x hx).warm hW, h6.moved hW.alike, kx_moved hW.alike h7⟩
theorem sx_same {D : va_G} {g : Nat → ClassId} {ad : Nat → Nat} {X : Nat × (Nat → Int32)} {A : Nat → Prop} {u U : State} {H : Heap} (hv : u.vm = U.vm) (h : sx D g ad X A u H) : sx D g ad X A U H := by
  obtain ⟨h1, h2, h3, h4, h5, h6, h7⟩ := h
  have ha : u.vm.Alike U.vm := by rw [hv]; exact Vm.Alike.refl _
  exact ⟨va_K.moved ha h1, fun x hx => va_Nw.same rfl hv (h2 x hx), h3.same hv, ks_moved ha h4, fun x hx => (h5 x hx).same hv.symm, h6.moved ha, kx_moved ha h7⟩
theorem sx_ad {D : va_G} {g : Nat → ClassId} {ad ad' : Nat → Nat} {X : Nat × (Nat → Int32)} {A : Nat → Prop} {U : State} {H : Heap} (he : ∀ n, 4999 ≤ n → ad' n = ad n) (h : sx D g ad X A U H) : sx D g ad' X A U H := by
  obtain ⟨h1, h2, h3, h4, h5, h6, h7⟩ := h
  refine ⟨h1, h2, h3, fun i hi => ?_, fun x hx => ?_, h6, ?_⟩
  · rw [he (5000 + i) (by omega), he (5100 + i) (by omega)]; exact h4 i hi
  · rw [he _ (by omega)]; exact h5 x hx
  · unfold kx; rw [he _ (by omega)]; exact h7
end
section
noncomputable abbrev KN : Type := Nat → Ls → List Value → Mm → Prop
noncomputable abbrev KR : Type := Option Value → Mm → Prop
noncomputable abbrev OP : Type := KN → KR → Ls → List Value → Mm → Prop
/-- references are names -/
noncomputable def kO (M : Mm) : Prop := ∀ a i, mR M a i ≤ mN M
noncomputable def lm (ad : Nat → Nat) (ls : Ls) : Ls := ls.map (fun x => (x.1, iv ad x.2))
noncomputable def pz (D : va_G) (g : Nat → ClassId) (ad : Nat → Nat) (X : Nat × (Nat → Int32)) (A : Nat → Prop) (av : List Value) (M : Mm) : Array Value → State → Prop := fun v U => v = (av.map (iv ad)).toArray ∧ va_P D vwCl (wl g ad M) U.heap ∧ va_D A (wl g ad M) ∧ (∀ a, U.heap.size ≤ a → A a) ∧ kO M ∧ mN M ≤ 4000 ∧ sx D g ad X A U U.heap
noncomputable def qz (D : va_G) (g : Nat → ClassId) (ad : Nat → Nat) (A : Nat → Prop) (na : Bool) (M : Mm) (kr : KR) : Array Value → State → Outcome → State → Prop := fun _ st o t => ∃ (r : Option Value) (M' : Mm) (ad' : Nat → Nat), o = .returned (r.map (iv ad')) ∧ kr r M' ∧ (na = true → ad' = ad ∧ M'.1 = M.1) ∧ (∀ n, n ≤ mN M ∨ 4999 ≤ n → ad' n = ad n) ∧ mN M ≤ mN M' ∧ mN M' ≤ 4000 ∧ kO M' ∧ va_P D vwCl (wl g ad' M') t.heap ∧ va_D A (wl g ad' M') ∧ va_F A st t
/-- A METHOD'S CONTRACT: called with av over the memory M it returns, and its answer and the memory then fulfil kr -/
noncomputable def Ev (l : Launch) (X : Nat × (Nat → Int32)) (q : Md) (d : Nat) (na : Bool) (mc ms : Nat) (av : List Value) (M : Mm) (kr : KR) : Prop :=
  ∀ (D : va_G) (g : Nat → ClassId) (ad : Nat → Nat) (A : Nat → Prop), Met l q.1 (wz q) (rz d mc ms) (pz D g ad X A av M) (qz D g ad A na M kr) mc ms A
/-- what a frame knows -/
noncomputable def fx (X : Nat × (Nat → Int32)) (q : Md) (p : Program) (s : State) (m : MethodId) (args : Array Value) (meth : Method) (c : Code) (D : va_G) (g : Nat → ClassId) (ad : Nat → Nat) (A : Nat → Prop) : Prop :=
  p.tables.exec = Jvm.exec ∧ c.code = q.2.1 ∧ c.maxLocals = q.2.2.1 ∧ meth.sig.returnType = q.2.2.2 ∧ meth.locks = false ∧ s.vm.findClass q.1.cls = some m.cls ∧ meth.name = q.1.name ∧ (∀ w ∈ wB, w.before args s = true) ∧ (∀ a, s.heap.size ≤ a → A a) ∧ sx D g ad X A s s.heap
/-- the heap is as the memory says -/
noncomputable def rl (D : va_G) (g : Nat → ClassId) (A : Nat → Prop) (na : Bool) (n0 : Nat) (ad0 : Nat → Nat) (S0 : Nat × Nat × Nat × (Nat → Nat × Nat)) (s : State) (ad : Nat → Nat) (M : Mm) (H : Heap) (locs : List Loc) : Prop :=
  va_P D vwCl (wl g ad M) H ∧ va_D A (wl g ad M) ∧ va_S A s.heap H locs ∧ kO M ∧ n0 ≤ mN M ∧ mN M ≤ 4000 ∧ (∀ n, n ≤ n0 ∨ 4999 ≤ n → ad n = ad0 n) ∧ (na = true → ad = ad0 ∧ M.1 = S0)
/-- the method's end -/
noncomputable def rt (q : Md) (pc : Nat) (r : Option Value) : Prop := (∃ v ty, r = some (.int v) ∧ q.2.2.2 = some ty ∧ narrow ty (.int v) = .int v ∧ decode q.2.1 pc = .ok (.ireturn, 1)) ∨ (∃ v, r = some (.long v) ∧ q.2.2.2 = some .long ∧ decode q.2.1 pc = .ok (.lreturn, 1)) ∨ (r = none ∧ q.2.2.2 = none ∧ decode q.2.1 pc = .ok (.return_, 1))
/-- A FRAME at pc with locals ls and stack st over M comes to its end, and kr -/
noncomputable def Wf (l : Launch) (X : Nat × (Nat → Int32)) (q : Md) (d : Nat) (na : Bool) (b : Nat × Nat) (pc : Nat) (ls : Ls) (st : List Value) (M : Mm) (kr : KR) : Prop :=
  ∀ (p : Program) (e : Env) (R : Room) (s : State) (m : MethodId) (args : Array Value) (below : List Frame) (meth : Method) (c : Code) (Q : State → Prop) (D : va_G) (g : Nat → ClassId) (ad0 : Nat → Nat) (A : Nat → Prop) (n0 : Nat) (S0 : Nat × Nat × Nat × (Nat → Nat × Nat)) (c0 s0 : Nat) (ad : Nat → Nat) (H : Heap) (locs : List Loc) (la : Array Slot),
    fx X q p s m args meth c D g ad0 A → d ≤ R.frames → 64 * d ≤ R.locals → b.1 ≤ R.cells + c0 → b.2 ≤ R.slots + s0 → c0 ≤ mC M → s0 ≤ mS M → mC M ≤ b.1 → mS M ≤ b.2 → rl D g A na n0 ad0 S0 s ad M H locs → lv_has la q.2.2.1 (lm ad ls) →
    (∀ (pc' : Nat) (r : Option Value) (M' : Mm) (ad' : Nat → Nat) (H' : Heap) (locs' : List Loc) (la' : Array Slot), kr r M' → rl D g A na n0 ad0 S0 s ad' M' H' locs' → c0 ≤ mC M' → s0 ≤ mS M' → mC M' ≤ b.1 → mS M' ≤ b.2 → rt q pc' r → W p l e R s m args below meth c H' locs' (mC M' - c0) (mS M' - s0) Q (F0 m pc' la' (r.toList.map (iv ad')))) →
    W p l e R s m args below meth c H locs (mC M - c0) (mS M - s0) Q (F0 m pc la (st.map (iv ad)))
/-! locals -/
noncomputable def lg : Ls → Nat → Option Value
  | [], _ => none
  | x :: t, i => cond (Nat.beq x.1 i) (some x.2) (lg t i)
theorem lg_mem : ∀ {ls : Ls} {i : Nat} {v : Value}, lg ls i = some v → (i, v) ∈ ls
  | [], _, _, h => by cases h
  | x :: t, i, v, h => by
    unfold lg at h
    cases hb : Nat.beq x.1 i with
    | true =>
      rw [hb] at h
      have e : x.1 = i := Nat.eq_of_beq_eq_true hb
      have e2 : x.2 = v := Option.some.inj h
      rw [← e, ← e2]
      exact List.mem_cons_self
    | false =>
      rw [hb] at h
      exact List.mem_cons_of_mem _ (lg_mem h)
theorem lg_has {ls : Ls} {i : Nat} {v : Value} {ad : Nat → Nat} {la : Array Slot} {nL : Nat} (h : lg ls i = some v) (hl : lv_has la nL (lm ad ls)) : la[i]? = some (.val (iv ad v)) :=
  hl.2.2 (i, iv ad v) (List.mem_map.mpr ⟨(i, v), lg_mem h, rfl⟩)
noncomputable def li : Ls → Nat → Value → Ls
  | [], i, v => [(i, v)]
  | x :: t, i, v => cond (Nat.ble x.1 i) (x :: li t i v) ((i, v) :: x :: t)
theorem li_mem : ∀ {ls : Ls} {i : Nat} {v : Value} {x : Nat × Value}, x ∈ li ls i v → x = (i, v) ∨ x ∈ ls
  | [], i, v, x, h => Or.inl (List.mem_singleton.mp h)
  | y :: t, i, v, x, h => by
    unfold li at h
    cases hb : Nat.ble y.1 i with
    | true =>
      rw [hb] at h
      rcases List.mem_cons.mp h with e | h
      · exact Or.inr (by rw [e]; exact List.mem_cons_self)
      · rcases li_mem h with e | h
        · exact Or.inl e
        · exact Or.inr (List.mem_cons_of_mem _ h)
    | false =>
      rw [hb] at h
      rcases List.mem_cons.mp h with e | h
      · exact Or.inl e
      · exact Or.inr h
noncomputable def lf (i : Nat) (two : Bool) (q : Nat × Value) : Bool := !(Nat.beq q.1 i) && (!(Nat.beq (q.1 + 1) i && Nat.beq q.2.category 2) && !(two && Nat.beq q.1 (i + 1)))
/-- a local's new value; the list stays in order -/
noncomputable def lp (ls : Ls) (i : Nat) (v : Value) : Ls := li (ls.filter (lf i (Nat.beq v.category 2))) i v
theorem beqN (a b : Nat) : (a == b) = Nat.beq a b := by
  cases h : Nat.beq a b with
  | true => exact beq_iff_eq.mpr (Nat.eq_of_beq_eq_true h)
  | false => exact beq_eq_false_iff_ne.mpr (Nat.ne_of_beq_eq_false h)
theorem lp_1 {ls : Ls} {i nL : Nat} {v : Value} {ad : Nat → Nat} {la : Array Slot} (hc : v.category = 1) (h : lv_has la nL ((i, iv ad v) :: (lm ad ls).filter (fun q => !(q.1 == i) && !(q.1 + 1 == i && q.2.category == 2)))) : lv_has la nL (lm ad (lp ls i v)) := by
  refine ⟨h.1, h.2.1, fun q hq => ?_⟩
  obtain ⟨x, hx, rfl⟩ := List.mem_map.mp hq
  rcases li_mem hx with e | hx
  · rw [e]; exact h.2.2 _ List.mem_cons_self
  · obtain ⟨h1, h2⟩ := List.mem_filter.mp hx
    refine h.2.2 _ (List.mem_cons_of_mem _ (List.mem_filter.mpr ⟨List.mem_map.mpr ⟨x, h1, rfl⟩, ?_⟩))
    simp only [lf, Bool.and_eq_true] at h2
    simp only [beqN, iv_cat, Bool.and_eq_true]
    exact ⟨h2.1, h2.2.1⟩
theorem lp_2 {ls : Ls} {i nL : Nat} {v : Value} {ad : Nat → Nat} {la : Array Slot} (hc : v.category = 2) (h : lv_has la nL ((i, iv ad v) :: (lm ad ls).filter (fun q => !(q.1 == i) && (!(q.1 == i + 1) && !(q.1 + 1 == i && q.2.category == 2))))) : lv_has la nL (lm ad (lp ls i v)) := by
  refine ⟨h.1, h.2.1, fun q hq => ?_⟩
  obtain ⟨x, hx, rfl⟩ := List.mem_map.mp hq
  rcases li_mem hx with e | hx
  · rw [e]; exact h.2.2 _ List.mem_cons_self
  · obtain ⟨h1, h2⟩ := List.mem_filter.mp hx
    refine h.2.2 _ (List.mem_cons_of_mem _ (List.mem_filter.mpr ⟨List.mem_map.mpr ⟨x, h1, rfl⟩, ?_⟩))
    rw [hc] at h2
    simp only [lf, Bool.and_eq_true] at h2
    simp only [beqN, iv_cat, Bool.and_eq_true]
    refine ⟨h2.1, ?_, h2.2.1⟩
    simpa using h2.2.2
/-- fewer locals, by their places -/
noncomputable def lk (ls : Ls) (ks : List Nat) : Ls := ls.filter (fun x => ks.any (fun k => Nat.beq k x.1))
theorem lm_sub {ls ls' : Ls} {nL : Nat} {ad : Nat → Nat} {la : Array Slot} (hs : ∀ x ∈ ls', x ∈ ls) (h : lv_has la nL (lm ad ls)) : lv_has la nL (lm ad ls') := by
  refine ⟨h.1, h.2.1, fun q hq => ?_⟩
  obtain ⟨x, hx, rfl⟩ := List.mem_map.mp hq
  exact h.2.2 _ (List.mem_map.mpr ⟨x, hs x hx, rfl⟩)
section FR
variable {l : Launch} {X : Nat × (Nat → Int32)} {q : Md} {d : Nat} {na : Bool} {b : Nat × Nat} {pc : Nat} {ls : Ls} {st : List Value} {M : Mm} {kr : KR}
theorem Wf.sub {ls' : Ls} (hs : ∀ x ∈ ls', x ∈ ls) (h : Wf l X q d na b pc ls' st M kr) : Wf l X q d na b pc ls st M kr := by
  intro p e R s m args below meth c Q D g ad0 A n0 S0 c0 s0 ad H locs la hf h1 h2 h3 h4 h5 h6 h7 h8 hr hl hk
  exact h p e R s m args below meth c Q D g ad0 A n0 S0 c0 s0 ad H locs la hf h1 h2 h3 h4 h5 h6 h7 h8 hr (lm_sub hs hl) hk
theorem Wf.keep (ks : List Nat) (h : Wf l X q d na b pc (lk ls ks) st M kr) : Wf l X q d na b pc ls st M kr := Wf.sub (fun _ hx => (List.mem_filter.mp hx).1) h
/-- a step that leaves the heap alone -/
theorem Wf.pure {pc' : Nat} {ls' : Ls} {st' : List Value} (h : ∀ (p : Program) (e : Env) (R : Room) (s : State) (m : MethodId) (args : Array Value) (below : List Frame) (meth : Method) (c : Code) (H : Heap) (locs : List Loc) (cells slots : Nat) (Q : State → Prop) (ad : Nat → Nat) (la : Array Slot), p.tables.exec = Jvm.exec → c.code = q.2.1 → s.vm.findClass q.1.cls = some m.cls → (∀ w ∈ wB, w.before args s = true) → lv_has la q.2.2.1 (lm ad ls) → (∀ la' : Array Slot, lv_has la' q.2.2.1 (lm ad ls') → W p l e R s m args below meth c H locs cells slots Q (F0 m pc' la' (st'.map (iv ad)))) → W p l e R s m args below meth c H locs cells slots Q (F0 m pc la (st.map (iv ad)))) (k : Wf l X q d na b pc' ls' st' M kr) : Wf l X q d na b pc ls st M kr := by
  intro p e R s m args below meth c Q D g ad0 A n0 S0 c0 s0 ad H locs la hf h1 h2 h3 h4 h5 h6 h7 h8 hr hl hk
  exact h p e R s m args below meth c H locs _ _ Q ad la hf.1 hf.2.1 hf.2.2.2.2.2.1 hf.2.2.2.2.2.2.2.1 hl (fun la' hl' => k p e R s m args below meth c Q D g ad0 A n0 S0 c0 s0 ad H locs la' hf h1 h2 h3 h4 h5 h6 h7 h8 hr hl' hk)
end FR
/-- an operation is right for what stands at pc -/
noncomputable def OK (l : Launch) (X : Nat × (Nat → Int32)) (q : Md) (d : Nat) (na : Bool) (b : Nat × Nat) (pc : Nat) (o : OP) : Prop := ∀ (kn : KN) (kr : KR) (ls : Ls) (st : List Value) (M : Mm), (∀ pc' ls' st' M', kn pc' ls' st' M' → Wf l X q d na b pc' ls' st' M' kr) → o kn kr ls st M → Wf l X q d na b pc ls st M kr
noncomputable def lo (tb : List (Nat × OP)) (pc : Nat) : OP := match tb with
  | [] => fun _ _ _ _ _ => False
  | x :: t => cond (Nat.beq x.1 pc) x.2 (lo t pc)
theorem lo_ok {l : Launch} {X : Nat × (Nat → Int32)} {q : Md} {d : Nat} {na : Bool} {b : Nat × Nat} : ∀ {tb : List (Nat × OP)}, (∀ x ∈ tb, OK l X q d na b x.1 x.2) → ∀ pc, OK l X q d na b pc (lo tb pc)
  | [], _, pc => fun _ _ _ _ _ _ h => h.elim
  | x :: t, h, pc => by
    unfold lo
    cases hb : Nat.beq x.1 pc with
    | true =>
      have e : x.1 = pc := Nat.eq_of_beq_eq_true hb
      rw [← e]
      exact h x List.mem_cons_self
    | false => exact lo_ok (fun y hy => h y (List.mem_cons_of_mem _ hy)) pc
/-- n steps, then the frame -/
noncomputable def go (l : Launch) (X : Nat × (Nat → Int32)) (q : Md) (d : Nat) (na : Bool) (b : Nat × Nat) (tb : List (Nat × OP)) (kr : KR) : Nat → KN
  | 0 => fun pc ls st M => Wf l X q d na b pc ls st M kr
  | n + 1 => fun pc ls st M => lo tb pc (go l X q d na b tb kr n) kr ls st M
theorem Wf.go {l : Launch} {X : Nat × (Nat → Int32)} {q : Md} {d : Nat} {na : Bool} {b : Nat × Nat} {tb : List (Nat × OP)} {kr : KR} (ht : ∀ x ∈ tb, OK l X q d na b x.1 x.2) : ∀ (n : Nat) {pc : Nat} {ls : Ls} {st : List Value} {M : Mm}, go l X q d na b tb kr n pc ls st M → Wf l X q d na b pc ls st M kr
  | 0, _, _, _, _, h => h
  | n + 1, pc, ls, st, M, h => lo_ok ht pc _ kr ls st M (fun _ _ _ _ h' => Wf.go ht n h') h
theorem lv_args_iv (ad : Nat → Nat) : ∀ (av : List Value) (i : Nat), lv_args i (av.map (iv ad)) = lm ad (lv_args i av)
  | [], _ => rfl
  | v :: t, i => by
    show (i, iv ad v) :: lv_args _ (t.map (iv ad)) = _
    rw [lv_args_iv ad t, iv_cat]
    rfl
theorem sl_len (ad : Nat → Nat) : ∀ av : List Value, (lg_sl (av.map (iv ad))).length = (lg_sl av).length
  | [] => rfl
  | v :: t => by
    have h := sl_len ad t
    simp only [lg_sl, List.map_cons, List.flatMap_cons, List.length_append] at h ⊢
    rw [h]
    cases v with
    | ref a => cases a <;> rfl
    | _ => rfl
end
section
section OPS
variable {l : Launch} {X : Nat × (Nat → Int32)} {q : Md} {d : Nat} {na : Bool} {b : Nat × Nat} {pc : Nat}
theorem Ev.of {mc ms : Nat} {av : List Value} {M : Mm} {kr : KR} (hp : plainName q.1.cls = true) (hlen : (lg_sl av).length ≤ q.2.2.1) (h : Wf l X q d na (mC M + mc, mS M + ms) 0 (lv_args 0 av) [] M kr) : Ev l X q d na mc ms av M kr := by
  intro D g ad A
  refine Met.ofW (cc := q.2.1) (maxL := q.2.2.1) (ret := q.2.2.2) hp rfl ?_
  intro p e s m args below meth c s₁ B hml hv
  obtain ⟨rfl, hP, hD, hA, hk, hn, hs⟩ := hv
  have hlocks := B.notSynchronized
  have hts := atoms_spec (ws := wz q) B.pre
  have hf : fx X q p s m (av.map (iv ad)).toArray meth c D g ad A := ⟨B.exec, B.bytes, hml, B.returns, hlocks, findClass_of_methodNamed B.named, (name_of_methodNamed B.named B.method).1, fun w hw => hts w (List.mem_cons_of_mem _ hw), hA, hs⟩
  have hl := lv_entry (av.map (iv ad)) (n := q.2.2.1) (by rw [sl_len]; exact hlen)
  rw [lg_entry_eq]
  rw [lv_args_iv] at hl
  generalize (lg_sl (av.map (iv ad)) ++ List.replicate (q.2.2.1 - (lg_sl (av.map (iv ad))).length) Slot.unset).toArray = la at hl ⊢
  have hW := h p e (headSpec (wz q) (rz d mc ms)).room s m (av.map (iv ad)).toArray below meth c (MQ below (qz D g ad A na M kr) (av.map (iv ad)).toArray s mc ms A) D g ad A (mN M) M.1 (mC M) (mS M) ad s.heap [] la hf (Nat.le_refl d) (Nat.le_refl _) (Nat.le_of_eq (Nat.add_comm _ _)) (Nat.le_of_eq (Nat.add_comm _ _)) (Nat.le_refl _) (Nat.le_refl _) (Nat.le_add_right _ _) (Nat.le_add_right _ _) ⟨hP, hD, va_S.rf, hk, Nat.le_refl _, hn, fun _ _ => rfl, fun _ => ⟨rfl, rfl⟩⟩ hl ?_
  · rw [Nat.sub_self, Nat.sub_self] at hW
    exact hW
  · intro pc' r M' ad' H' locs' la' hkr hr h1 h2 h3 h4 ht
    obtain ⟨r1, r2, r3, r4, r5, r6, r7, r8⟩ := hr
    have hq : ∀ t : State, t.heap = H' → s.WarmedH t.vm → qz D g ad A na M kr (av.map (iv ad)).toArray s (.returned (r.map (iv ad'))) t := fun t e1 _ => ⟨r, M', ad', rfl, hkr, r8, r7, r5, r6, r4, by rw [e1]; exact r1, r2, r3.F e1⟩
    have w3 : mC M' ≤ mC M + mc := h3
    have w4 : mS M' ≤ mS M + ms := h4
    refine W.widen (k := mc) (n := ms) (by omega) (by omega) ?_
    rcases ht with ⟨v, ty, rfl, e1, e2, e3⟩ | ⟨v, rfl, e1, e3⟩ | ⟨rfl, e1, e3⟩
    · exact W.zret B.exec B.bytes (B.returns.trans e1) e2 hq r3.2.2 e3 hlocks
    · exact W.lret B.exec B.bytes (B.returns.trans e1) hq r3.2.2 e3 hlocks
    · exact W.vret B.exec B.bytes (B.returns.trans e1) hq r3.2.2 e3 hlocks
/-! the ends -/
noncomputable def oIr : OP := fun _ kr _ st M => match st with
  | [.int v] => kr (some (.int v)) M
  | _ => False
noncomputable def oZr : OP := fun _ kr _ st M => match st with
  | [.int v] => (v = 0 ∨ v = 1) ∧ kr (some (.int v)) M
  | _ => False
noncomputable def oLr : OP := fun _ kr _ st M => match st with
  | [.long v] => kr (some (.long v)) M
  | _ => False
noncomputable def oVr : OP := fun _ kr _ st M => match st with
  | [] => kr none M
  | _ => False
theorem Wf.end {kr : KR} {ls : Ls} {M : Mm} {r : Option Value} (ht : rt q pc r) (h : kr r M) : Wf l X q d na b pc ls r.toList M kr := by
  intro p e R s m args below meth c Q D g ad0 A n0 S0 c0 s0 ad H locs la hf h1 h2 h3 h4 h5 h6 h7 h8 hr hl hk
  exact hk pc r M ad H locs la h hr h5 h6 h7 h8 ht
theorem ok_ir (hr : q.2.2.2 = some .int) (hd : decode q.2.1 pc = .ok (.ireturn, 1)) : OK l X q d na b pc oIr := by
  intro kn kr ls st M hk h
  simp only [oIr] at h
  split at h
  · exact Wf.end (r := some (.int _)) (Or.inl ⟨_, _, rfl, hr, rfl, hd⟩) h
  · exact h.elim
theorem ok_zr (hr : q.2.2.2 = some .boolean) (hd : decode q.2.1 pc = .ok (.ireturn, 1)) : OK l X q d na b pc oZr := by
  intro kn kr ls st M hk h
  simp only [oZr] at h
  split at h
  · refine Wf.end (r := some (.int _)) (Or.inl ⟨_, _, rfl, hr, ?_, hd⟩) h.2
    rcases h.1 with e | e <;> rw [e] <;> rfl
  · exact h.elim
theorem ok_lr (hr : q.2.2.2 = some .long) (hd : decode q.2.1 pc = .ok (.lreturn, 1)) : OK l X q d na b pc oLr := by
  intro kn kr ls st M hk h
  simp only [oLr] at h
  split at h
  · exact Wf.end (r := some (.long _)) (Or.inr (Or.inl ⟨_, rfl, hr, hd⟩)) h
  · exact h.elim
theorem ok_vr (hr : q.2.2.2 = none) (hd : decode q.2.1 pc = .ok (.return_, 1)) : OK l X q d na b pc oVr := by
  intro kn kr ls st M hk h
  simp only [oVr] at h
  split at h
  · exact Wf.end (r := none) (Or.inr (Or.inr ⟨rfl, hr, hd⟩)) h
  · exact h.elim
/-! constants -/
noncomputable def oIc (pc n : Nat) (v : Int32) : OP := fun kn _ ls st M => kn (pc + n) ls (.int v :: st) M
noncomputable def oLc (pc n : Nat) (v : Int64) : OP := fun kn _ ls st M => kn (pc + n) ls (.long v :: st) M
theorem ok_iconst {n : Int} {v : Int32} (hv : Int32.ofInt n = v) (hd : decode q.2.1 pc = .ok (.iconst n, 1)) : OK l X q d na b pc (oIc pc 1 v) :=
  fun _ _ _ _ _ hk h => Wf.pure (fun _ _ _ _ _ _ _ _ _ _ _ _ _ _ ad la hx hb hown hts hl k => lv_iconst hx hb hd hv (k la hl)) (hk _ _ _ _ h)
theorem ok_bipush {n : Int} {v : Int32} (hv : (Int8.ofInt n).toInt32 = v) (hd : decode q.2.1 pc = .ok (.bipush n, 2)) : OK l X q d na b pc (oIc pc 2 v) :=
  fun _ _ _ _ _ hk h => Wf.pure (fun _ _ _ _ _ _ _ _ _ _ _ _ _ _ ad la hx hb hown hts hl k => lv_bipush hx hb hd hv (k la hl)) (hk _ _ _ _ h)
theorem ok_sipush {n : Int} {v : Int32} (hv : (Int16.ofInt n).toInt32 = v) (hd : decode q.2.1 pc = .ok (.sipush n, 3)) : OK l X q d na b pc (oIc pc 3 v) :=
  fun _ _ _ _ _ hk h => Wf.pure (fun _ _ _ _ _ _ _ _ _ _ _ _ _ _ ad la hx hb hown hts hl k => lv_sipush hx hb hd hv (k la hl)) (hk _ _ _ _ h)
theorem ok_lconst {n : Fin 2} {v : Int64} (hv : Int64.ofNat (n : Nat) = v) (hd : decode q.2.1 pc = .ok (.lconst n, 1)) : OK l X q d na b pc (oLc pc 1 v) :=
  fun _ _ _ _ _ hk h => Wf.pure (fun _ _ _ _ _ _ _ _ _ _ _ _ _ _ ad la hx hb hown hts hl k => lv_lconst hx hb hd hv (k la hl)) (hk _ _ _ _ h)
theorem ok_ldc {n : Nat} {v : Int32} (hw : Jvm.Cond.constant q.1.cls n v ∈ wB) (hd : decode q.2.1 pc = .ok (.ldc n, 2)) : OK l X q d na b pc (oIc pc 2 v) :=
  fun _ _ _ _ _ hk h => Wf.pure (fun _ _ _ _ _ _ _ _ _ _ _ _ _ _ ad la hx hb hown hts hl k => lv_ldc hx hb hown (hts _ hw) hd (k la hl)) (hk _ _ _ _ h)
theorem ok_ldc2 {n : Nat} {v : Int64} (hw : Jvm.Cond.constantLong q.1.cls n v ∈ wB) (hd : decode q.2.1 pc = .ok (.ldc2_w n, 3)) : OK l X q d na b pc (oLc pc 3 v) :=
  fun _ _ _ _ _ hk h => Wf.pure (fun _ _ _ _ _ _ _ _ _ _ _ _ _ _ ad la hx hb hown hts hl k => lv_ldc2 hx hb hown (hts _ hw) hd (k la hl)) (hk _ _ _ _ h)
theorem ok_ldcw {n : Nat} {v : Int32} (hw : Jvm.Cond.constant q.1.cls n v ∈ wB) (hd : decode q.2.1 pc = .ok (.ldc_w n, 3)) : OK l X q d na b pc (oIc pc 3 v) := by
  intro kn kr ls st M hk h
  refine Wf.pure (fun p e R s m args below meth c H locs cells slots Q ad la hx hb hown hts hl k => ?_) (hk _ _ _ _ h)
  intro T hT Xs
  obtain ⟨t, a, b⟩ := k la hl T hT Xs
  exact ⟨t, va_ldcwI Xs hx hown (hts _ hw) (g := F0 m pc la (st.map (iv ad))) rfl (by rw [hb]; exact hd) t a, b⟩
/-! locals -/
noncomputable def oIl (pc n i : Nat) : OP := fun kn _ ls st M => match lg ls i with
  | some (.int x) => kn (pc + n) ls (.int x :: st) M
  | _ => False
noncomputable def oLl (pc n i : Nat) : OP := fun kn _ ls st M => match lg ls i with
  | some (.long x) => kn (pc + n) ls (.long x :: st) M
  | _ => False
noncomputable def oAl (pc n i : Nat) : OP := fun kn _ ls st M => match lg ls i with
  | some (.ref a) => cond (Nat.blt 0 a) (kn (pc + n) ls (.ref a :: st) M) False
  | _ => False
theorem condT {c : Bool} {P : Prop} (h : cond c P False) : c = true ∧ P := by
  cases c with
  | true => exact ⟨rfl, h⟩
  | false => exact h.elim
theorem ok_iload_n {i : Nat} {k : Fin 4} (hi : (k : Nat) = i) (hd : decode q.2.1 pc = .ok (.iload_n k, 1)) : OK l X q d na b pc (oIl pc 1 i) := by
  intro kn kr ls st M hk h
  simp only [oIl] at h
  split at h
  · rename_i e
    exact Wf.pure (fun _ _ _ _ _ _ _ _ _ _ _ _ _ _ ad la hx hb hown hts hl k => lv_iload_n hx hb hd hi (lg_has e hl) (k la hl)) (hk _ _ _ _ h)
  · exact h.elim
theorem ok_iload {i : Nat} (hd : decode q.2.1 pc = .ok (.iload i, 2)) : OK l X q d na b pc (oIl pc 2 i) := by
  intro kn kr ls st M hk h
  simp only [oIl] at h
  split at h
  · rename_i e
    exact Wf.pure (fun _ _ _ _ _ _ _ _ _ _ _ _ _ _ ad la hx hb hown hts hl k => lv_iload hx hb hd (lg_has e hl) (k la hl)) (hk _ _ _ _ h)
  · exact h.elim
theorem ok_lload_n {i : Nat} {k : Fin 4} (hi : (k : Nat) = i) (hd : decode q.2.1 pc = .ok (.lload_n k, 1)) : OK l X q d na b pc (oLl pc 1 i) := by
  intro kn kr ls st M hk h
  simp only [oLl] at h
  split at h
  · rename_i e
    exact Wf.pure (fun _ _ _ _ _ _ _ _ _ _ _ _ _ _ ad la hx hb hown hts hl k => lv_lload_n hx hb hd hi (lg_has e hl) (k la hl)) (hk _ _ _ _ h)
  · exact h.elim
theorem ok_lload {i : Nat} (hd : decode q.2.1 pc = .ok (.lload i, 2)) : OK l X q d na b pc (oLl pc 2 i) := by
  intro kn kr ls st M hk h
  simp only [oLl] at h
  split at h
  · rename_i e
    exact Wf.pure (fun _ _ _ _ _ _ _ _ _ _ _ _ _ _ ad la hx hb hown hts hl k => lv_lload hx hb hd (lg_has e hl) (k la hl)) (hk _ _ _ _ h)
  · exact h.elim
theorem ok_aload_n {i : Nat} {k : Fin 4} (hi : (k : Nat) = i) (hd : decode q.2.1 pc = .ok (.aload_n k, 1)) : OK l X q d na b pc (oAl pc 1 i) := by
  intro kn kr ls st M hk h
  simp only [oAl] at h
  split at h
  · rename_i a e
    obtain ⟨h0, h⟩ := condT h
    have h0 : 0 < a := Nat.le_of_ble_eq_true h0
    refine Wf.pure (fun p e' R s m args below meth c H locs cells slots Q ad la hx hb hown hts hl k => ?_) (hk _ _ _ _ h)
    have k := k la hl
    rw [List.map_cons, iv_ref h0] at k
    exact lv_aload_n hx hb hd hi (by rw [← iv_ref h0]; exact lg_has e hl) k
  · exact h.elim
noncomputable def oIs (pc n i : Nat) : OP := fun kn _ ls st M => match st with
  | .int x :: st => kn (pc + n) (lp ls i (.int x)) st M
  | _ => False
noncomputable def oLs (pc n i : Nat) : OP := fun kn _ ls st M => match st with
  | .long x :: st => kn (pc + n) (lp ls i (.long x)) st M
  | _ => False
noncomputable def oAs (pc n i : Nat) : OP := fun kn _ ls st M => match st with
  | .ref a :: st => cond (Nat.blt 0 a) (kn (pc + n) (lp ls i (.ref a)) st M) False
  | _ => False
noncomputable def oInc (pc i : Nat) (n : Int32) : OP := fun kn _ ls st M => match lg ls i with
  | some (.int x) => kn (pc + 3) (lp ls i (.int (x + n))) st M
  | _ => False
theorem ok_istore_n {i : Nat} {k : Fin 4} (hi : (k : Nat) = i) (hn : i < q.2.2.1) (hd : decode q.2.1 pc = .ok (.istore_n k, 1)) : OK l X q d na b pc (oIs pc 1 i) := by
  intro kn kr ls st M hk h
  simp only [oIs] at h
  split at h
  · exact Wf.pure (fun _ _ _ _ _ _ _ _ _ _ _ _ _ _ ad la hx hb hown hts hl k => lv_istore_n hx hb hd hi hl hn rfl (fun la' hl' => k la' (lp_1 rfl hl'))) (hk _ _ _ _ h)
  · exact h.elim
theorem ok_istore {i : Nat} (hn : i < q.2.2.1) (hd : decode q.2.1 pc = .ok (.istore i, 2)) : OK l X q d na b pc (oIs pc 2 i) := by
  intro kn kr ls st M hk h
  simp only [oIs] at h
  split at h
  · exact Wf.pure (fun _ _ _ _ _ _ _ _ _ _ _ _ _ _ ad la hx hb hown hts hl k => lv_istore hx hb hd hl hn rfl (fun la' hl' => k la' (lp_1 rfl hl'))) (hk _ _ _ _ h)
  · exact h.elim
theorem ok_lstore {i : Nat} (hn : i + 1 < q.2.2.1) (hd : decode q.2.1 pc = .ok (.lstore i, 2)) : OK l X q d na b pc (oLs pc 2 i) := by
  intro kn kr ls st M hk h
  simp only [oLs] at h
  split at h
  · exact Wf.pure (fun _ _ _ _ _ _ _ _ _ _ _ _ _ _ ad la hx hb hown hts hl k => lv_lstore hx hb hd hl hn rfl (fun la' hl' => k la' (lp_2 rfl hl'))) (hk _ _ _ _ h)
  · exact h.elim
theorem ok_astore_n {i : Nat} {k : Fin 4} (hi : (k : Nat) = i) (hn : i < q.2.2.1) (hd : decode q.2.1 pc = .ok (.astore_n k, 1)) : OK l X q d na b pc (oAs pc 1 i) := by
  intro kn kr ls st M hk h
  simp only [oAs] at h
  split at h
  · rename_i a st
    obtain ⟨h0, h⟩ := condT h
    have h0 : 0 < a := Nat.le_of_ble_eq_true h0
    refine Wf.pure (fun p e' R s m args below meth c H locs cells slots Q ad la hx hb hown hts hl k => ?_) (hk _ _ _ _ h)
    rw [List.map_cons, iv_ref h0]
    exact lv_astore_n hx hb hd hi hl hn rfl (fun la' hl' => k la' (lp_1 rfl (by rw [iv_ref h0]; exact hl')))
  · exact h.elim
theorem ok_iinc {i : Nat} {n : Int} {v : Int32} (hv : Int32.ofInt n = v) (hn : i < q.2.2.1) (hd : decode q.2.1 pc = .ok (.iinc i n, 3)) : OK l X q d na b pc (oInc pc i v) := by
  intro kn kr ls st M hk h
  simp only [oInc] at h
  split at h
  · rename_i x e
    subst hv
    refine Wf.pure (fun p e' R s m args below meth c H locs cells slots Q ad la hx hb hown hts hl k => ?_) (hk _ _ _ _ h)
    obtain ⟨j, hj⟩ := List.getElem?_of_mem (List.mem_map.mpr ⟨(i, Value.int x), lg_mem e, rfl⟩ : (i, Value.int x) ∈ lm ad ls)
    exact lv_iinc hx hb hd hl hj rfl hn rfl (fun la' hl' => k la' (lp_1 rfl hl'))
  · exact h.elim
/-! numbers -/
noncomputable def o2 (pc : Nat) (f : Int32 → Int32 → Int32) : OP := fun kn _ ls st M => match st with
  | .int y :: .int x :: st => kn (pc + 1) ls (.int (f x y) :: st) M
  | _ => False
noncomputable def o2d (pc : Nat) (f : Int32 → Int32 → Int32) : OP := fun kn _ ls st M => match st with
  | .int y :: .int x :: st => ¬ y = 0 ∧ kn (pc + 1) ls (.int (f x y) :: st) M
  | _ => False
noncomputable def o1 (pc : Nat) (f : Int32 → Int32) : OP := fun kn _ ls st M => match st with
  | .int x :: st => kn (pc + 1) ls (.int (f x) :: st) M
  | _ => False
noncomputable def oL2 (pc : Nat) (f : Int64 → Int64 → Int64) : OP := fun kn _ ls st M => match st with
  | .long y :: .long x :: st => kn (pc + 1) ls (.long (f x y) :: st) M
  | _ => False
noncomputable def oL2d (pc : Nat) (f : Int64 → Int64 → Int64) : OP := fun kn _ ls st M => match st with
  | .long y :: .long x :: st => ¬ y = 0 ∧ kn (pc + 1) ls (.long (f x y) :: st) M
  | _ => False
noncomputable def oi2l (pc : Nat) : OP := fun kn _ ls st M => match st with
  | .int x :: st => kn (pc + 1) ls (.long x.toInt64 :: st) M
  | _ => False
noncomputable def olcmp (pc : Nat) : OP := fun kn _ ls st M => match st with
  | .long y :: .long x :: st => kn (pc + 1) ls (.int (lg_cmp x y) :: st) M
  | _ => False
theorem ok_iadd (hd : decode q.2.1 pc = .ok (.iadd, 1)) : OK l X q d na b pc (o2 pc (fun x y => x + y)) := by
  intro kn kr ls st M hk h
  simp only [o2] at h
  split at h
  · exact Wf.pure (fun _ _ _ _ _ _ _ _ _ _ _ _ _ _ ad la hx hb hown hts hl k => lv_iadd hx hb hd (k la hl)) (hk _ _ _ _ h)
  · exact h.elim
theorem ok_isub (hd : decode q.2.1 pc = .ok (.isub, 1)) : OK l X q d na b pc (o2 pc (fun x y => x - y)) := by
  intro kn kr ls st M hk h
  simp only [o2] at h
  split at h
  · exact Wf.pure (fun _ _ _ _ _ _ _ _ _ _ _ _ _ _ ad la hx hb hown hts hl k => lv_isub hx hb hd (k la hl)) (hk _ _ _ _ h)
  · exact h.elim
theorem ok_imul (hd : decode q.2.1 pc = .ok (.imul, 1)) : OK l X q d na b pc (o2 pc (fun x y => x * y)) := by
  intro kn kr ls st M hk h
  simp only [o2] at h
  split at h
  · exact Wf.pure (fun _ _ _ _ _ _ _ _ _ _ _ _ _ _ ad la hx hb hown hts hl k => lv_imul hx hb hd (k la hl)) (hk _ _ _ _ h)
  · exact h.elim
theorem ok_iand (hd : decode q.2.1 pc = .ok (.iand, 1)) : OK l X q d na b pc (o2 pc (fun x y => x &&& y)) := by
  intro kn kr ls st M hk h
  simp only [o2] at h
  split at h
  · exact Wf.pure (fun _ _ _ _ _ _ _ _ _ _ _ _ _ _ ad la hx hb hown hts hl k => lv_iand hx hb hd (k la hl)) (hk _ _ _ _ h)
  · exact h.elim
theorem ok_ior (hd : decode q.2.1 pc = .ok (.ior, 1)) : OK l X q d na b pc (o2 pc (fun x y => x ||| y)) := by
  intro kn kr ls st M hk h
  simp only [o2] at h
  split at h
  · exact Wf.pure (fun _ _ _ _ _ _ _ _ _ _ _ _ _ _ ad la hx hb hown hts hl k => lv_ior hx hb hd (k la hl)) (hk _ _ _ _ h)
  · exact h.elim
theorem ok_ixor (hd : decode q.2.1 pc = .ok (.ixor, 1)) : OK l X q d na b pc (o2 pc (fun x y => x ^^^ y)) := by
  intro kn kr ls st M hk h
  simp only [o2] at h
  split at h
  · exact Wf.pure (fun _ _ _ _ _ _ _ _ _ _ _ _ _ _ ad la hx hb hown hts hl k => lv_ixor hx hb hd (k la hl)) (hk _ _ _ _ h)
  · exact h.elim
theorem ok_ishl (hd : decode q.2.1 pc = .ok (.ishl, 1)) : OK l X q d na b pc (o2 pc (fun x y => x <<< (y &&& 31))) := by
  intro kn kr ls st M hk h
  simp only [o2] at h
  split at h
  · exact Wf.pure (fun _ _ _ _ _ _ _ _ _ _ _ _ _ _ ad la hx hb hown hts hl k => lv_ishl hx hb hd (k la hl)) (hk _ _ _ _ h)
  · exact h.elim
theorem ok_ishr (hd : decode q.2.1 pc = .ok (.ishr, 1)) : OK l X q d na b pc (o2 pc (fun x y => x >>> (y &&& 31))) := by
  intro kn kr ls st M hk h
  simp only [o2] at h
  split at h
  · exact Wf.pure (fun _ _ _ _ _ _ _ _ _ _ _ _ _ _ ad la hx hb hown hts hl k => lv_ishr hx hb hd (k la hl)) (hk _ _ _ _ h)
  · exact h.elim
theorem ok_iushr (hd : decode q.2.1 pc = .ok (.iushr, 1)) : OK l X q d na b pc (o2 pc (fun x y => (x.toUInt32 >>> (y.toUInt32 &&& Int32.toUInt32 31)).toInt32)) := by
  intro kn kr ls st M hk h
  simp only [o2] at h
  split at h
  · exact Wf.pure (fun _ _ _ _ _ _ _ _ _ _ _ _ _ _ ad la hx hb hown hts hl k => lv_iushr hx hb hd rfl (k la hl)) (hk _ _ _ _ h)
  · exact h.elim
theorem ok_idiv (hd : decode q.2.1 pc = .ok (.idiv, 1)) : OK l X q d na b pc (o2d pc (fun x y => x / y)) := by
  intro kn kr ls st M hk h
  simp only [o2d] at h
  split at h
  · exact Wf.pure (fun _ _ _ _ _ _ _ _ _ _ _ _ _ _ ad la hx hb hown hts hl k => lv_idiv hx hb hd h.1 (k la hl)) (hk _ _ _ _ h.2)
  · exact h.elim
theorem ok_irem (hd : decode q.2.1 pc = .ok (.irem, 1)) : OK l X q d na b pc (o2d pc (fun x y => x - x / y * y)) := by
  intro kn kr ls st M hk h
  simp only [o2d] at h
  split at h
  · exact Wf.pure (fun _ _ _ _ _ _ _ _ _ _ _ _ _ _ ad la hx hb hown hts hl k => lv_irem hx hb hd h.1 (k la hl)) (hk _ _ _ _ h.2)
  · exact h.elim
theorem ok_ineg (hd : decode q.2.1 pc = .ok (.ineg, 1)) : OK l X q d na b pc (o1 pc (fun x => -x)) := by
  intro kn kr ls st M hk h
  simp only [o1] at h
  split at h
  · exact Wf.pure (fun _ _ _ _ _ _ _ _ _ _ _ _ _ _ ad la hx hb hown hts hl k => lv_ineg hx hb hd (k la hl)) (hk _ _ _ _ h)
  · exact h.elim
theorem ok_i2b (hd : decode q.2.1 pc = .ok (.i2b, 1)) : OK l X q d na b pc (o1 pc (fun x => x.toInt8.toInt32)) := by
  intro kn kr ls st M hk h
  simp only [o1] at h
  split at h
  · exact Wf.pure (fun _ _ _ _ _ _ _ _ _ _ _ _ _ _ ad la hx hb hown hts hl k => lv_i2b hx hb hd rfl (k la hl)) (hk _ _ _ _ h)
  · exact h.elim
theorem ok_i2c (hd : decode q.2.1 pc = .ok (.i2c, 1)) : OK l X q d na b pc (o1 pc (fun x => (x.toUInt32 % 65536).toInt32)) := by
  intro kn kr ls st M hk h
  simp only [o1] at h
  split at h
  · exact Wf.pure (fun _ _ _ _ _ _ _ _ _ _ _ _ _ _ ad la hx hb hown hts hl k => lv_i2c hx hb hd rfl (k la hl)) (hk _ _ _ _ h)
  · exact h.elim
theorem ok_ladd (hd : decode q.2.1 pc = .ok (.ladd, 1)) : OK l X q d na b pc (oL2 pc (fun x y => x + y)) := by
  intro kn kr ls st M hk h
  simp only [oL2] at h
  split at h
  · exact Wf.pure (fun _ _ _ _ _ _ _ _ _ _ _ _ _ _ ad la hx hb hown hts hl k => lv_ladd hx hb hd (k la hl)) (hk _ _ _ _ h)
  · exact h.elim
theorem ok_lsub (hd : decode q.2.1 pc = .ok (.lsub, 1)) : OK l X q d na b pc (oL2 pc (fun x y => x - y)) := by
  intro kn kr ls st M hk h
  simp only [oL2] at h
  split at h
  · exact Wf.pure (fun _ _ _ _ _ _ _ _ _ _ _ _ _ _ ad la hx hb hown hts hl k => lv_lsub hx hb hd (k la hl)) (hk _ _ _ _ h)
  · exact h.elim
theorem ok_lmul (hd : decode q.2.1 pc = .ok (.lmul, 1)) : OK l X q d na b pc (oL2 pc (fun x y => x * y)) := by
  intro kn kr ls st M hk h
  simp only [oL2] at h
  split at h
  · exact Wf.pure (fun _ _ _ _ _ _ _ _ _ _ _ _ _ _ ad la hx hb hown hts hl k => lv_lmul hx hb hd (k la hl)) (hk _ _ _ _ h)
  · exact h.elim
theorem ok_ldiv (hd : decode q.2.1 pc = .ok (.ldiv, 1)) : OK l X q d na b pc (oL2d pc (fun x y => x / y)) := by
  intro kn kr ls st M hk h
  simp only [oL2d] at h
  split at h
  · exact Wf.pure (fun _ _ _ _ _ _ _ _ _ _ _ _ _ _ ad la hx hb hown hts hl k => lv_ldiv hx hb hd h.1 (k la hl)) (hk _ _ _ _ h.2)
  · exact h.elim
theorem ok_lrem (hd : decode q.2.1 pc = .ok (.lrem, 1)) : OK l X q d na b pc (oL2d pc (fun x y => x - x / y * y)) := by
  intro kn kr ls st M hk h
  simp only [oL2d] at h
  split at h
  · exact Wf.pure (fun _ _ _ _ _ _ _ _ _ _ _ _ _ _ ad la hx hb hown hts hl k => lv_lrem hx hb hd h.1 (k la hl)) (hk _ _ _ _ h.2)
  · exact h.elim
theorem ok_i2l (hd : decode q.2.1 pc = .ok (.i2l, 1)) : OK l X q d na b pc (oi2l pc) := by
  intro kn kr ls st M hk h
  simp only [oi2l] at h
  split at h
  · exact Wf.pure (fun _ _ _ _ _ _ _ _ _ _ _ _ _ _ ad la hx hb hown hts hl k => lv_i2l hx hb hd rfl (k la hl)) (hk _ _ _ _ h)
  · exact h.elim
theorem ok_lcmp (hd : decode q.2.1 pc = .ok (.lcmp, 1)) : OK l X q d na b pc (olcmp pc) := by
  intro kn kr ls st M hk h
  simp only [olcmp] at h
  split at h
  · exact Wf.pure (fun _ _ _ _ _ _ _ _ _ _ _ _ _ _ ad la hx hb hown hts hl k => W.lcmp hx hb hd (k la hl)) (hk _ _ _ _ h)
  · exact h.elim
/-! the stack -/
noncomputable def oDup (pc : Nat) : OP := fun kn _ ls st M => match st with
  | v :: st => cond (Nat.beq v.category 1) (kn (pc + 1) ls (v :: v :: st) M) False
  | _ => False
noncomputable def oDup2 (pc : Nat) : OP := fun kn _ ls st M => match st with
  | v :: w :: st => cond (Nat.beq v.category 1 && Nat.beq w.category 1) (kn (pc + 1) ls (v :: w :: v :: w :: st) M) False
  | _ => False
noncomputable def oPop (pc : Nat) : OP := fun kn _ ls st M => match st with
  | v :: st => cond (Nat.beq v.category 1) (kn (pc + 1) ls st M) False
  | _ => False
theorem ok_dup (hd : decode q.2.1 pc = .ok (.dup, 1)) : OK l X q d na b pc (oDup pc) := by
  intro kn kr ls st M hk h
  simp only [oDup] at h
  split at h
  · obtain ⟨h0, h⟩ := condT h
    have h0 := Nat.eq_of_beq_eq_true h0
    exact Wf.pure (fun _ _ _ _ _ _ _ _ _ _ _ _ _ _ ad la hx hb hown hts hl k => lv_dup hx hb hd (by rw [iv_cat]; exact h0) (k la hl)) (hk _ _ _ _ h)
  · exact h.elim
theorem ok_pop (hd : decode q.2.1 pc = .ok (.pop, 1)) : OK l X q d na b pc (oPop pc) := by
  intro kn kr ls st M hk h
  simp only [oPop] at h
  split at h
  · obtain ⟨h0, h⟩ := condT h
    have h0 := Nat.eq_of_beq_eq_true h0
    exact Wf.pure (fun _ _ _ _ _ _ _ _ _ _ _ _ _ _ ad la hx hb hown hts hl k => lv_pop hx hb hd (by rw [iv_cat]; exact h0) (k la hl)) (hk _ _ _ _ h)
  · exact h.elim
theorem ok_dup2 (hd : decode q.2.1 pc = .ok (.dup2, 1)) : OK l X q d na b pc (oDup2 pc) := by
  intro kn kr ls st M hk h
  simp only [oDup2] at h
  split at h
  · obtain ⟨h0, h⟩ := condT h
    obtain ⟨h0, h1⟩ := Bool.and_eq_true_iff.mp h0
    have h0 := Nat.eq_of_beq_eq_true h0
    have h1 := Nat.eq_of_beq_eq_true h1
    exact Wf.pure (fun _ _ _ _ _ _ _ _ _ _ _ _ _ _ ad la hx hb hown hts hl k => lv_dup2_11 hx hb hd (by rw [iv_cat]; exact h0) (by rw [iv_cat]; exact h1) (k la hl)) (hk _ _ _ _ h)
  · exact h.elim
/-! branches -/
noncomputable def oGo (t : Nat) : OP := fun kn _ ls st M => kn t ls st M
noncomputable def oIf (pc t : Nat) (P N : Int32 → Prop) : OP := fun kn _ ls st M => match st with
  | .int x :: st => (P x → kn t ls st M) ∧ (N x → kn (pc + 3) ls st M)
  | _ => False
noncomputable def oCm (pc t : Nat) (P N : Int32 → Int32 → Prop) : OP := fun kn _ ls st M => match st with
  | .int y :: .int x :: st => (P x y → kn t ls st M) ∧ (N x y → kn (pc + 3) ls st M)
  | _ => False
noncomputable def oTs (lo : Int) (ts : List Nat) (df : Nat) : OP := fun kn _ ls st M => match st with
  | .int x :: st => (∀ (k t : Nat), ts[k]? = some t → x.toInt = lo + (k : Int) → kn t ls st M) ∧ ((x.toInt < lo ∨ lo + (ts.length : Int) ≤ x.toInt) → kn df ls st M)
  | _ => False
theorem ok_goto {off : Int} {t : Nat} (ht : (pc : Int) + off = (t : Int)) (hd : decode q.2.1 pc = .ok (.goto off, 3)) : OK l X q d na b pc (oGo t) :=
  fun _ _ _ _ _ hk h => Wf.pure (fun _ _ _ _ _ _ _ _ _ _ _ _ _ _ ad la hx hb hown hts hl k => lv_goto hx hb hd ht (k la hl)) (hk _ _ _ _ h)
theorem Wf.two {kr : KR} {ls : Ls} {st st' : List Value} {M : Mm} {t t' : Nat} {P N : Prop} (hPN : P ∨ N) (h : ∀ (p : Program) (e : Env) (R : Room) (s : State) (m : MethodId) (args : Array Value) (below : List Frame) (meth : Method) (c : Code) (H : Heap) (locs : List Loc) (cells slots : Nat) (Q : State → Prop) (ad : Nat → Nat) (la : Array Slot), p.tables.exec = Jvm.exec → c.code = q.2.1 → (P → W p l e R s m args below meth c H locs cells slots Q (F0 m t la (st'.map (iv ad)))) → (N → W p l e R s m args below meth c H locs cells slots Q (F0 m t' la (st'.map (iv ad)))) → W p l e R s m args below meth c H locs cells slots Q (F0 m pc la (st.map (iv ad)))) (k1 : P → Wf l X q d na b t ls st' M kr) (k2 : N → Wf l X q d na b t' ls st' M kr) : Wf l X q d na b pc ls st M kr := by
  intro p e R s m args below meth c Q D g ad0 A n0 S0 c0 s0 ad H locs la hf h1 h2 h3 h4 h5 h6 h7 h8 hr hl hk
  exact h p e R s m args below meth c H locs _ _ Q ad la hf.1 hf.2.1 (fun z => k1 z p e R s m args below meth c Q D g ad0 A n0 S0 c0 s0 ad H locs la hf h1 h2 h3 h4 h5 h6 h7 h8 hr hl hk) (fun z => k2 z p e R s m args below meth c Q D g ad0 A n0 S0 c0 s0 ad H locs la hf h1 h2 h3 h4 h5 h6 h7 h8 hr hl hk)
theorem ok_ifeq {off : Int} {t : Nat} (ht : (pc : Int) + off = (t : Int)) (hd : decode q.2.1 pc = .ok (.ifCond .eq off, 3)) : OK l X q d na b pc (oIf pc t (fun x => x = 0) (fun x => ¬ x = 0)) := by
  intro kn kr ls st M hk h
  simp only [oIf] at h
  split at h
  · exact Wf.two (Decidable.em _) (fun _ _ _ _ _ _ _ _ _ _ _ _ _ _ ad la hx hb k1 k2 => lv_if_eq hx hb hd ht k1 k2) (fun z => hk _ _ _ _ (h.1 z)) (fun z => hk _ _ _ _ (h.2 z))
  · exact h.elim
theorem ok_icmpeq {off : Int} {t : Nat} (ht : (pc : Int) + off = (t : Int)) (hd : decode q.2.1 pc = .ok (.if_icmp .eq off, 3)) : OK l X q d na b pc (oCm pc t (fun x y => x = y) (fun x y => ¬ x = y)) := by
  intro kn kr ls st M hk h
  simp only [oCm] at h
  split at h
  · exact Wf.two (Decidable.em _) (fun _ _ _ _ _ _ _ _ _ _ _ _ _ _ ad la hx hb k1 k2 => lv_icmp_eq hx hb hd ht k1 k2) (fun z => hk _ _ _ _ (h.1 z)) (fun z => hk _ _ _ _ (h.2 z))
  · exact h.elim
theorem ok_ifne {off : Int} {t : Nat} (ht : (pc : Int) + off = (t : Int)) (hd : decode q.2.1 pc = .ok (.ifCond .ne off, 3)) : OK l X q d na b pc (oIf pc t (fun x => ¬ x = 0) (fun x => x = 0)) := by
  intro kn kr ls st M hk h
  simp only [oIf] at h
  split at h
  · exact Wf.two (Decidable.em _).symm (fun _ _ _ _ _ _ _ _ _ _ _ _ _ _ ad la hx hb k1 k2 => lv_if_ne hx hb hd ht k1 k2) (fun z => hk _ _ _ _ (h.1 z)) (fun z => hk _ _ _ _ (h.2 z))
  · exact h.elim
theorem ok_icmpne {off : Int} {t : Nat} (ht : (pc : Int) + off = (t : Int)) (hd : decode q.2.1 pc = .ok (.if_icmp .ne off, 3)) : OK l X q d na b pc (oCm pc t (fun x y => ¬ x = y) (fun x y => x = y)) := by
  intro kn kr ls st M hk h
  simp only [oCm] at h
  split at h
  · exact Wf.two (Decidable.em _).symm (fun _ _ _ _ _ _ _ _ _ _ _ _ _ _ ad la hx hb k1 k2 => lv_icmp_ne hx hb hd ht k1 k2) (fun z => hk _ _ _ _ (h.1 z)) (fun z => hk _ _ _ _ (h.2 z))
  · exact h.elim
theorem ok_iflt {off : Int} {t : Nat} (ht : (pc : Int) + off = (t : Int)) (hd : decode q.2.1 pc = .ok (.ifCond .lt off, 3)) : OK l X q d na b pc (oIf pc t (fun x => x < 0) (fun x => ¬ x < 0)) := by
  intro kn kr ls st M hk h
  simp only [oIf] at h
  split at h
  · exact Wf.two (Decidable.em _) (fun _ _ _ _ _ _ _ _ _ _ _ _ _ _ ad la hx hb k1 k2 => lv_if_lt hx hb hd ht k1 k2) (fun z => hk _ _ _ _ (h.1 z)) (fun z => hk _ _ _ _ (h.2 z))
  · exact h.elim
theorem ok_icmplt {off : Int} {t : Nat} (ht : (pc : Int) + off = (t : Int)) (hd : decode q.2.1 pc = .ok (.if_icmp .lt off, 3)) : OK l X q d na b pc (oCm pc t (fun x y => x < y) (fun x y => ¬ x < y)) := by
  intro kn kr ls st M hk h
  simp only [oCm] at h
  split at h
  · exact Wf.two (Decidable.em _) (fun _ _ _ _ _ _ _ _ _ _ _ _ _ _ ad la hx hb k1 k2 => lv_icmp_lt hx hb hd ht k1 k2) (fun z => hk _ _ _ _ (h.1 z)) (fun z => hk _ _ _ _ (h.2 z))
  · exact h.elim
theorem ok_ifge {off : Int} {t : Nat} (ht : (pc : Int) + off = (t : Int)) (hd : decode q.2.1 pc = .ok (.ifCond .ge off, 3)) : OK l X q d na b pc (oIf pc t (fun x => 0 ≤ x) (fun x => ¬ 0 ≤ x)) := by
  intro kn kr ls st M hk h
  simp only [oIf] at h
  split at h
  · exact Wf.two (Decidable.em _) (fun _ _ _ _ _ _ _ _ _ _ _ _ _ _ ad la hx hb k1 k2 => lv_if_ge hx hb hd ht k1 k2) (fun z => hk _ _ _ _ (h.1 z)) (fun z => hk _ _ _ _ (h.2 z))
  · exact h.elim
theorem ok_icmpge {off : Int} {t : Nat} (ht : (pc : Int) + off = (t : Int)) (hd : decode q.2.1 pc = .ok (.if_icmp .ge off, 3)) : OK l X q d na b pc (oCm pc t (fun x y => y ≤ x) (fun x y => ¬ y ≤ x)) := by
  intro kn kr ls st M hk h
  simp only [oCm] at h
  split at h
  · exact Wf.two (Decidable.em _) (fun _ _ _ _ _ _ _ _ _ _ _ _ _ _ ad la hx hb k1 k2 => lv_icmp_ge hx hb hd ht k1 k2) (fun z => hk _ _ _ _ (h.1 z)) (fun z => hk _ _ _ _ (h.2 z))
  · exact h.elim
theorem ok_ifgt {off : Int} {t : Nat} (ht : (pc : Int) + off = (t : Int)) (hd : decode q.2.1 pc = .ok (.ifCond .gt off, 3)) : OK l X q d na b pc (oIf pc t (fun x => 0 < x) (fun x => ¬ 0 < x)) := by
  intro kn kr ls st M hk h
  simp only [oIf] at h
  split at h
  · exact Wf.two (Decidable.em _) (fun _ _ _ _ _ _ _ _ _ _ _ _ _ _ ad la hx hb k1 k2 => lv_if_gt hx hb hd ht k1 k2) (fun z => hk _ _ _ _ (h.1 z)) (fun z => hk _ _ _ _ (h.2 z))
  · exact h.elim
theorem ok_icmpgt {off : Int} {t : Nat} (ht : (pc : Int) + off = (t : Int)) (hd : decode q.2.1 pc = .ok (.if_icmp .gt off, 3)) : OK l X q d na b pc (oCm pc t (fun x y => y < x) (fun x y => ¬ y < x)) := by
  intro kn kr ls st M hk h
  simp only [oCm] at h
  split at h
  · exact Wf.two (Decidable.em _) (fun _ _ _ _ _ _ _ _ _ _ _ _ _ _ ad la hx hb k1 k2 => lv_icmp_gt hx hb hd ht k1 k2) (fun z => hk _ _ _ _ (h.1 z)) (fun z => hk _ _ _ _ (h.2 z))
  · exact h.elim
theorem ok_ifle {off : Int} {t : Nat} (ht : (pc : Int) + off = (t : Int)) (hd : decode q.2.1 pc = .ok (.ifCond .le off, 3)) : OK l X q d na b pc (oIf pc t (fun x => x ≤ 0) (fun x => ¬ x ≤ 0)) := by
  intro kn kr ls st M hk h
  simp only [oIf] at h
  split at h
  · exact Wf.two (Decidable.em _) (fun _ _ _ _ _ _ _ _ _ _ _ _ _ _ ad la hx hb k1 k2 => lv_if_le hx hb hd ht k1 k2) (fun z => hk _ _ _ _ (h.1 z)) (fun z => hk _ _ _ _ (h.2 z))
  · exact h.elim
theorem ok_icmple {off : Int} {t : Nat} (ht : (pc : Int) + off = (t : Int)) (hd : decode q.2.1 pc = .ok (.if_icmp .le off, 3)) : OK l X q d na b pc (oCm pc t (fun x y => x ≤ y) (fun x y => ¬ x ≤ y)) := by
  intro kn kr ls st M hk h
  simp only [oCm] at h
  split at h
  · exact Wf.two (Decidable.em _) (fun _ _ _ _ _ _ _ _ _ _ _ _ _ _ ad la hx hb k1 k2 => lv_icmp_le hx hb hd ht k1 k2) (fun z => hk _ _ _ _ (h.1 z)) (fun z => hk _ _ _ _ (h.2 z))
  · exact h.elim
theorem ok_ts {df lo hi : Int} {offs : Array Int} {n : Nat} {ts : List Nat} {t : Nat} (hn : hi + 1 = lo + ts.length) (h0 : (pc : Int) + df = (t : Int)) (hs : ts.map (fun (x : Nat) => (x : Int)) = offs.toList.map (fun o => (pc : Int) + o)) (hd : decode q.2.1 pc = .ok (.tableswitch df lo hi offs, n)) : OK l X q d na b pc (oTs lo ts t) := by
  intro kn kr ls st M hk h
  simp only [oTs] at h
  split at h
  · rename_i x st
    by_cases hx1 : x.toInt < lo ∨ lo + ts.length ≤ x.toInt
    · exact Wf.pure (fun _ _ _ _ _ _ _ _ _ _ _ _ _ _ ad la hx hb hown hts hl k => lv_tableOut hx hb hd (by omega) h0 (k la hl)) (hk _ _ _ _ (h.2 hx1))
    · have e1 : x.toInt = lo + ((x.toInt - lo).toNat : Nat) := by omega
      have e2 : (x.toInt - lo).toNat < ts.length := by omega
      have e3 : ts[(x.toInt - lo).toNat]? = some ts[(x.toInt - lo).toNat] := List.getElem?_eq_getElem e2
      have e4 : (offs.toList.map (fun o => (pc : Int) + o))[(x.toInt - lo).toNat]? = some (ts[(x.toInt - lo).toNat] : Int) := by
        rw [← hs, List.getElem?_map, e3]; rfl
      rw [List.getElem?_map] at e4
      cases ho : offs.toList[(x.toInt - lo).toNat]? with
      | none => rw [ho] at e4; cases e4
      | some o =>
        rw [ho] at e4
        have e5 : (pc : Int) + o = (ts[(x.toInt - lo).toNat] : Int) := Option.some.inj e4
        exact Wf.pure (fun _ _ _ _ _ _ _ _ _ _ _ _ _ _ ad la hx hb hown hts hl k => lv_tableIn hx hb hd (by omega) (by omega) (by rw [← Array.getElem?_toList]; exact ho) e5 (k la hl)) (hk _ _ _ _ (h.1 _ _ e3 e1))
  · exact h.elim
end OPS
end
section
section MEM
variable {l : Launch} {X : Nat × (Nat → Int32)} {q : Md} {d : Nat} {na : Bool} {b : Nat × Nat} {pc : Nat}
theorem en_same {g : Nat → ClassId} {ad : Nat → Nat} {M M' : Mm} {a : Nat} (h0 : mK M' a = mK M a) (h1 : mI M' a = mI M a) (h2 : mL M' a = mL M a) (h3 : mR M' a = mR M a) : en g ad M' a = en g ad M a := by
  have hs : ∀ k t, sv M' a k t = sv M a k t := by
    intro k t
    unfold sv
    rw [h1, h2, h3]
  have he : er ad M' a = er ad M a := by
    unfold er
    rw [h3]
  unfold en eo
  rw [h0, h1, h2, he]
  simp only [hs]
theorem en_o {g : Nat → ClassId} {ad : Nat → Nat} {M : Mm} {a c : Nat} (h : (mK M a).1 = c) (hc : c < 8) : en g ad M a = .inr (c, eo ad M a (tf c)) := by
  unfold en
  rw [h, if_pos hc]
theorem en_i {g : Nat → ClassId} {ad : Nat → Nat} {M : Mm} {a : Nat} (h : (mK M a).1 = 9) : en g ad M a = .inl (g 9, (mK M a).2, .inl (mI M a)) := by
  unfold en
  rw [h, if_neg (by decide), if_neg (by decide), if_pos (by decide)]
theorem en_b {g : Nat → ClassId} {ad : Nat → Nat} {M : Mm} {a : Nat} (h : (mK M a).1 = 8) : en g ad M a = .inl (g 8, (mK M a).2, .inl (mI M a)) := by
  unfold en
  rw [h, if_neg (by decide), if_neg (by decide), if_pos (by decide)]
theorem en_j {g : Nat → ClassId} {ad : Nat → Nat} {M : Mm} {a : Nat} (h : (mK M a).1 = 10) : en g ad M a = .inl (g 10, (mK M a).2, .inr (.inl (mL M a))) := by
  unfold en
  rw [h, if_neg (by decide), if_pos rfl]
theorem en_q {g : Nat → ClassId} {ad : Nat → Nat} {M : Mm} {a c : Nat} (h : (mK M a).1 = c) (hc : 10 < c) : en g ad M a = .inl (g c, (mK M a).2, .inr (.inr (.inr (.inr (er ad M a))))) := by
  unfold en
  rw [h, if_neg (by omega), if_neg (by omega), if_neg (by omega)]
noncomputable def kk (M : Mm) (a c : Nat) : Bool := Nat.blt 0 a && (Nat.ble a (mN M) && Nat.beq (mK M a).1 c)
theorem kk_of {M : Mm} {a c : Nat} (h : kk M a c = true) : 0 < a ∧ a ≤ mN M ∧ (mK M a).1 = c := by
  obtain ⟨h1, h2⟩ := Bool.and_eq_true_iff.mp h
  obtain ⟨h2, h3⟩ := Bool.and_eq_true_iff.mp h2
  exact ⟨Nat.le_of_ble_eq_true h1, Nat.le_of_ble_eq_true h2, Nat.eq_of_beq_eq_true h3⟩
/-- a step that reads or writes the pool -/
theorem Wf.mem {kr : KR} {ls : Ls} {st st' : List Value} {M M' : Mm} {pc' : Nat} (h1 : M'.1 = M.1) (hkO : kO M → kO M')
    (h : ∀ (p : Program) (e : Env) (R : Room) (s : State) (m : MethodId) (args : Array Value) (below : List Frame) (meth : Method) (c : Code) (H : Heap) (locs : List Loc) (cells slots : Nat) (Q : State → Prop) (D : va_G) (g : Nat → ClassId) (ad : Nat → Nat) (A : Nat → Prop) (la : Array Slot), p.tables.exec = Jvm.exec → c.code = q.2.1 → s.vm.findClass q.1.cls = some m.cls → (∀ w ∈ wB, w.before args s = true) → va_K D vwCl (tz g) s → meth.name = q.1.name → c.maxLocals = la.size → d ≤ R.frames → 64 * d ≤ R.locals → va_P D vwCl (wl g ad M) H → va_D A (wl g ad M) → va_S A s.heap H locs →
      (∀ (H1 : Heap) (locs1 : List Loc), va_P D vwCl (wl g ad M') H1 → va_D A (wl g ad M') → va_S A s.heap H1 locs1 → W p l e R s m args below meth c H1 locs1 cells slots Q (F0 m pc' la (st'.map (iv ad)))) → W p l e R s m args below meth c H locs cells slots Q (F0 m pc la (st.map (iv ad))))
    (k : Wf l X q d na b pc' ls st' M' kr) : Wf l X q d na b pc ls st M kr := by
  intro p e R s m args below meth c Q D g ad0 A n0 S0 c0 s0 ad H locs la hf g1 g2 g3 g4 g5 g6 g7 g8 hr hl hk
  obtain ⟨r1, r2, r3, r4, r5, r6, r7, r8⟩ := hr
  have eN : mN M' = mN M := congrArg (fun x => x.1) h1
  have eC : mC M' = mC M := congrArg (fun x => x.2.1) h1
  have eS : mS M' = mS M := congrArg (fun x => x.2.2.1) h1
  refine h p e R s m args below meth c H locs (mC M - c0) (mS M - s0) Q D g ad A la hf.1 hf.2.1 hf.2.2.2.2.2.1 hf.2.2.2.2.2.2.2.1 hf.2.2.2.2.2.2.2.2.2.1 hf.2.2.2.2.2.2.1 (hf.2.2.1.trans hl.1.symm) g1 g2 r1 r2 r3 (fun H1 locs1 p1 p2 p3 => ?_)
  have := k p e R s m args below meth c Q D g ad0 A n0 S0 c0 s0 ad H1 locs1 la hf g1 g2 g3 g4 (by rw [eC]; exact g5) (by rw [eS]; exact g6) (by rw [eC]; exact g7) (by rw [eS]; exact g8) ⟨p1, p2, p3, hkO r4, by rw [eN]; exact r5, by rw [eN]; exact r6, r7, fun z => ⟨(r8 z).1, h1.trans (r8 z).2⟩⟩ hl hk
  rw [eC, eS] at this
  exact this
noncomputable def oG (pc c k t : Nat) : OP := fun kn _ ls st M => match st with
  | .ref a :: st => cond (kk M a c) (kn (pc + 3) ls (sv M a k t :: st) M) False
  | _ => False
theorem ok_get {c k t idx : Nat} {Cn : String} {T : u_T} {N : Nat} (hc : vwCl[c]? = some (Cn, T, N)) (hin : ∀ w ∈ u_ws Cn T N, w ∈ wB) (h8 : c < 8 ∧ k < N ∧ k < (tf c).length ∧ (tf c).getD k 0 = t) (hw : Cond.fieldLink q.1.cls idx (T k).1 (T k).2.1 (T k).2.2.1 ∈ wB) (hd : decode q.2.1 pc = .ok (.getfield idx, 3)) : OK l X q d na b pc (oG pc c k t) := by
  intro kn kr ls st M hk h
  simp only [oG] at h
  split at h
  · rename_i a st
    obtain ⟨h0, h⟩ := condT h
    obtain ⟨a0, a1, a2⟩ := kk_of h0
    refine Wf.mem rfl id (fun p e R s m args below meth c' H locs cells slots Q D g ad A la hx hb hown hts hK hnm hml g1 g2 hP hD hS kx => ?_) (hk _ _ _ _ h)
    rw [List.map_cons, iv_ref a0]
    have he := wl_at (g := g) (ad := ad) a0 a1
    rw [en_o a2 h8.1] at he
    exact va_get hx hb hts hin hown hK hP (a - 1) he hc k h8.2.1 (hts _ hw) (fun _ z => z) (v := iv ad (sv M a k t)) (by rw [eo_at h8.2.2.1, h8.2.2.2]) hd (kx H locs hP hD hS)
  · exact h.elim
theorem wI_o {M : Mm} {a i j b : Nat} {v : Int32} (h : b ≠ a ∨ j ≠ i) : mI (wI M a i v) b j = mI M b j := by
  show (if b = a ∧ j = i then v else M.2.1 b j) = M.2.1 b j
  rw [if_neg (by omega)]
theorem wI_s {M : Mm} {a i : Nat} {v : Int32} : mI (wI M a i v) a i = v := by
  show (if a = a ∧ i = i then v else M.2.1 a i) = v
  rw [if_pos ⟨rfl, rfl⟩]
theorem wL_o {M : Mm} {a i j b : Nat} {v : Int64} (h : b ≠ a ∨ j ≠ i) : mL (wL M a i v) b j = mL M b j := by
  show (if b = a ∧ j = i then v else M.2.2.1 b j) = M.2.2.1 b j
  rw [if_neg (by omega)]
theorem wL_s {M : Mm} {a i : Nat} {v : Int64} : mL (wL M a i v) a i = v := by
  show (if a = a ∧ i = i then v else M.2.2.1 a i) = v
  rw [if_pos ⟨rfl, rfl⟩]
theorem wR_o {M : Mm} {a i j b : Nat} {v : Nat} (h : b ≠ a ∨ j ≠ i) : mR (wR M a i v) b j = mR M b j := by
  show (if b = a ∧ j = i then v else M.2.2.2 b j) = M.2.2.2 b j
  rw [if_neg (by omega)]
theorem wR_s {M : Mm} {a i : Nat} {v : Nat} : mR (wR M a i v) a i = v := by
  show (if a = a ∧ i = i then v else M.2.2.2 a i) = v
  rw [if_pos ⟨rfl, rfl⟩]
theorem wF_o {M : Mm} {a j b : Nat} {f : Nat → Int32} (h : b ≠ a) : mI (wF M a f) b j = mI M b j := by
  show (if b = a then f j else M.2.1 b j) = M.2.1 b j
  rw [if_neg h]
theorem wF_s {M : Mm} {a : Nat} {f : Nat → Int32} : mI (wF M a f) a = f := by
  funext j
  show (if a = a then f j else M.2.1 a j) = f j
  rw [if_pos rfl]
/-- a field's new value: the world of the new memory -/
theorem put_wl {g : Nat → ClassId} {ad : Nat → Nat} {M M' : Mm} {a c k t : Nat} (h1 : M'.1 = M.1) (a0 : 0 < a) (a1 : a ≤ mN M) (a2 : (mK M a).1 = c) (h8 : c < 8) (hk : k < (tf c).length) (ht : (tf c).getD k 0 = t)
    (ho : ∀ b, b ≠ a → mI M' b = mI M b ∧ mL M' b = mL M b ∧ mR M' b = mR M b) (hs : ∀ j, j ≠ k → mI M' a j = mI M a j ∧ mL M' a j = mL M a j ∧ mR M' a j = mR M a j) :
    (wl g ad M).set (a - 1) (ad a, .inr (c, (eo ad M a (tf c)).set k (iv ad (sv M' a k t)))) = wl g ad M' := by
  have hK : ∀ b, mK M' b = mK M b := fun b => congrFun (congrArg (fun x => x.2.2.2) h1) b
  have e := wl_set (g := g) (ad := ad) (M := M) (M' := M') a0 a1 (congrArg (fun x => x.1) h1) (fun b hb => en_same (hK b) (ho b hb).1 (ho b hb).2.1 (ho b hb).2.2)
  rw [← e, en_o (by rw [hK]; exact a2) h8, ← ht]
  rw [eo_set hk (fun j hj => ?_)]
  unfold sv
  rw [(hs j hj).1, (hs j hj).2.1, (hs j hj).2.2]
noncomputable def oPI (pc c k : Nat) : OP := fun kn _ ls st M => match st with
  | .int v :: .ref a :: st => cond (kk M a c) (kn (pc + 3) ls st (wI M a k v)) False
  | _ => False
noncomputable def oPZ (pc c k : Nat) : OP := fun kn _ ls st M => match st with
  | .int v :: .ref a :: st => cond (kk M a c) ((v = 0 ∨ v = 1) ∧ kn (pc + 3) ls st (wI M a k v)) False
  | _ => False
noncomputable def oPL (pc c k : Nat) : OP := fun kn _ ls st M => match st with
  | .long v :: .ref a :: st => cond (kk M a c) (kn (pc + 3) ls st (wL M a k v)) False
  | _ => False
noncomputable def oPR (pc c k : Nat) : OP := fun kn _ ls st M => match st with
  | .ref v :: .ref a :: st => cond (kk M a c && (Nat.blt 0 v && Nat.ble v (mN M))) (kn (pc + 3) ls st (wR M a k v)) False
  | _ => False
theorem ok_putI {c k idx : Nat} {Cn : String} {T : u_T} {N : Nat} (ty0 : Nat → FieldType) (hty : ∀ k, k < N → parseFieldDescriptor (T k).2.2.1 = some (ty0 k)) (hnmf : ∀ a, a < N → ∀ b, b < N → a ≠ b → (T a).2.1 ≠ (T b).2.1) (hc : vwCl[c]? = some (Cn, T, N)) (hin : ∀ w ∈ u_ws Cn T N, w ∈ wB) (h8 : c < 8 ∧ k < N ∧ k < (tf c).length ∧ (tf c).getD k 0 = 0) (hfin : (T k).2.2.2 = false) (hti : parseFieldDescriptor (T k).2.2.1 = some .int) (hw : Cond.fieldLink q.1.cls idx (T k).1 (T k).2.1 (T k).2.2.1 ∈ wB) (hd : decode q.2.1 pc = .ok (.putfield idx, 3)) : OK l X q d na b pc (oPI pc c k) := by
  intro kn kr ls st M hk h
  simp only [oPI] at h
  split at h
  · rename_i v a st
    obtain ⟨h0, h⟩ := condT h
    obtain ⟨a0, a1, a2⟩ := kk_of h0
    refine Wf.mem (M' := wI M a k v) rfl id (fun p e R s m args below meth c' H locs cells slots Q D g ad A la hx hb hown hts hK hnm hml g1 g2 hP hD hS kx => ?_) (hk _ _ _ _ h)
    rw [List.map_cons, List.map_cons, iv_ref a0]
    have he := wl_at (g := g) (ad := ad) a0 a1
    rw [en_o a2 h8.1] at he
    have hset := put_wl (g := g) (ad := ad) (M := M) (M' := wI M a k v) (k := k) rfl a0 a1 a2 h8.1 h8.2.2.1 h8.2.2.2 (fun b hb => ⟨funext fun j => wI_o (Or.inl hb), rfl, rfl⟩) (fun j hj => ⟨wI_o (Or.inr hj), rfl, rfl⟩)
    have hv : iv ad (sv (wI M a k v) a k 0) = iv ad (.int v) := by
      show iv ad (.int (mI (wI M a k v) a k)) = _
      rw [wI_s]
    rw [hv] at hset
    refine va_put hx hb hts hin ty0 hty hnmf hown hK hP hD hS (a - 1) he hc k h8.2.1 (hts _ hw) (fun _ z => z) hfin (ty := .int) hti rfl rfl (by unfold eo; simp; exact h8.2.2.1) hd (fun H1 locs1 p1 p2 p3 => ?_)
    rw [hset] at p1 p2
    exact kx H1 locs1 p1 p2 p3
  · exact h.elim
theorem ok_putZ {c k idx : Nat} {Cn : String} {T : u_T} {N : Nat} (ty0 : Nat → FieldType) (hty : ∀ k, k < N → parseFieldDescriptor (T k).2.2.1 = some (ty0 k)) (hnmf : ∀ a, a < N → ∀ b, b < N → a ≠ b → (T a).2.1 ≠ (T b).2.1) (hc : vwCl[c]? = some (Cn, T, N)) (hin : ∀ w ∈ u_ws Cn T N, w ∈ wB) (h8 : c < 8 ∧ k < N ∧ k < (tf c).length ∧ (tf c).getD k 0 = 0) (hfin : (T k).2.2.2 = false) (hti : parseFieldDescriptor (T k).2.2.1 = some .boolean) (hw : Cond.fieldLink q.1.cls idx (T k).1 (T k).2.1 (T k).2.2.1 ∈ wB) (hd : decode q.2.1 pc = .ok (.putfield idx, 3)) : OK l X q d na b pc (oPZ pc c k) := by
  intro kn kr ls st M hk h
  simp only [oPZ] at h
  split at h
  · rename_i v a st
    obtain ⟨h0, h⟩ := condT h
    obtain ⟨a0, a1, a2⟩ := kk_of h0
    refine Wf.mem (M' := wI M a k v) rfl id (fun p e R s m args below meth c' H locs cells slots Q D g ad A la hx hb hown hts hK hnm hml g1 g2 hP hD hS kx => ?_) (hk _ _ _ _ h.2)
    rw [List.map_cons, List.map_cons, iv_ref a0]
    have he := wl_at (g := g) (ad := ad) a0 a1
    rw [en_o a2 h8.1] at he
    have hset := put_wl (g := g) (ad := ad) (M := M) (M' := wI M a k v) (k := k) rfl a0 a1 a2 h8.1 h8.2.2.1 h8.2.2.2 (fun b hb => ⟨funext fun j => wI_o (Or.inl hb), rfl, rfl⟩) (fun j hj => ⟨wI_o (Or.inr hj), rfl, rfl⟩)
    have hv : iv ad (sv (wI M a k v) a k 0) = iv ad (.int v) := by
      show iv ad (.int (mI (wI M a k v) a k)) = _
      rw [wI_s]
    rw [hv] at hset
    refine va_put hx hb hts hin ty0 hty hnmf hown hK hP hD hS (a - 1) he hc k h8.2.1 (hts _ hw) (fun _ z => z) hfin (ty := .boolean) hti (by rcases h.1 with e | e <;> rw [e] <;> rfl) (by rcases h.1 with e | e <;> rw [e] <;> rfl) (by unfold eo; simp; exact h8.2.2.1) hd (fun H1 locs1 p1 p2 p3 => ?_)
    rw [hset] at p1 p2
    exact kx H1 locs1 p1 p2 p3
  · exact h.elim
theorem ok_putL {c k idx : Nat} {Cn : String} {T : u_T} {N : Nat} (ty0 : Nat → FieldType) (hty : ∀ k, k < N → parseFieldDescriptor (T k).2.2.1 = some (ty0 k)) (hnmf : ∀ a, a < N → ∀ b, b < N → a ≠ b → (T a).2.1 ≠ (T b).2.1) (hc : vwCl[c]? = some (Cn, T, N)) (hin : ∀ w ∈ u_ws Cn T N, w ∈ wB) (h8 : c < 8 ∧ k < N ∧ k < (tf c).length ∧ (tf c).getD k 0 = 1) (hfin : (T k).2.2.2 = false) (hti : parseFieldDescriptor (T k).2.2.1 = some .long) (hw : Cond.fieldLink q.1.cls idx (T k).1 (T k).2.1 (T k).2.2.1 ∈ wB) (hd : decode q.2.1 pc = .ok (.putfield idx, 3)) : OK l X q d na b pc (oPL pc c k) := by
  intro kn kr ls st M hk h
  simp only [oPL] at h
  split at h
  · rename_i v a st
    obtain ⟨h0, h⟩ := condT h
    obtain ⟨a0, a1, a2⟩ := kk_of h0
    refine Wf.mem (M' := wL M a k v) rfl id (fun p e R s m args below meth c' H locs cells slots Q D g ad A la hx hb hown hts hK hnm hml g1 g2 hP hD hS kx => ?_) (hk _ _ _ _ h)
    rw [List.map_cons, List.map_cons, iv_ref a0]
    have he := wl_at (g := g) (ad := ad) a0 a1
    rw [en_o a2 h8.1] at he
    have hset := put_wl (g := g) (ad := ad) (M := M) (M' := wL M a k v) (k := k) rfl a0 a1 a2 h8.1 h8.2.2.1 h8.2.2.2 (fun b hb => ⟨rfl, funext fun j => wL_o (Or.inl hb), rfl⟩) (fun j hj => ⟨rfl, wL_o (Or.inr hj), rfl⟩)
    have hv : iv ad (sv (wL M a k v) a k 1) = iv ad (.long v) := by
      show iv ad (.long (mL (wL M a k v) a k)) = _
      rw [wL_s]
    rw [hv] at hset
    refine va_put hx hb hts hin ty0 hty hnmf hown hK hP hD hS (a - 1) he hc k h8.2.1 (hts _ hw) (fun _ z => z) hfin (ty := .long) hti rfl rfl (by unfold eo; simp; exact h8.2.2.1) hd (fun H1 locs1 p1 p2 p3 => ?_)
    rw [hset] at p1 p2
    exact kx H1 locs1 p1 p2 p3
  · exact h.elim
theorem ok_putRO {Cf : String} {c k idx : Nat} {Cn : String} {T : u_T} {N : Nat} (ty0 : Nat → FieldType) (hty : ∀ k, k < N → parseFieldDescriptor (T k).2.2.1 = some (ty0 k)) (hnmf : ∀ a, a < N → ∀ b, b < N → a ≠ b → (T a).2.1 ≠ (T b).2.1) (hc : vwCl[c]? = some (Cn, T, N)) (hin : ∀ w ∈ u_ws Cn T N, w ∈ wB) (h8 : c < 8 ∧ k < N ∧ k < (tf c).length ∧ (tf c).getD k 0 = 2) (hfin : (T k).2.2.2 = false) (hti : parseFieldDescriptor (T k).2.2.1 = some (.object Cf)) (hw : Cond.fieldLink q.1.cls idx (T k).1 (T k).2.1 (T k).2.2.1 ∈ wB) (hd : decode q.2.1 pc = .ok (.putfield idx, 3)) : OK l X q d na b pc (oPR pc c k) := by
  intro kn kr ls st M hk h
  simp only [oPR] at h
  split at h
  · rename_i v a st
    obtain ⟨h0, h⟩ := condT h
    obtain ⟨h0, v1⟩ := Bool.and_eq_true_iff.mp h0
    obtain ⟨v0, v1⟩ := Bool.and_eq_true_iff.mp v1
    have v0 : 0 < v := Nat.le_of_ble_eq_true v0
    have v1 := Nat.le_of_ble_eq_true v1
    obtain ⟨a0, a1, a2⟩ := kk_of h0
    refine Wf.mem (M' := wR M a k v) rfl (fun z b j => by
      show (if b = a ∧ j = k then v else M.2.2.2 b j) ≤ mN M
      split
      · exact v1
      · exact z b j) (fun p e R s m args below meth c' H locs cells slots Q D g ad A la hx hb hown hts hK hnm hml g1 g2 hP hD hS kx => ?_) (hk _ _ _ _ h)
    rw [List.map_cons, List.map_cons, iv_ref a0, iv_ref v0]
    have he := wl_at (g := g) (ad := ad) a0 a1
    rw [en_o a2 h8.1] at he
    have hset := put_wl (g := g) (ad := ad) (M := M) (M' := wR M a k v) (k := k) rfl a0 a1 a2 h8.1 h8.2.2.1 h8.2.2.2 (fun b hb => ⟨rfl, rfl, funext fun j => wR_o (Or.inl hb)⟩) (fun j hj => ⟨rfl, rfl, wR_o (Or.inr hj)⟩)
    have hv : iv ad (sv (wR M a k v) a k 2) = .ref (ad v) := by
      show iv ad (.ref (mR (wR M a k v) a k)) = _
      rw [wR_s]; exact iv_ref v0
    rw [hv] at hset
    refine va_put hx hb hts hin ty0 hty hnmf hown hK hP hD hS (a - 1) he hc k h8.2.1 (hts _ hw) (fun _ z => z) hfin (ty := .object Cf) hti rfl rfl (by unfold eo; simp; exact h8.2.2.1) hd (fun H1 locs1 p1 p2 p3 => ?_)
    rw [hset] at p1 p2
    exact kx H1 locs1 p1 p2 p3
  · exact h.elim
theorem ok_putRFO {Cf : String} {c k idx : Nat} {Cn : String} {T : u_T} {N : Nat} (ty0 : Nat → FieldType) (hty : ∀ k, k < N → parseFieldDescriptor (T k).2.2.1 = some (ty0 k)) (hnmf : ∀ a, a < N → ∀ b, b < N → a ≠ b → (T a).2.1 ≠ (T b).2.1) (hc : vwCl[c]? = some (Cn, T, N)) (hin : ∀ w ∈ u_ws Cn T N, w ∈ wB) (h8 : c < 8 ∧ k < N ∧ k < (tf c).length ∧ (tf c).getD k 0 = 2) (hfin : (T k).2.2.2 = true) (hini : q.1.name = "<init>") (hdecl : (T k).1 = q.1.cls) (hti : parseFieldDescriptor (T k).2.2.1 = some (.object Cf)) (hw : Cond.fieldLink q.1.cls idx (T k).1 (T k).2.1 (T k).2.2.1 ∈ wB) (hd : decode q.2.1 pc = .ok (.putfield idx, 3)) : OK l X q d na b pc (oPR pc c k) := by
  intro kn kr ls st M hk h
  simp only [oPR] at h
  split at h
  · rename_i v a st
    obtain ⟨h0, h⟩ := condT h
    obtain ⟨h0, v1⟩ := Bool.and_eq_true_iff.mp h0
    obtain ⟨v0, v1⟩ := Bool.and_eq_true_iff.mp v1
    have v0 : 0 < v := Nat.le_of_ble_eq_true v0
    have v1 := Nat.le_of_ble_eq_true v1
    obtain ⟨a0, a1, a2⟩ := kk_of h0
    refine Wf.mem (M' := wR M a k v) rfl (fun z b j => by
      show (if b = a ∧ j = k then v else M.2.2.2 b j) ≤ mN M
      split
      · exact v1
      · exact z b j) (fun p e R s m args below meth c' H locs cells slots Q D g ad A la hx hb hown hts hK hnm hml g1 g2 hP hD hS kx => ?_) (hk _ _ _ _ h)
    rw [List.map_cons, List.map_cons, iv_ref a0, iv_ref v0]
    have he := wl_at (g := g) (ad := ad) a0 a1
    rw [en_o a2 h8.1] at he
    have hset := put_wl (g := g) (ad := ad) (M := M) (M' := wR M a k v) (k := k) rfl a0 a1 a2 h8.1 h8.2.2.1 h8.2.2.2 (fun b hb => ⟨rfl, rfl, funext fun j => wR_o (Or.inl hb)⟩) (fun j hj => ⟨rfl, rfl, wR_o (Or.inr hj)⟩)
    have hv : iv ad (sv (wR M a k v) a k 2) = .ref (ad v) := by
      show iv ad (.ref (mR (wR M a k v) a k)) = _
      rw [wR_s]; exact iv_ref v0
    rw [hv] at hset
    refine va_putF hx hb hts hin ty0 hty hnmf hown hK hP hD hS (a - 1) he hc k h8.2.1 (hts _ hw) (fun _ z => z) hfin (hnm.trans hini) hdecl (ty := .object Cf) hti rfl rfl (by unfold eo; simp; exact h8.2.2.1) hd (fun H1 locs1 p1 p2 p3 => ?_)
    rw [hset] at p1 p2
    exact kx H1 locs1 p1 p2 p3
  · exact h.elim
theorem ok_putRFA {tf0 : FieldType} {c k idx : Nat} {Cn : String} {T : u_T} {N : Nat} (ty0 : Nat → FieldType) (hty : ∀ k, k < N → parseFieldDescriptor (T k).2.2.1 = some (ty0 k)) (hnmf : ∀ a, a < N → ∀ b, b < N → a ≠ b → (T a).2.1 ≠ (T b).2.1) (hc : vwCl[c]? = some (Cn, T, N)) (hin : ∀ w ∈ u_ws Cn T N, w ∈ wB) (h8 : c < 8 ∧ k < N ∧ k < (tf c).length ∧ (tf c).getD k 0 = 2) (hfin : (T k).2.2.2 = true) (hini : q.1.name = "<init>") (hdecl : (T k).1 = q.1.cls) (hti : parseFieldDescriptor (T k).2.2.1 = some (.array tf0)) (hw : Cond.fieldLink q.1.cls idx (T k).1 (T k).2.1 (T k).2.2.1 ∈ wB) (hd : decode q.2.1 pc = .ok (.putfield idx, 3)) : OK l X q d na b pc (oPR pc c k) := by
  intro kn kr ls st M hk h
  simp only [oPR] at h
  split at h
  · rename_i v a st
    obtain ⟨h0, h⟩ := condT h
    obtain ⟨h0, v1⟩ := Bool.and_eq_true_iff.mp h0
    obtain ⟨v0, v1⟩ := Bool.and_eq_true_iff.mp v1
    have v0 : 0 < v := Nat.le_of_ble_eq_true v0
    have v1 := Nat.le_of_ble_eq_true v1
    obtain ⟨a0, a1, a2⟩ := kk_of h0
    refine Wf.mem (M' := wR M a k v) rfl (fun z b j => by
      show (if b = a ∧ j = k then v else M.2.2.2 b j) ≤ mN M
      split
      · exact v1
      · exact z b j) (fun p e R s m args below meth c' H locs cells slots Q D g ad A la hx hb hown hts hK hnm hml g1 g2 hP hD hS kx => ?_) (hk _ _ _ _ h)
    rw [List.map_cons, List.map_cons, iv_ref a0, iv_ref v0]
    have he := wl_at (g := g) (ad := ad) a0 a1
    rw [en_o a2 h8.1] at he
    have hset := put_wl (g := g) (ad := ad) (M := M) (M' := wR M a k v) (k := k) rfl a0 a1 a2 h8.1 h8.2.2.1 h8.2.2.2 (fun b hb => ⟨rfl, rfl, funext fun j => wR_o (Or.inl hb)⟩) (fun j hj => ⟨rfl, rfl, wR_o (Or.inr hj)⟩)
    have hv : iv ad (sv (wR M a k v) a k 2) = .ref (ad v) := by
      show iv ad (.ref (mR (wR M a k v) a k)) = _
      rw [wR_s]; exact iv_ref v0
    rw [hv] at hset
    refine va_putF hx hb hts hin ty0 hty hnmf hown hK hP hD hS (a - 1) he hc k h8.2.1 (hts _ hw) (fun _ z => z) hfin (hnm.trans hini) hdecl (ty := .array tf0) hti rfl rfl (by unfold eo; simp; exact h8.2.2.1) hd (fun H1 locs1 p1 p2 p3 => ?_)
    rw [hset] at p1 p2
    exact kx H1 locs1 p1 p2 p3
  · exact h.elim
/-! arrays -/
theorem vinj {j N : Nat} (h : j < 1000) (h2 : j < N) : vp_in (nI j) N ∧ (nI j).toNatClampNeg = j :=
  ⟨fun z => z.elim (nI_pos (by omega)) (fun z => by rw [nI_clamp (by omega)] at z; omega), nI_clamp (by omega)⟩
noncomputable def oIal (pc : Nat) : OP := fun kn _ ls st M => match st with
  | .int i :: .ref a :: st => cond (kk M a 9) (∃ j : Nat, (i = nI j ∧ j < 1000 ∧ j < (mK M a).2) ∧ kn (pc + 1) ls (.int (mI M a j) :: st) M) False
  | _ => False
noncomputable def oBal (pc : Nat) : OP := fun kn _ ls st M => match st with
  | .int i :: .ref a :: st => cond (kk M a 8) (∃ j : Nat, (i = nI j ∧ j < 1000 ∧ j < (mK M a).2) ∧ kn (pc + 1) ls (.int (mI M a j) :: st) M) False
  | _ => False
noncomputable def oLal (pc : Nat) : OP := fun kn _ ls st M => match st with
  | .int i :: .ref a :: st => cond (kk M a 10) (∃ j : Nat, (i = nI j ∧ j < 1000 ∧ j < (mK M a).2) ∧ kn (pc + 1) ls (.long (mL M a j) :: st) M) False
  | _ => False
noncomputable def oAal (pc c : Nat) : OP := fun kn _ ls st M => match st with
  | .int i :: .ref a :: st => cond (kk M a c) (∃ j : Nat, (i = nI j ∧ j < 1000 ∧ j < (mK M a).2) ∧ kn (pc + 1) ls (.ref (mR M a j) :: st) M) False
  | _ => False
theorem ok_iaload (hd : decode q.2.1 pc = .ok (.iaload, 1)) : OK l X q d na b pc (oIal pc) := by
  intro kn kr ls st M hk h
  simp only [oIal] at h
  split at h
  · rename_i i a st
    obtain ⟨h0, j0, ⟨rfl, j1, j2⟩, h9⟩ := condT h
    clear h
    have h := h9
    clear h9
    obtain ⟨h1, j3⟩ := vinj j1 j2
    rw [← j3] at h
    generalize nI j0 = i at h h1 j3 ⊢
    obtain ⟨a0, a1, a2⟩ := kk_of h0
    refine Wf.mem rfl id (fun p e R s m args below meth c' H locs cells slots Q D g ad A la hx hb hown hts hK hnm hml g1 g2 hP hD hS kx => ?_) (hk _ _ _ _ h)
    rw [List.map_cons, List.map_cons, iv_ref a0]
    have he := wl_at (g := g) (ad := ad) a0 a1
    rw [en_i a2] at he
    exact va_iald hx hb hK hP (a - 1) 1 he rfl h1 hd (kx H locs hP hD hS)
  · exact h.elim
theorem ok_baload (hd : decode q.2.1 pc = .ok (.baload, 1)) : OK l X q d na b pc (oBal pc) := by
  intro kn kr ls st M hk h
  simp only [oBal] at h
  split at h
  · rename_i i a st
    obtain ⟨h0, j0, ⟨rfl, j1, j2⟩, h9⟩ := condT h
    clear h
    have h := h9
    clear h9
    obtain ⟨h1, j3⟩ := vinj j1 j2
    rw [← j3] at h
    generalize nI j0 = i at h h1 j3 ⊢
    obtain ⟨a0, a1, a2⟩ := kk_of h0
    refine Wf.mem rfl id (fun p e R s m args below meth c' H locs cells slots Q D g ad A la hx hb hown hts hK hnm hml g1 g2 hP hD hS kx => ?_) (hk _ _ _ _ h)
    rw [List.map_cons, List.map_cons, iv_ref a0]
    have he := wl_at (g := g) (ad := ad) a0 a1
    rw [en_b a2] at he
    exact va_bald hx hb hK hP (a - 1) 0 he rfl h1 hd (kx H locs hP hD hS)
  · exact h.elim
theorem ok_laload (hd : decode q.2.1 pc = .ok (.laload, 1)) : OK l X q d na b pc (oLal pc) := by
  intro kn kr ls st M hk h
  simp only [oLal] at h
  split at h
  · rename_i i a st
    obtain ⟨h0, j0, ⟨rfl, j1, j2⟩, h9⟩ := condT h
    clear h
    have h := h9
    clear h9
    obtain ⟨h1, j3⟩ := vinj j1 j2
    rw [← j3] at h
    generalize nI j0 = i at h h1 j3 ⊢
    obtain ⟨a0, a1, a2⟩ := kk_of h0
    refine Wf.mem rfl id (fun p e R s m args below meth c' H locs cells slots Q D g ad A la hx hb hown hts hK hnm hml g1 g2 hP hD hS kx => ?_) (hk _ _ _ _ h)
    rw [List.map_cons, List.map_cons, iv_ref a0]
    have he := wl_at (g := g) (ad := ad) a0 a1
    rw [en_j a2] at he
    exact va_lald hx hb hK hP (a - 1) 2 he rfl h1 hd (kx H locs hP hD hS)
  · exact h.elim
theorem ok_aaloadM (hd : decode q.2.1 pc = .ok (.aaload, 1)) : OK l X q d na b pc (oAal pc 11) := by
  intro kn kr ls st M hk h
  simp only [oAal] at h
  split at h
  · rename_i i a st
    obtain ⟨h0, j0, ⟨rfl, j1, j2⟩, h9⟩ := condT h
    clear h
    have h := h9
    clear h9
    obtain ⟨h1, j3⟩ := vinj j1 j2
    rw [← j3] at h
    generalize nI j0 = i at h h1 j3 ⊢
    obtain ⟨a0, a1, a2⟩ := kk_of h0
    refine Wf.mem rfl id (fun p e R s m args below meth c' H locs cells slots Q D g ad A la hx hb hown hts hK hnm hml g1 g2 hP hD hS kx => ?_) (hk _ _ _ _ h)
    rw [List.map_cons, List.map_cons, iv_ref a0]
    have he := wl_at (g := g) (ad := ad) a0 a1
    rw [en_q a2 (by decide)] at he
    have hlt : i.toNatClampNeg < (mK M a).2 := Nat.not_le.mp fun z => h1 (Or.inr z)
    have kx := kx H locs hP hD hS
    rw [List.map_cons, ← er_rf] at kx
    exact W.aald (v := va_rf (er ad M a i.toNatClampNeg)) (ty := .object RX2) hx hb (hP (a - 1) _ he) ((hK.2 3 _ rfl).1 (mK M a).2 (fun j => va_rf (er ad M a j))) rfl (fun z => by cases z) (by show ¬ (i < 0 ∨ (arrV _ _ _).slots.size ≤ _); rw [arrV_size]; exact h1) (by show (arrV _ _ _).slots[_]? = _; rw [arrV_read _ _ hlt]) rfl rfl hd kx
  · exact h.elim
theorem ok_aaloadI (hd : decode q.2.1 pc = .ok (.aaload, 1)) : OK l X q d na b pc (oAal pc 12) := by
  intro kn kr ls st M hk h
  simp only [oAal] at h
  split at h
  · rename_i i a st
    obtain ⟨h0, j0, ⟨rfl, j1, j2⟩, h9⟩ := condT h
    clear h
    have h := h9
    clear h9
    obtain ⟨h1, j3⟩ := vinj j1 j2
    rw [← j3] at h
    generalize nI j0 = i at h h1 j3 ⊢
    obtain ⟨a0, a1, a2⟩ := kk_of h0
    refine Wf.mem rfl id (fun p e R s m args below meth c' H locs cells slots Q D g ad A la hx hb hown hts hK hnm hml g1 g2 hP hD hS kx => ?_) (hk _ _ _ _ h)
    rw [List.map_cons, List.map_cons, iv_ref a0]
    have he := wl_at (g := g) (ad := ad) a0 a1
    rw [en_q a2 (by decide)] at he
    have hlt : i.toNatClampNeg < (mK M a).2 := Nat.not_le.mp fun z => h1 (Or.inr z)
    have kx := kx H locs hP hD hS
    rw [List.map_cons, ← er_rf] at kx
    exact W.aald (v := va_rf (er ad M a i.toNatClampNeg)) (ty := .array .int) hx hb (hP (a - 1) _ he) ((hK.2 4 _ rfl).1 (mK M a).2 (fun j => va_rf (er ad M a j))) rfl (fun z => by cases z) (by show ¬ (i < 0 ∨ (arrV _ _ _).slots.size ≤ _); rw [arrV_size]; exact h1) (by show (arrV _ _ _).slots[_]? = _; rw [arrV_read _ _ hlt]) rfl rfl hd kx
  · exact h.elim
/-- an array's new place: the world of the new memory -/
theorem ast_wl {g : Nat → ClassId} {ad : Nat → Nat} {M M' : Mm} {a : Nat} {e : va_E} (h1 : M'.1 = M.1) (a0 : 0 < a) (a1 : a ≤ mN M) (ho : ∀ b, b ≠ a → mI M' b = mI M b ∧ mL M' b = mL M b ∧ mR M' b = mR M b) (he : en g ad M' a = e) : (wl g ad M).set (a - 1) (ad a, e) = wl g ad M' := by
  have hK : ∀ b, mK M' b = mK M b := fun b => congrFun (congrArg (fun x => x.2.2.2) h1) b
  rw [← he]
  exact wl_set a0 a1 (congrArg (fun x => x.1) h1) (fun b hb => en_same (hK b) (ho b hb).1 (ho b hb).2.1 (ho b hb).2.2)
theorem wI_upd {M : Mm} {a i : Nat} {v : Int32} : mI (wI M a i v) a = upd (mI M a) i v := by
  funext j
  show (if a = a ∧ j = i then v else M.2.1 a j) = if j = i then v else M.2.1 a j
  by_cases hj : j = i
  · rw [if_pos ⟨rfl, hj⟩, if_pos hj]
  · rw [if_neg (fun z => hj z.2), if_neg hj]
theorem wL_upd {M : Mm} {a i : Nat} {v : Int64} : mL (wL M a i v) a = vp_updL (mL M a) i v := by
  funext j
  show (if a = a ∧ j = i then v else M.2.2.1 a j) = if j = i then v else M.2.2.1 a j
  by_cases hj : j = i
  · rw [if_pos ⟨rfl, hj⟩, if_pos hj]
  · rw [if_neg (fun z => hj z.2), if_neg hj]
noncomputable def oIas (pc : Nat) : OP := fun kn _ ls st M => match st with
  | .int v :: .int i :: .ref a :: st => cond (kk M a 9) (∃ j : Nat, (i = nI j ∧ j < 1000 ∧ j < (mK M a).2) ∧ kn (pc + 1) ls st (wI M a j v)) False
  | _ => False
noncomputable def oBas (pc : Nat) : OP := fun kn _ ls st M => match st with
  | .int v :: .int i :: .ref a :: st => cond (kk M a 8) (∃ j : Nat, (i = nI j ∧ j < 1000 ∧ j < (mK M a).2) ∧ kn (pc + 1) ls st (wI M a j v.toInt8.toInt32)) False
  | _ => False
noncomputable def oLas (pc : Nat) : OP := fun kn _ ls st M => match st with
  | .long v :: .int i :: .ref a :: st => cond (kk M a 10) (∃ j : Nat, (i = nI j ∧ j < 1000 ∧ j < (mK M a).2) ∧ kn (pc + 1) ls st (wL M a j v)) False
  | _ => False
noncomputable def oAas (pc : Nat) : OP := fun kn _ ls st M => match st with
  | .ref v :: .int i :: .ref a :: st => cond (kk M a 11 && kk M v 2) (∃ j : Nat, (i = nI j ∧ j < 1000 ∧ j < (mK M a).2) ∧ kn (pc + 1) ls st (wR M a j v)) False
  | _ => False
theorem ok_iastore (hd : decode q.2.1 pc = .ok (.iastore, 1)) : OK l X q d na b pc (oIas pc) := by
  intro kn kr ls st M hk h
  simp only [oIas] at h
  split at h
  · rename_i v i a st
    obtain ⟨h0, j0, ⟨rfl, j1, j2⟩, h9⟩ := condT h
    clear h
    have h := h9
    clear h9
    obtain ⟨h1, j3⟩ := vinj j1 j2
    rw [← j3] at h
    generalize nI j0 = i at h h1 j3 ⊢
    obtain ⟨a0, a1, a2⟩ := kk_of h0
    refine Wf.mem (M' := wI M a i.toNatClampNeg v) rfl id (fun p e R s m args below meth c' H locs cells slots Q D g ad A la hx hb hown hts hK hnm hml g1 g2 hP hD hS kx => ?_) (hk _ _ _ _ h)
    rw [List.map_cons, List.map_cons, List.map_cons, iv_ref a0]
    have he := wl_at (g := g) (ad := ad) a0 a1
    rw [en_i a2] at he
    refine va_iast hx hb hK hP hD hS (a - 1) 1 he rfl h1 hd (fun H1 locs1 p1 p2 p3 => ?_)
    have hset := ast_wl (g := g) (ad := ad) (M := M) (M' := wI M a i.toNatClampNeg v) (e := .inl (g 9, (mK M a).2, .inl (upd (mI M a) i.toNatClampNeg v))) rfl a0 a1 (fun b hb => ⟨funext fun j => wI_o (Or.inl hb), rfl, rfl⟩) (by rw [en_i (M := wI M a i.toNatClampNeg v) a2, wI_upd]; rfl)
    rw [hset] at p1 p2
    exact kx H1 locs1 p1 p2 p3
  · exact h.elim
theorem ok_bastore (hd : decode q.2.1 pc = .ok (.bastore, 1)) : OK l X q d na b pc (oBas pc) := by
  intro kn kr ls st M hk h
  simp only [oBas] at h
  split at h
  · rename_i v i a st
    obtain ⟨h0, j0, ⟨rfl, j1, j2⟩, h9⟩ := condT h
    clear h
    have h := h9
    clear h9
    obtain ⟨h1, j3⟩ := vinj j1 j2
    rw [← j3] at h
    generalize nI j0 = i at h h1 j3 ⊢
    obtain ⟨a0, a1, a2⟩ := kk_of h0
    refine Wf.mem (M' := wI M a i.toNatClampNeg v.toInt8.toInt32) rfl id (fun p e R s m args below meth c' H locs cells slots Q D g ad A la hx hb hown hts hK hnm hml g1 g2 hP hD hS kx => ?_) (hk _ _ _ _ h)
    rw [List.map_cons, List.map_cons, List.map_cons, iv_ref a0]
    have he := wl_at (g := g) (ad := ad) a0 a1
    rw [en_b a2] at he
    refine va_bast hx hb hK hP hD hS (a - 1) 0 he rfl h1 hd (fun H1 locs1 p1 p2 p3 => ?_)
    have hset := ast_wl (g := g) (ad := ad) (M := M) (M' := wI M a i.toNatClampNeg v.toInt8.toInt32) (e := .inl (g 8, (mK M a).2, .inl (upd (mI M a) i.toNatClampNeg (vp_nar .byte v)))) rfl a0 a1 (fun b hb => ⟨funext fun j => wI_o (Or.inl hb), rfl, rfl⟩) (by rw [en_b (M := wI M a i.toNatClampNeg v.toInt8.toInt32) a2, wI_upd]; rfl)
    rw [hset] at p1 p2
    exact kx H1 locs1 p1 p2 p3
  · exact h.elim
theorem ok_lastore (hd : decode q.2.1 pc = .ok (.lastore, 1)) : OK l X q d na b pc (oLas pc) := by
  intro kn kr ls st M hk h
  simp only [oLas] at h
  split at h
  · rename_i v i a st
    obtain ⟨h0, j0, ⟨rfl, j1, j2⟩, h9⟩ := condT h
    clear h
    have h := h9
    clear h9
    obtain ⟨h1, j3⟩ := vinj j1 j2
    rw [← j3] at h
    generalize nI j0 = i at h h1 j3 ⊢
    obtain ⟨a0, a1, a2⟩ := kk_of h0
    refine Wf.mem (M' := wL M a i.toNatClampNeg v) rfl id (fun p e R s m args below meth c' H locs cells slots Q D g ad A la hx hb hown hts hK hnm hml g1 g2 hP hD hS kx => ?_) (hk _ _ _ _ h)
    rw [List.map_cons, List.map_cons, List.map_cons, iv_ref a0]
    have he := wl_at (g := g) (ad := ad) a0 a1
    rw [en_j a2] at he
    refine va_last hx hb hK hP hD hS (a - 1) 2 he rfl h1 hd (fun H1 locs1 p1 p2 p3 => ?_)
    have hset := ast_wl (g := g) (ad := ad) (M := M) (M' := wL M a i.toNatClampNeg v) (e := .inl (g 10, (mK M a).2, .inr (.inl (vp_updL (mL M a) i.toNatClampNeg v)))) rfl a0 a1 (fun b hb => ⟨rfl, funext fun j => wL_o (Or.inl hb), rfl⟩) (by rw [en_j (M := wL M a i.toNatClampNeg v) a2, wL_upd]; rfl)
    rw [hset] at p1 p2
    exact kx H1 locs1 p1 p2 p3
  · exact h.elim
theorem ok_aastore (hd : decode q.2.1 pc = .ok (.aastore, 1)) : OK l X q d na b pc (oAas pc) := by
  intro kn kr ls st M hk h
  simp only [oAas] at h
  split at h
  · rename_i v i a st
    obtain ⟨h0, j0, ⟨rfl, j1, j2⟩, h9⟩ := condT h
    clear h
    have h := h9
    clear h9
    obtain ⟨h1, j3⟩ := vinj j1 j2
    rw [← j3] at h
    generalize nI j0 = i at h h1 j3 ⊢
    obtain ⟨h0, hv⟩ := Bool.and_eq_true_iff.mp h0
    obtain ⟨a0, a1, a2⟩ := kk_of h0
    obtain ⟨v0, v1, v2⟩ := kk_of hv
    refine Wf.mem (M' := wR M a i.toNatClampNeg v) rfl (fun z b j => by
      show (if b = a ∧ j = i.toNatClampNeg then v else M.2.2.2 b j) ≤ mN M
      split
      · exact v1
      · exact z b j) (fun p e R s m args below meth c' H locs cells slots Q D g ad A la hx hb hown hts hK hnm hml g1 g2 hP hD hS kx => ?_) (hk _ _ _ _ h)
    rw [List.map_cons, List.map_cons, List.map_cons, iv_ref a0, iv_ref v0]
    have he := wl_at (g := g) (ad := ad) a0 a1
    rw [en_q a2 (by decide)] at he
    have hev := wl_at (g := g) (ad := ad) v0 v1
    rw [en_o v2 (by decide)] at hev
    refine va_astq (r := (RX2, TX2, 6)) hx hb hK hP hD hS (a - 1) 3 (v - 1) 2 he rfl hev rfl h1 hd (fun H1 locs1 p1 p2 p3 => ?_)
    have hset := ast_wl (g := g) (ad := ad) (M := M) (M' := wR M a i.toNatClampNeg v) (e := .inl (g 11, (mK M a).2, .inr (.inr (.inr (.inr (va_up (er ad M a) i.toNatClampNeg (some (ad v)))))))) rfl a0 a1 (fun b hb => ⟨rfl, rfl, funext fun j => wR_o (Or.inl hb)⟩) ?_
    · rw [hset] at p1 p2
      exact kx H1 locs1 p1 p2 p3
    · rw [en_q (M := wR M a i.toNatClampNeg v) a2 (by decide)]
      have e2 : er ad (wR M a i.toNatClampNeg v) a = va_up (er ad M a) i.toNatClampNeg (some (ad v)) := by
        funext j
        unfold er va_up
        by_cases hj : j = i.toNatClampNeg
        · rw [if_pos hj, hj, wR_s]
          cases v with
          | zero => exact absurd v0 (Nat.lt_irrefl 0)
          | succ n => rfl
        · rw [if_neg hj, wR_o (Or.inr hj)]
      rw [e2]
      rfl
  · exact h.elim
/-! the script -/
noncomputable def oScd (X : Nat × (Nat → Int32)) (pc : Nat) : OP := fun kn _ ls st M => match st with
  | .int i :: .ref 4999 :: st => vp_in i X.1 ∧ kn (pc + 1) ls (.int (X.2 i.toNatClampNeg) :: st) M
  | _ => False
noncomputable def oScl (X : Nat × (Nat → Int32)) (pc : Nat) : OP := fun kn _ ls st M => match st with
  | .ref 4999 :: st => kn (pc + 1) ls (.int (Int32.ofNat X.1) :: st) M
  | _ => False
theorem ok_scd (hd : decode q.2.1 pc = .ok (.iaload, 1)) : OK l X q d na b pc (oScd X pc) := by
  intro kn kr ls st M hk h
  simp only [oScd] at h
  split at h
  · intro p e R s m args below meth c Q D g ad0 A n0 S0 c0 s0 ad H locs la hf g1 g2 g3 g4 g5 g6 g7 g8 hr hl hk2
    obtain ⟨k1, k2, k3⟩ := hf.2.2.2.2.2.2.2.2.2.2.2.2.2.2.2
    have ea : ad 4999 = ad0 4999 := hr.2.2.2.2.2.2.1 4999 (Or.inr (Nat.le_refl _))
    rw [List.map_cons, List.map_cons, iv_ref (by decide), ea]
    exact va_sld hf.1 hf.2.1 k1 k2 k3 hr.2.2.1 h.1 hd (hk _ _ _ _ h.2 p e R s m args below meth c Q D g ad0 A n0 S0 c0 s0 ad H locs la hf g1 g2 g3 g4 g5 g6 g7 g8 hr hl hk2)
  · exact h.elim
theorem ok_scl (hd : decode q.2.1 pc = .ok (.arraylength, 1)) : OK l X q d na b pc (oScl X pc) := by
  intro kn kr ls st M hk h
  simp only [oScl] at h
  split at h
  · intro p e R s m args below meth c Q D g ad0 A n0 S0 c0 s0 ad H locs la hf g1 g2 g3 g4 g5 g6 g7 g8 hr hl hk2
    obtain ⟨k1, k2, k3⟩ := hf.2.2.2.2.2.2.2.2.2.2.2.2.2.2.2
    have ea : ad 4999 = ad0 4999 := hr.2.2.2.2.2.2.1 4999 (Or.inr (Nat.le_refl _))
    rw [List.map_cons, iv_ref (by decide), ea]
    exact va_slen hf.1 hf.2.1 k1 k2 k3 hr.2.2.1 hd (hk _ _ _ _ h p e R s m args below meth c Q D g ad0 A n0 S0 c0 s0 ad H locs la hf g1 g2 g3 g4 g5 g6 g7 g8 hr hl hk2)
  · exact h.elim
end MEM
end
section
section CALLS
variable {l : Launch} {X : Nat × (Nat → Int32)} {q : Md} {d : Nat} {na : Bool} {b : Nat × Nat} {pc : Nat}
noncomputable def pn : Nat → List Value → List Value → Option (List Value × List Value)
  | 0, st, acc => some (acc, st)
  | n + 1, st, acc => match st with
    | [] => none
    | v :: t => pn n t (v :: acc)
theorem pn_of : ∀ {n : Nat} {st acc av rest : List Value}, pn n st acc = some (av, rest) → ∃ as : List Value, av = as ++ acc ∧ as.length = n ∧ st = as.reverse ++ rest
  | 0, st, acc, av, rest, h => by
    cases h
    exact ⟨[], rfl, rfl, rfl⟩
  | n + 1, [], acc, av, rest, h => by cases h
  | n + 1, v :: t, acc, av, rest, h => by
    obtain ⟨as, h1, h2, h3⟩ := pn_of (n := n) (st := t) (acc := v :: acc) h
    refine ⟨as ++ [v], ?_, ?_, ?_⟩
    · rw [h1]; simp
    · simp [h2]
    · rw [h3]; simp
theorem pn_0 {n : Nat} {st av rest : List Value} (h : pn n st [] = some (av, rest)) : av.length = n ∧ st = av.reverse ++ rest := by
  obtain ⟨as, h1, h2, h3⟩ := pn_of h
  rw [List.append_nil] at h1
  subst h1
  exact ⟨h2, h3⟩
noncomputable def cs : List Value → Nat
  | [] => 0
  | v :: t => v.category + cs t
theorem cs_of (ad : Nat → Nat) : ∀ st : List Value, ((st.map (iv ad)).map fun v => v.category).sum = cs st
  | [] => rfl
  | v :: t => by
    rw [List.map_cons, List.map_cons, List.sum_cons, cs_of ad t, iv_cat]
    rfl
theorem wB_good {q' : Md} (h : Cond.code q'.1 q'.2.1 q'.2.2.1 q'.2.2.2 ∈ wB) : GoodIn wB (wz q') := by
  have hb : ∀ w ∈ wB, w ∈ wB ∧ ((w.onTables && w.keeps) = true ∨ ∃ ty, w = .arrayClass ty) := fun w hw => ⟨hw, good_of_word (List.mem_filter.mp hw).2⟩
  intro w hw
  rcases List.mem_cons.mp hw with e | hw
  · rw [e]; exact hb _ h
  · exact hb w hw
theorem pz_pre {D : va_G} {g : Nat → ClassId} {ad : Nat → Nat} {A : Nat → Prop} {av : List Value} {M : Mm} {s : State} {H : Heap} (hP : va_P D vwCl (wl g ad M) H) (hD : va_D A (wl g ad M)) (hA : ∀ a, H.size ≤ a → A a) (hk : kO M) (hn : mN M ≤ 4000) (hs : sx D g ad X A s H) :
    FrameBlind (pz D g ad X A av M) ∧ ∀ U : State, U.heap = H → s.WarmedH U.vm → pz D g ad X A av M (av.map (iv ad)).toArray U := by
  refine ⟨fun a U g' mk z => ?_, fun U hU hW => ⟨rfl, by rw [hU]; exact hP, hD, by rw [hU]; exact hA, hk, hn, by rw [hU]; exact sx_warm hW hs⟩⟩
  obtain ⟨z1, z2, z3, z4, z5, z6, z7⟩ := z
  exact ⟨z1, z2, z3, z4, z5, z6, sx_same rfl z7⟩
/-- a call that makes nothing -/
theorem Wf.call {kr kr' : KR} {ls : Ls} {st rest : List Value} {M : Mm} (hk : ∀ r M', kr' r M' → Wf l X q (d + 1) na b (pc + 3) ls (r.toList ++ rest) M' kr)
    (h : ∀ (p : Program) (e : Env) (R : Room) (s : State) (m : MethodId) (args : Array Value) (below : List Frame) (meth : Method) (c : Code) (H : Heap) (locs : List Loc) (cells slots : Nat) (D : va_G) (g : Nat → ClassId) (ad : Nat → Nat) (A : Nat → Prop) (la : Array Slot), p.tables.exec = Jvm.exec → c.code = q.2.1 → c.maxLocals = q.2.2.1 → la.size = q.2.2.1 → s.vm.findClass q.1.cls = some m.cls → (∀ w ∈ wB, w.before args s = true) → d + 1 ≤ R.frames → 64 * (d + 1) ≤ R.locals → cells + 0 ≤ R.cells ∧ slots + 0 ≤ R.slots → va_K D vwCl (tz g) s → (∀ x ∈ wN, va_Nw (.methodLinkNest x.1 x.2.1 x.2.2 RX6) s) → ks ad A s H → va_P D vwCl (wl g ad M) H → (∀ av, FrameBlind (pz D g ad X A av M) ∧ ∀ U : State, U.heap = H → s.WarmedH U.vm → pz D g ad X A av M (av.map (iv ad)).toArray U) →
      ∃ a0 : Array Value, va_Run p l e R s m args below meth c H locs cells slots 0 0 (F0 m pc la (st.map (iv ad))) (rest.map (iv ad)) (qz D g ad A true M kr' a0) A) :
    Wf l X q (d + 1) na b pc ls st M kr := by
  intro p e R s m args below meth c Q D g ad0 A n0 S0 c0 s0 ad H locs la hf g1 g2 g3 g4 g5 g6 g7 g8 hr hl hk2
  obtain ⟨r1, r2, r3, r4, r5, r6, r7, r8⟩ := hr
  have hs := sx_kept (sx_ad (ad' := ad) (fun n hn => r7 n (Or.inr hn)) hf.2.2.2.2.2.2.2.2.2) r3.1 r3.2.1
  have hA := hf.2.2.2.2.2.2.2.2.1
  obtain ⟨a0, hrun⟩ := h p e R s m args below meth c H locs (mC M - c0) (mS M - s0) D g ad A la hf.1 hf.2.1 hf.2.2.1 hl.1 hf.2.2.2.2.2.1 hf.2.2.2.2.2.2.2.1 g1 g2 (by omega) hs.1 hs.2.1 hs.2.2.2.1 r1 (fun av => pz_pre r1 r2 (fun a ha => hA a (Nat.le_trans r3.1 ha)) r4 r6 hs)
  intro T hT Xs
  obtain ⟨v, st₀, t, T', L, h0, X', hL, e1, e2, hq, stp⟩ := hrun T hT Xs
  obtain ⟨r, M', ad', o1, o2, o3, o4, o5, o6, o7, o8, o9, o10⟩ := hq
  obtain ⟨rfl, hM⟩ := o3 rfl
  have ev : v = r.map (iv ad') := by cases o1; rfl
  subst ev
  have eN : mN M' = mN M := congrArg (fun x => x.1) hM
  have eC : mC M' = mC M := congrArg (fun x => x.2.1) hM
  have eS : mS M' = mS M := congrArg (fun x => x.2.2.1) hM
  have hS' : va_S A s.heap t.heap (locs ++ L) := by
    obtain ⟨z1, z2⟩ := o10
    rw [h0] at z1 z2
    exact ⟨Nat.le_trans r3.1 z1, fun a ha hA' => by rw [z2 a (Nat.lt_of_lt_of_le ha r3.1) hA']; exact r3.2.1 a ha hA', fun x hx => by
      rcases List.mem_append.mp hx with z | z
      · exact r3.2.2 x z
      · exact hL x z⟩
  have hw := hk r M' o2 p e R s m args below meth c Q D g ad0 A n0 S0 c0 s0 ad' t.heap (locs ++ L) la hf g1 g2 g3 g4 (by rw [eC]; exact g5) (by rw [eS]; exact g6) (by rw [eC]; exact g7) (by rw [eS]; exact g8) ⟨o8, o9, hS', o7, by rw [eN]; exact r5, by rw [eN]; exact r6, r7, fun z => ⟨(r8 z).1, hM.trans (r8 z).2⟩⟩ hl hk2
  rw [eC, eS] at hw
  obtain ⟨t2, a1, b1⟩ := hw T' e1 X'
  refine ⟨t2, stp t2 ?_, b1⟩
  have es : (r.toList ++ rest).map (iv ad') = (r.map (iv ad')).toList ++ rest.map (iv ad') := by cases r <;> simp
  rw [es] at a1
  exact a1
/-! the calls -/
noncomputable def oCv (l : Launch) (X : Nat × (Nat → Int32)) (d pc : Nat) (q' : Md) (c n : Nat) : OP := fun kn _ ls st M => match pn (n + 1) st [] with
  | some (.ref a :: as, rest) => cond (kk M a c && Nat.ble (cs rest) 8) (Ev l X q' d true 0 0 (.ref a :: as) M (fun r M' => kn (pc + 3) ls (r.toList ++ rest) M')) False
  | _ => False
noncomputable def oCs (l : Launch) (X : Nat × (Nat → Int32)) (d pc : Nat) (q' : Md) (n : Nat) : OP := fun kn _ ls st M => match pn n st [] with
  | some (as, rest) => cond (Nat.ble (cs rest) 8) (Ev l X q' d true 0 0 as M (fun r M' => kn (pc + 3) ls (r.toList ++ rest) M')) False
  | _ => False
theorem ok_cv {q' : Md} {c n idx : Nat} {T : u_T} {N : Nat} (hW : cV q' n) (hc : vwCl[c]? = some (q'.1.cls, T, N)) (h8 : c < 8) (hw : Cond.methodLink q.1.cls idx q'.1 ∈ wB) (hd : decode q.2.1 pc = .ok (.invokevirtual idx, 3)) : OK l X q (d + 1) na b pc (oCv l X d pc q' c n) := by
  intro kn kr ls st M hk h
  simp only [oCv] at h
  split at h
  · rename_i a as rest e0
    obtain ⟨h0, h⟩ := condT h
    obtain ⟨h0, h1⟩ := Bool.and_eq_true_iff.mp h0
    obtain ⟨a0, a1, a2⟩ := kk_of h0
    have h1 := Nat.le_of_ble_eq_true h1
    obtain ⟨n1, n2⟩ := pn_0 e0
    refine Wf.call (rest := rest) (kr' := fun r M' => kn (pc + 3) ls (r.toList ++ rest) M') (fun r M' z => hk _ _ _ _ z) (fun p e R s m args below meth c' H locs cells slots D g ad A la hx hb hml hla hown hts g1 g2 g3 hK hN hks hP hp => ?_)
    have he := wl_at (g := g) (ad := ad) a0 a1
    rw [en_o a2 h8] at he
    have hR : (rz d 0 0).frames + 1 ≤ R.frames ∧ 8 + (q'.2.2.1 + 11) + (rz d 0 0).locals ≤ R.locals := ⟨g1, by have := hW.1.2.2.2; show 8 + (q'.2.2.1 + 11) + 64 * d ≤ _; omega⟩
    refine ⟨_, va_runV (As := as.map (iv ad)) (rest := rest.map (iv ad)) (b := ad a) (C := q'.1.cls) ⟨hx, hb, hml, hown, hts⟩ (h D g ad A) ⟨callB_of n hts (wB_good hW.1.1) rfl rfl rfl (hts _ hW.1.2.1) (hts _ hw) hW.1.2.2.1 hR, hts _ hW.2.1, hts _ hW.2.2⟩ ⟨(hp _).1, va_recv hK hP hc he, fun U hU hW' => ?_⟩ rfl (by rw [List.length_map]; simpa using n1) hla ?_ (lv_room (by rw [cs_of]; exact h1)) hd g3⟩
    · have := (hp (.ref a :: as)).2 U hU hW'
      rw [List.map_cons, iv_ref a0] at this
      exact this
    · show st.map (iv ad) = _
      rw [n2, ← iv_ref a0]
      simp
  · exact h.elim
theorem ok_cs {q' : Md} {n idx : Nat} (hW : cT q' n) (hw : Cond.methodLink q.1.cls idx q'.1 ∈ wB) (hd : decode q.2.1 pc = .ok (.invokestatic idx, 3)) : OK l X q (d + 1) na b pc (oCs l X d pc q' n) := by
  intro kn kr ls st M hk h
  simp only [oCs] at h
  split at h
  · rename_i as rest e0
    obtain ⟨h1, h⟩ := condT h
    have h1 := Nat.le_of_ble_eq_true h1
    obtain ⟨n1, n2⟩ := pn_0 e0
    refine Wf.call (rest := rest) (kr' := fun r M' => kn (pc + 3) ls (r.toList ++ rest) M') (fun r M' z => hk _ _ _ _ z) (fun p e R s m args below meth c' H locs cells slots D g ad A la hx hb hml hla hown hts g1 g2 g3 hK hN hks hP hp => ?_)
    have hR : (rz d 0 0).frames + 1 ≤ R.frames ∧ 8 + (q'.2.2.1 + 11) + (rz d 0 0).locals ≤ R.locals := ⟨g1, by have := hW.1.2.2.2; show 8 + (q'.2.2.1 + 11) + 64 * d ≤ _; omega⟩
    refine ⟨_, va_runS (As := as.map (iv ad)) (rest := rest.map (iv ad)) ⟨hx, hb, hml, hown, hts⟩ (h D g ad A) ⟨callB_of n hts (wB_good hW.1.1) rfl rfl rfl (hts _ hW.1.2.1) (hts _ hw) hW.1.2.2.1 hR, hts _ hW.2⟩ (hp _) rfl (by rw [List.length_map]; exact n1) hla ?_ (lv_room (by rw [cs_of]; exact h1)) hd g3⟩
    show st.map (iv ad) = _
    rw [n2]
    simp
  · exact h.elim
/-- a nest mate's static method -/
theorem ok_csN {q' : Md} {n idx : Nat} (hW : cT q' n) (hw : (q.1.cls, idx, q'.1) ∈ wN) (hd : decode q.2.1 pc = .ok (.invokestatic idx, 3)) : OK l X q (d + 1) na b pc (oCs l X d pc q' n) := by
  intro kn kr ls st M hk h
  simp only [oCs] at h
  split at h
  · rename_i as rest e0
    obtain ⟨h1, h⟩ := condT h
    have h1 := Nat.le_of_ble_eq_true h1
    obtain ⟨n1, n2⟩ := pn_0 e0
    refine Wf.call (rest := rest) (kr' := fun r M' => kn (pc + 3) ls (r.toList ++ rest) M') (fun r M' z => hk _ _ _ _ z) (fun p e R s m args below meth c' H locs cells slots D g ad A la hx hb hml hla hown hts g1 g2 g3 hK hN hks hP hp => ?_)
    have hR : (rz d 0 0).frames + 1 ≤ R.frames ∧ 8 + (q'.2.2.1 + 11) + (rz d 0 0).locals ≤ R.locals := ⟨g1, by have := hW.1.2.2.2; show 8 + (q'.2.2.1 + 11) + 64 * d ≤ _; omega⟩
    refine ⟨_, va_runSN (As := as.map (iv ad)) (rest := rest.map (iv ad)) ⟨hx, hb, hml, hown, hts⟩ (h D g ad A) ⟨va_cnB n hts (wB_good hW.1.1) rfl rfl rfl (hN _ hw) (hts _ hW.1.2.1) hW.1.2.2.1 hR, hts _ hW.2, trivial⟩ (hp _) rfl (by rw [List.length_map]; exact n1) hla ?_ (lv_room (by rw [cs_of]; exact h1)) hd g3⟩
    show st.map (iv ad) = _
    rw [n2]
    simp
  · exact h.elim
/-- a String constant's method -/
noncomputable def oCq (l : Launch) (X : Nat × (Nat → Int32)) (d pc : Nat) (q' : Md) (n : Nat) : OP := fun kn _ ls st M => match pn (n + 1) st [] with
  | some (.ref a :: as, rest) => cond (Nat.ble (cs rest) 8) (5000 ≤ a ∧ a < 5042 ∧ Ev l X q' d true 0 0 (.ref a :: as) M (fun r M' => kn (pc + 3) ls (r.toList ++ rest) M')) False
  | _ => False
theorem ok_cq {q' : Md} {n idx : Nat} (hW : cV q' n) (hcl : q'.1.cls = "java/lang/String") (hw : Cond.methodLink q.1.cls idx q'.1 ∈ wB) (hd : decode q.2.1 pc = .ok (.invokevirtual idx, 3)) : OK l X q (d + 1) na b pc (oCq l X d pc q' n) := by
  intro kn kr ls st M hk h
  simp only [oCq] at h
  split at h
  · rename_i a as rest e0
    obtain ⟨h1, b1, b2, h⟩ := condT h
    obtain ⟨a', ha⟩ : ∃ z : Nat, z = a := ⟨a, rfl⟩
    subst ha
    have a1 : 5000 ≤ a' := b1
    have a2 : a' < 5042 := b2
    have h1 := Nat.le_of_ble_eq_true h1
    have a0 : 0 < a' := by omega
    obtain ⟨n1, n2⟩ := pn_0 e0
    refine Wf.call (rest := rest) (kr' := fun r M' => kn (pc + 3) ls (r.toList ++ rest) M') (fun r M' z => hk _ _ _ _ z) (fun p e R s m args below meth c' H locs cells slots D g ad A la hx hb hml hla hown hts g1 g2 g3 hK hN hks hP hp => ?_)
    have hR : (rz d 0 0).frames + 1 ≤ R.frames ∧ 8 + (q'.2.2.1 + 11) + (rz d 0 0).locals ≤ R.locals := ⟨g1, by have := hW.1.2.2.2; show 8 + (q'.2.2.1 + 11) + 64 * d ≤ _; omega⟩
    obtain ⟨cell, c1, c2, c3, -⟩ := (hks (a' - 5000) (by omega)).1
    rw [show 5000 + (a' - 5000) = a' by omega] at c1
    refine ⟨_, va_runV (As := as.map (iv ad)) (rest := rest.map (iv ad)) (b := ad a') (C := q'.1.cls) ⟨hx, hb, hml, hown, hts⟩ (h D g ad A) ⟨callB_of n hts (wB_good hW.1.1) rfl rfl rfl (hts _ hW.1.2.1) (hts _ hw) hW.1.2.2.1 hR, hts _ hW.2.1, hts _ hW.2.2⟩ ⟨(hp _).1, ⟨cell, c1, c2, by rw [hcl]; exact c3⟩, fun U hU hW' => ?_⟩ rfl (by rw [List.length_map]; simpa using n1) hla ?_ (lv_room (by rw [cs_of]; exact h1)) hd g3⟩
    · have := (hp (.ref a' :: as)).2 U hU hW'
      rw [List.map_cons, iv_ref a0] at this
      exact this
    · show st.map (iv ad) = _
      rw [n2, ← iv_ref a0]
      simp
  · exact h.elim
end CALLS
end
section
section MORE
variable {l : Launch} {X : Nat × (Nat → Int32)} {q : Md} {d : Nat} {na : Bool} {b : Nat × Nat} {pc : Nat}
/-! String constants -/
noncomputable def oSc (pc n i : Nat) : OP := fun kn _ ls st M => kn (pc + n) ls (.ref (5000 + i) :: st) M
theorem va_ldcwS {p : Program} {e : Env} {R : Room} {s : State} {m : MethodId} {args : Array Value} {below : List Frame} {meth : Method} {c : Code} {T : State} {locs : List Loc} {cells slots : Nat} (Xs : Stand p l e R s m args below meth c T locs cells slots) (hexec : p.tables.exec = Jvm.exec) {own text : String} {index : Nat} {a : Addr} (hown : s.vm.findClass own = some m.cls)
    (hconst : (Cond.stringRef own index text).before args s = true) (hev : (Term.string own index).eval args s none [] s = some (.ref a)) {g : JFrame} (hg : g.method = m) (hdg : decode c.code g.pc = .ok (.ldc_w index, 3)) :
    ∀ target, Steps p.tables e below (T.setTop { g with pc := g.pc + 3, stack := .ref a :: g.stack }) target → Steps p.tables e below (T.setTop g) target := by
  obtain ⟨k, cf, i, a', hk, hcf, hcp, -, hr, hev'⟩ := Cond.stringRef_spec hown hconst
  cases hev.symm.trans hev'
  obtain ⟨k', hk', he⟩ := Xs.warmed.alike.2.2 _ _ hk
  have hr' : k'.resolved[index]? = some (some (.string a)) := by
    rcases Xs.warmed.entry hk hk' index with h | ⟨h, -⟩
    · rw [h]; exact hr
    · rw [hr] at h; cases h
  intro target hrest
  subst hg
  jvm_step Xs.here [hexec, hdg, ldc_w.wp_string (e := e) (s := T) (f := g) Xs.here.top hk' (by rw [he]; exact hcf) hcp hr']
  exact hrest
theorem ok_sc {i idx : Nat} {tx : String} (hw : (q.1.cls, idx, tx, i) ∈ tQ) (hd : decode q.2.1 pc = .ok (.ldc idx, 2)) : OK l X q d na b pc (oSc pc 2 i) := by
  intro kn kr ls st M hk h p e R s m args below meth c Q D g ad0 A n0 S0 c0 s0 ad H locs la hf g1 g2 g3 g4 g5 g6 g7 g8 hr hl hk2
  have hZ := hf.2.2.2.2.2.2.2.2.2.2.2.2.2.1 _ hw
  have ea : ad (5000 + i) = ad0 (5000 + i) := hr.2.2.2.2.2.2.1 _ (Or.inr (by omega))
  have hW := hk _ _ _ _ h p e R s m args below meth c Q D g ad0 A n0 S0 c0 s0 ad H locs la hf g1 g2 g3 g4 g5 g6 g7 g8 hr hl hk2
  rw [List.map_cons, iv_ref (by omega), ea] at hW
  exact va_ldcS hf.1 hf.2.1 hf.2.2.2.2.2.1 hZ hd hW
theorem ok_scw {i idx : Nat} {tx : String} (hw : (q.1.cls, idx, tx, i) ∈ tQ) (hd : decode q.2.1 pc = .ok (.ldc_w idx, 3)) : OK l X q d na b pc (oSc pc 3 i) := by
  intro kn kr ls st M hk h p e R s m args below meth c Q D g ad0 A n0 S0 c0 s0 ad H locs la hf g1 g2 g3 g4 g5 g6 g7 g8 hr hl hk2
  have hZ := hf.2.2.2.2.2.2.2.2.2.2.2.2.2.1 _ hw
  have ea : ad (5000 + i) = ad0 (5000 + i) := hr.2.2.2.2.2.2.1 _ (Or.inr (by omega))
  have hW := hk _ _ _ _ h p e R s m args below meth c Q D g ad0 A n0 S0 c0 s0 ad H locs la hf g1 g2 g3 g4 g5 g6 g7 g8 hr hl hk2
  rw [List.map_cons, iv_ref (by omega), ea] at hW
  intro T hT Xs
  obtain ⟨t, a1, b1⟩ := hW T hT Xs
  exact ⟨t, va_ldcwS Xs hf.1 hf.2.2.2.2.2.1 (text := tx) hZ.1 hZ.2 (g := F0 m pc la (st.map (iv ad))) rfl (by rw [hf.2.1]; exact hd) t a1, b1⟩
/-! System.arraycopy between rows of ints -/
noncomputable def oAc (pc : Nat) : OP := fun kn _ ls st M => match st with
  | .int n :: .int dp :: .ref a1 :: .int sp :: .ref a0 :: st => cond (kk M a0 9 && (kk M a1 9 && Nat.ble (cs st) 8)) (∃ x y z : Nat, (sp = nI x ∧ dp = nI y ∧ n = nI z ∧ x < 1000 ∧ y < 1000 ∧ z < 1000 ∧ x + z ≤ (mK M a0).2 ∧ y + z ≤ (mK M a1).2) ∧ kn (pc + 3) ls st (wF M a1 (va_cpy (mI M a0) (mI M a1) x y z))) False
  | _ => False
theorem ok_ac {idx : Nat} (hnat : Cond.native arraycopyName ∈ wB) (hst : Cond.static arraycopyName ∈ wB) (hini : Cond.initialized "java/lang/System" ∈ wB) (hw : Cond.methodLink q.1.cls idx arraycopyName ∈ wB) (hd : decode q.2.1 pc = .ok (.invokestatic idx, 3)) : OK l X q (d + 1) na b pc (oAc pc) := by
  intro kn kr ls st M hk h
  simp only [oAc] at h
  split at h
  · rename_i n9 dp9 a1 sp9 a0 st
    obtain ⟨h0, x, y, z, ⟨rfl, rfl, rfl, x1, y1, z1, h4, h5⟩, h9⟩ := condT h
    clear h
    have h := h9
    clear h9
    have h1 : ¬ nI x < 0 := nI_pos (by omega)
    have h2 : ¬ nI y < 0 := nI_pos (by omega)
    have h3 : ¬ nI z < 0 := nI_pos (by omega)
    have ex : (nI x).toNatClampNeg = x := nI_clamp (by omega)
    have ey : (nI y).toNatClampNeg = y := nI_clamp (by omega)
    have ez : (nI z).toNatClampNeg = z := nI_clamp (by omega)
    rw [← ex, ← ez] at h4
    rw [← ey, ← ez] at h5
    rw [← ex, ← ey, ← ez] at h
    generalize nI x = sp at h h1 h4 ex ⊢
    generalize nI y = dp at h h2 h5 ey ⊢
    generalize nI z = n at h h3 h4 h5 ez ⊢
    obtain ⟨h0, h6⟩ := Bool.and_eq_true_iff.mp h0
    obtain ⟨h6, h7⟩ := Bool.and_eq_true_iff.mp h6
    have h7 := Nat.le_of_ble_eq_true h7
    obtain ⟨p0, p1, p2⟩ := kk_of h0
    obtain ⟨q0, q1, q2⟩ := kk_of h6
    refine Wf.mem (M' := wF M a1 (va_cpy (mI M a0) (mI M a1) sp.toNatClampNeg dp.toNatClampNeg n.toNatClampNeg)) rfl id (fun p e R s m args below meth c' H locs cells slots Q D g ad A la hx hb hown hts hK hnm hml g1 g2 hP hD hS kx => ?_) (hk _ _ _ _ h)
    rw [List.map_cons, List.map_cons, List.map_cons, List.map_cons, List.map_cons, iv_ref p0, iv_ref q0]
    have he0 := wl_at (g := g) (ad := ad) p0 p1
    rw [en_i p2] at he0
    have he1 := wl_at (g := g) (ad := ad) q0 q1
    rw [en_i q2] at he1
    refine va_copyi hx hb hml hown (hts _ hw) (hts _ hnat) (hts _ hst) (hts _ hini) hK hP hD hS (a0 - 1) (a1 - 1) 1 1 he0 he1 rfl rfl rfl h1 h2 h3 h4 h5 (fun _ _ => rfl) (by omega) ?_ hd (fun H1 locs1 r1 r2 r3 => ?_)
    · rw [cs_of]
      have e5 : nativeFrameWords "java/lang/System" "arraycopy" 5 ≤ 40 := by decide +kernel
      omega
    · have hset := ast_wl (g := g) (ad := ad) (M := M) (M' := wF M a1 (va_cpy (mI M a0) (mI M a1) sp.toNatClampNeg dp.toNatClampNeg n.toNatClampNeg)) (e := .inl (g 9, (mK M a1).2, .inl (va_cpy (mI M a0) (mI M a1) sp.toNatClampNeg dp.toNatClampNeg n.toNatClampNeg))) rfl q0 q1 (fun b hb => ⟨funext fun j => wF_o hb, rfl, rfl⟩) (by rw [en_i (M := wF M a1 _) q2, wF_s]; rfl)
      rw [hset] at r1 r2
      exact kx H1 locs1 r1 r2 r3
  · exact h.elim
end MORE
end
section
/-! plain instructions read out of a stretch of a method's bytes: the bytes ahead of the stretch are passed once -/
section DCL
variable {c : ByteArray} {pc B m : Nat}
theorem rd_bind {α β : Type} {x : Jvm.ClassFile.Decoder α} {f : α → Jvm.ClassFile.Decoder β} {p s : Nat} {a : α} (hx : x c p = .ok (a, s)) : (Bind.bind x f : Jvm.ClassFile.Decoder β) c p = f a c s := by
  show (Bind.bind (x c p) (fun q => f q.1 c q.2) : Except Jvm.ClassFile.DecodeError (β × Nat)) = _
  rw [hx]
  rfl
theorem rd_u1 (h : pc < c.size) : (Jvm.ClassFile.Reader.u1 : Jvm.ClassFile.Decoder Nat) c pc = .ok (c[pc].toNat, pc + 1) := by
  show ((if h : pc < c.size then (Bind.bind (set (pc + 1)) (fun _ => Pure.pure c[pc].toNat)) else throw (Jvm.ClassFile.HasTruncated.truncated pc) : Jvm.ClassFile.Decoder Nat) c pc) = _
  rw [dif_pos h]
  rfl
theorem rd_u2 (h : pc < c.size) (h' : pc + 1 < c.size) : (Jvm.ClassFile.Reader.u2 : Jvm.ClassFile.Decoder Nat) c pc = .ok (c[pc].toNat * 256 + c[pc + 1].toNat, pc + 2) := by
  show (Bind.bind Jvm.ClassFile.Reader.u1 (fun hi => Bind.bind Jvm.ClassFile.Reader.u1 (fun lo => Pure.pure (hi * 256 + lo))) : Jvm.ClassFile.Decoder Nat) c pc = _
  rw [rd_bind (rd_u1 h), rd_bind (rd_u1 h')]
  rfl
theorem rd_s1 (h : pc < c.size) : (Jvm.ClassFile.Reader.s1 : Jvm.ClassFile.Decoder Int) c pc = .ok (Jvm.ClassFile.Reader.signed 8 c[pc].toNat, pc + 1) := by
  show (Bind.bind ((Jvm.ClassFile.Reader.u1 : Jvm.ClassFile.Decoder Nat) c pc) (fun q => Except.ok (Jvm.ClassFile.Reader.signed 8 q.1, q.2)) : Except Jvm.ClassFile.DecodeError (Int × Nat)) = _
  rw [rd_u1 h]
  rfl
theorem rd_s2 (h : pc < c.size) (h' : pc + 1 < c.size) : (Jvm.ClassFile.Reader.s2 : Jvm.ClassFile.Decoder Int) c pc = .ok (Jvm.ClassFile.Reader.signed 16 (c[pc].toNat * 256 + c[pc + 1].toNat), pc + 2) := by
  show (Bind.bind ((Jvm.ClassFile.Reader.u2 : Jvm.ClassFile.Decoder Nat) c pc) (fun q => Except.ok (Jvm.ClassFile.Reader.signed 16 q.1, q.2)) : Except Jvm.ClassFile.DecodeError (Int × Nat)) = _
  rw [rd_u2 h h']
  rfl
theorem dec_at {g : Nat → Jvm.ClassFile.Decoder Instr} (hg : Jvm.ClassFile.Decoder.instr pc = Bind.bind Jvm.ClassFile.Reader.u1 g) (h : pc < c.size) {v : Instr} {n : Nat} (q : (g c[pc].toNat) c (pc + 1) = .ok (v, pc + n)) : decode c pc = .ok (v, n) := by
  have e : (Jvm.ClassFile.Decoder.instr pc) c pc = .ok (v, pc + n) := by
    rw [hg, rd_bind (rd_u1 h)]
    exact q
  show (Bind.bind ((Jvm.ClassFile.Decoder.instr pc) c pc) (fun r => Except.ok (r.1, r.2 - pc)) : Except Jvm.ClassFile.DecodeError (Instr × Nat)) = _
  rw [e]
  show Except.ok (v, pc + n - pc) = _
  rw [Nat.add_sub_cancel_left]
end DCL
theorem cd_l {α : Type} {b : Bool} {x y : Option α} {v : α} (h : cond b x y = some v) : (b = true ∧ x = some v) ∨ (b = false ∧ y = some v) := by
  cases b with
  | true => exact Or.inl ⟨rfl, h⟩
  | false => exact Or.inr ⟨rfl, h⟩
theorem cd_n {α : Type} {b : Bool} {x : Option α} {v : α} (h : cond b x none = some v) : b = true ∧ x = some v := by
  cases b with
  | true => exact ⟨rfl, h⟩
  | false => cases h
noncomputable def dct0 (a b d : Nat) : Option (Instr × Nat) := cond (Nat.ble a 6) (cond (Nat.ble a 3) (cond (Nat.ble a 2) (cond (Nat.beq a 2) (some (Instr.iconst (-1), 1)) none) (cond (Nat.beq a 3) (some (Instr.iconst 0, 1)) none)) (cond (Nat.ble a 4) (cond (Nat.beq a 4) (some (Instr.iconst 1, 1)) none) (cond (Nat.ble a 5) (cond (Nat.beq a 5) (some (Instr.iconst 2, 1)) none) (cond (Nat.beq a 6) (some (Instr.iconst 3, 1)) none)))) (cond (Nat.ble a 9) (cond (Nat.ble a 7) (cond (Nat.beq a 7) (some (Instr.iconst 4, 1)) none) (cond (Nat.ble a 8) (cond (Nat.beq a 8) (some (Instr.iconst 5, 1)) none) (cond (Nat.beq a 9) (some (Instr.lconst 0, 1)) none))) (cond (Nat.ble a 10) (cond (Nat.beq a 10) (some (Instr.lconst 1, 1)) none) (cond (Nat.ble a 16) (cond (Nat.beq a 16) (some (Instr.bipush (Jvm.ClassFile.Reader.signed 8 b), 2)) none) (cond (Nat.beq a 17) (some (Instr.sipush (Jvm.ClassFile.Reader.signed 16 (b * 256 + d)), 3)) none))))
noncomputable def dct1 (a b d : Nat) : Option (Instr × Nat) := cond (Nat.ble a 22) (cond (Nat.ble a 19) (cond (Nat.ble a 18) (cond (Nat.beq a 18) (some (Instr.ldc b, 2)) none) (cond (Nat.beq a 19) (some (Instr.ldc_w (b * 256 + d), 3)) none)) (cond (Nat.ble a 20) (cond (Nat.beq a 20) (some (Instr.ldc2_w (b * 256 + d), 3)) none) (cond (Nat.ble a 21) (cond (Nat.beq a 21) (some (Instr.iload b, 2)) none) (cond (Nat.beq a 22) (some (Instr.lload b, 2)) none)))) (cond (Nat.ble a 28) (cond (Nat.ble a 26) (cond (Nat.beq a 26) (some (Instr.iload_n 0, 1)) none) (cond (Nat.ble a 27) (cond (Nat.beq a 27) (some (Instr.iload_n 1, 1)) none) (cond (Nat.beq a 28) (some (Instr.iload_n 2, 1)) none))) (cond (Nat.ble a 29) (cond (Nat.beq a 29) (some (Instr.iload_n 3, 1)) none) (cond (Nat.ble a 30) (cond (Nat.beq a 30) (some (Instr.lload_n 0, 1)) none) (cond (Nat.beq a 31) (some (Instr.lload_n 1, 1)) none))))
noncomputable def dct2 (a b d : Nat) : Option (Instr × Nat) := cond (Nat.ble a 44) (cond (Nat.ble a 33) (cond (Nat.ble a 32) (cond (Nat.beq a 32) (some (Instr.lload_n 2, 1)) none) (cond (Nat.beq a 33) (some (Instr.lload_n 3, 1)) none)) (cond (Nat.ble a 42) (cond (Nat.beq a 42) (some (Instr.aload_n 0, 1)) none) (cond (Nat.ble a 43) (cond (Nat.beq a 43) (some (Instr.aload_n 1, 1)) none) (cond (Nat.beq a 44) (some (Instr.aload_n 2, 1)) none)))) (cond (Nat.ble a 47) (cond (Nat.ble a 45) (cond (Nat.beq a 45) (some (Instr.aload_n 3, 1)) none) (cond (Nat.ble a 46) (cond (Nat.beq a 46) (some (Instr.iaload, 1)) none) (cond (Nat.beq a 47) (some (Instr.laload, 1)) none))) (cond (Nat.ble a 50) (cond (Nat.beq a 50) (some (Instr.aaload, 1)) none) (cond (Nat.ble a 51) (cond (Nat.beq a 51) (some (Instr.baload, 1)) none) (cond (Nat.beq a 54) (some (Instr.istore b, 2)) none))))
noncomputable def dct3 (a b d : Nat) : Option (Instr × Nat) := cond (Nat.ble a 62) (cond (Nat.ble a 59) (cond (Nat.ble a 55) (cond (Nat.beq a 55) (some (Instr.lstore b, 2)) none) (cond (Nat.beq a 59) (some (Instr.istore_n 0, 1)) none)) (cond (Nat.ble a 60) (cond (Nat.beq a 60) (some (Instr.istore_n 1, 1)) none) (cond (Nat.ble a 61) (cond (Nat.beq a 61) (some (Instr.istore_n 2, 1)) none) (cond (Nat.beq a 62) (some (Instr.istore_n 3, 1)) none)))) (cond (Nat.ble a 83) (cond (Nat.ble a 79) (cond (Nat.beq a 79) (some (Instr.iastore, 1)) none) (cond (Nat.ble a 80) (cond (Nat.beq a 80) (some (Instr.lastore, 1)) none) (cond (Nat.beq a 83) (some (Instr.aastore, 1)) none))) (cond (Nat.ble a 84) (cond (Nat.beq a 84) (some (Instr.bastore, 1)) none) (cond (Nat.ble a 87) (cond (Nat.beq a 87) (some (Instr.pop, 1)) none) (cond (Nat.beq a 88) (some (Instr.pop2, 1)) none))))
noncomputable def dct4 (a b d : Nat) : Option (Instr × Nat) := cond (Nat.ble a 100) (cond (Nat.ble a 92) (cond (Nat.ble a 89) (cond (Nat.beq a 89) (some (Instr.dup, 1)) none) (cond (Nat.beq a 92) (some (Instr.dup2, 1)) none)) (cond (Nat.ble a 96) (cond (Nat.beq a 96) (some (Instr.iadd, 1)) none) (cond (Nat.ble a 97) (cond (Nat.beq a 97) (some (Instr.ladd, 1)) none) (cond (Nat.beq a 100) (some (Instr.isub, 1)) none)))) (cond (Nat.ble a 105) (cond (Nat.ble a 101) (cond (Nat.beq a 101) (some (Instr.lsub, 1)) none) (cond (Nat.ble a 104) (cond (Nat.beq a 104) (some (Instr.imul, 1)) none) (cond (Nat.beq a 105) (some (Instr.lmul, 1)) none))) (cond (Nat.ble a 108) (cond (Nat.beq a 108) (some (Instr.idiv, 1)) none) (cond (Nat.ble a 109) (cond (Nat.beq a 109) (some (Instr.ldiv, 1)) none) (cond (Nat.beq a 112) (some (Instr.irem, 1)) none))))
noncomputable def dct5 (a b d : Nat) : Option (Instr × Nat) := cond (Nat.ble a 124) (cond (Nat.ble a 116) (cond (Nat.ble a 113) (cond (Nat.beq a 113) (some (Instr.lrem, 1)) none) (cond (Nat.beq a 116) (some (Instr.ineg, 1)) none)) (cond (Nat.ble a 120) (cond (Nat.beq a 120) (some (Instr.ishl, 1)) none) (cond (Nat.ble a 122) (cond (Nat.beq a 122) (some (Instr.ishr, 1)) none) (cond (Nat.beq a 124) (some (Instr.iushr, 1)) none)))) (cond (Nat.ble a 130) (cond (Nat.ble a 126) (cond (Nat.beq a 126) (some (Instr.iand, 1)) none) (cond (Nat.ble a 128) (cond (Nat.beq a 128) (some (Instr.ior, 1)) none) (cond (Nat.beq a 130) (some (Instr.ixor, 1)) none))) (cond (Nat.ble a 132) (cond (Nat.beq a 132) (some (Instr.iinc b (Jvm.ClassFile.Reader.signed 8 d), 3)) none) (cond (Nat.ble a 133) (cond (Nat.beq a 133) (some (Instr.i2l, 1)) none) (cond (Nat.beq a 145) (some (Instr.i2b, 1)) none))))
noncomputable def dct6 (a b d : Nat) : Option (Instr × Nat) := cond (Nat.ble a 156) (cond (Nat.ble a 153) (cond (Nat.ble a 148) (cond (Nat.beq a 148) (some (Instr.lcmp, 1)) none) (cond (Nat.beq a 153) (some (Instr.ifCond .eq (Jvm.ClassFile.Reader.signed 16 (b * 256 + d)), 3)) none)) (cond (Nat.ble a 154) (cond (Nat.beq a 154) (some (Instr.ifCond .ne (Jvm.ClassFile.Reader.signed 16 (b * 256 + d)), 3)) none) (cond (Nat.ble a 155) (cond (Nat.beq a 155) (some (Instr.ifCond .lt (Jvm.ClassFile.Reader.signed 16 (b * 256 + d)), 3)) none) (cond (Nat.beq a 156) (some (Instr.ifCond .ge (Jvm.ClassFile.Reader.signed 16 (b * 256 + d)), 3)) none)))) (cond (Nat.ble a 159) (cond (Nat.ble a 157) (cond (Nat.beq a 157) (some (Instr.ifCond .gt (Jvm.ClassFile.Reader.signed 16 (b * 256 + d)), 3)) none) (cond (Nat.ble a 158) (cond (Nat.beq a 158) (some (Instr.ifCond .le (Jvm.ClassFile.Reader.signed 16 (b * 256 + d)), 3)) none) (cond (Nat.beq a 159) (some (Instr.if_icmp .eq (Jvm.ClassFile.Reader.signed 16 (b * 256 + d)), 3)) none))) (cond (Nat.ble a 160) (cond (Nat.beq a 160) (some (Instr.if_icmp .ne (Jvm.ClassFile.Reader.signed 16 (b * 256 + d)), 3)) none) (cond (Nat.ble a 161) (cond (Nat.beq a 161) (some (Instr.if_icmp .lt (Jvm.ClassFile.Reader.signed 16 (b * 256 + d)), 3)) none) (cond (Nat.beq a 162) (some (Instr.if_icmp .ge (Jvm.ClassFile.Reader.signed 16 (b * 256 + d)), 3)) none))))
noncomputable def dct7 (a b d : Nat) : Option (Instr × Nat) := cond (Nat.ble a 173) (cond (Nat.ble a 164) (cond (Nat.ble a 163) (cond (Nat.beq a 163) (some (Instr.if_icmp .gt (Jvm.ClassFile.Reader.signed 16 (b * 256 + d)), 3)) none) (cond (Nat.beq a 164) (some (Instr.if_icmp .le (Jvm.ClassFile.Reader.signed 16 (b * 256 + d)), 3)) none)) (cond (Nat.ble a 167) (cond (Nat.beq a 167) (some (Instr.goto (Jvm.ClassFile.Reader.signed 16 (b * 256 + d)), 3)) none) (cond (Nat.ble a 172) (cond (Nat.beq a 172) (some (Instr.ireturn, 1)) none) (cond (Nat.beq a 173) (some (Instr.lreturn, 1)) none)))) (cond (Nat.ble a 181) (cond (Nat.ble a 177) (cond (Nat.beq a 177) (some (Instr.return_, 1)) none) (cond (Nat.ble a 180) (cond (Nat.beq a 180) (some (Instr.getfield (b * 256 + d), 3)) none) (cond (Nat.beq a 181) (some (Instr.putfield (b * 256 + d), 3)) none))) (cond (Nat.ble a 182) (cond (Nat.beq a 182) (some (Instr.invokevirtual (b * 256 + d), 3)) none) (cond (Nat.ble a 183) (cond (Nat.beq a 183) (some (Instr.invokespecial (b * 256 + d), 3)) none) (cond (Nat.beq a 184) (some (Instr.invokestatic (b * 256 + d), 3)) none))))
noncomputable def dct8 (a b d : Nat) : Option (Instr × Nat) := cond (Nat.ble a 187) (cond (Nat.beq a 187) (some (Instr.new (b * 256 + d), 3)) none) (cond (Nat.beq a 189) (some (Instr.anewarray (b * 256 + d), 3)) none)
noncomputable def dct (a b d : Nat) : Option (Instr × Nat) := cond (Nat.ble a 88) (cond (Nat.ble a 31) (cond (Nat.ble a 17) (dct0 a b d) (dct1 a b d)) (cond (Nat.ble a 54) (dct2 a b d) (dct3 a b d))) (cond (Nat.ble a 145) (cond (Nat.ble a 112) (dct4 a b d) (dct5 a b d)) (cond (Nat.ble a 162) (dct6 a b d) (cond (Nat.ble a 184) (dct7 a b d) (dct8 a b d))))
theorem inq8_0 (pc : Nat) : ∃ g : Nat → Jvm.ClassFile.Decoder Instr, Jvm.ClassFile.Decoder.instr pc = Bind.bind Jvm.ClassFile.Reader.u1 g ∧ g 2 = Pure.pure (Instr.iconst (-1)) ∧ g 3 = Pure.pure (Instr.iconst 0) ∧ g 4 = Pure.pure (Instr.iconst 1) ∧ g 5 = Pure.pure (Instr.iconst 2) ∧ g 6 = Pure.pure (Instr.iconst 3) ∧ g 7 = Pure.pure (Instr.iconst 4) ∧ g 8 = Pure.pure (Instr.iconst 5) ∧ g 9 = Pure.pure (Instr.lconst 0) ∧ g 10 = Pure.pure (Instr.lconst 1) ∧ g 16 = Bind.bind Jvm.ClassFile.Reader.s1 (fun x => Pure.pure (Instr.bipush x)) ∧ g 17 = Bind.bind Jvm.ClassFile.Reader.s2 (fun x => Pure.pure (Instr.sipush x)) :=
  ⟨_, rfl, rfl, rfl, rfl, rfl, rfl, rfl, rfl, rfl, rfl, rfl, rfl⟩
theorem inq8_1 (pc : Nat) : ∃ g : Nat → Jvm.ClassFile.Decoder Instr, Jvm.ClassFile.Decoder.instr pc = Bind.bind Jvm.ClassFile.Reader.u1 g ∧ g 18 = Bind.bind Jvm.ClassFile.Reader.u1 (fun x => Pure.pure (Instr.ldc x)) ∧ g 19 = Bind.bind Jvm.ClassFile.Reader.u2 (fun x => Pure.pure (Instr.ldc_w x)) ∧ g 20 = Bind.bind Jvm.ClassFile.Reader.u2 (fun x => Pure.pure (Instr.ldc2_w x)) ∧ g 21 = Bind.bind Jvm.ClassFile.Reader.u1 (fun x => Pure.pure (Instr.iload x)) ∧ g 22 = Bind.bind Jvm.ClassFile.Reader.u1 (fun x => Pure.pure (Instr.lload x)) ∧ g 26 = Pure.pure (Instr.iload_n 0) ∧ g 27 = Pure.pure (Instr.iload_n 1) ∧ g 28 = Pure.pure (Instr.iload_n 2) ∧ g 29 = Pure.pure (Instr.iload_n 3) ∧ g 30 = Pure.pure (Instr.lload_n 0) ∧ g 31 = Pure.pure (Instr.lload_n 1) :=
  ⟨_, rfl, rfl, rfl, rfl, rfl, rfl, rfl, rfl, rfl, rfl, rfl, rfl⟩
theorem inq8_2 (pc : Nat) : ∃ g : Nat → Jvm.ClassFile.Decoder Instr, Jvm.ClassFile.Decoder.instr pc = Bind.bind Jvm.ClassFile.Reader.u1 g ∧ g 32 = Pure.pure (Instr.lload_n 2) ∧ g 33 = Pure.pure (Instr.lload_n 3) ∧ g 42 = Pure.pure (Instr.aload_n 0) ∧ g 43 = Pure.pure (Instr.aload_n 1) ∧ g 44 = Pure.pure (Instr.aload_n 2) ∧ g 45 = Pure.pure (Instr.aload_n 3) ∧ g 46 = Pure.pure (Instr.iaload) ∧ g 47 = Pure.pure (Instr.laload) ∧ g 50 = Pure.pure (Instr.aaload) ∧ g 51 = Pure.pure (Instr.baload) ∧ g 54 = Bind.bind Jvm.ClassFile.Reader.u1 (fun x => Pure.pure (Instr.istore x)) :=
  ⟨_, rfl, rfl, rfl, rfl, rfl, rfl, rfl, rfl, rfl, rfl, rfl, rfl⟩
theorem inq8_3 (pc : Nat) : ∃ g : Nat → Jvm.ClassFile.Decoder Instr, Jvm.ClassFile.Decoder.instr pc = Bind.bind Jvm.ClassFile.Reader.u1 g ∧ g 55 = Bind.bind Jvm.ClassFile.Reader.u1 (fun x => Pure.pure (Instr.lstore x)) ∧ g 59 = Pure.pure (Instr.istore_n 0) ∧ g 60 = Pure.pure (Instr.istore_n 1) ∧ g 61 = Pure.pure (Instr.istore_n 2) ∧ g 62 = Pure.pure (Instr.istore_n 3) ∧ g 79 = Pure.pure (Instr.iastore) ∧ g 80 = Pure.pure (Instr.lastore) ∧ g 83 = Pure.pure (Instr.aastore) ∧ g 84 = Pure.pure (Instr.bastore) ∧ g 87 = Pure.pure (Instr.pop) ∧ g 88 = Pure.pure (Instr.pop2) :=
  ⟨_, rfl, rfl, rfl, rfl, rfl, rfl, rfl, rfl, rfl, rfl, rfl, rfl⟩
theorem inq8_4 (pc : Nat) : ∃ g : Nat → Jvm.ClassFile.Decoder Instr, Jvm.ClassFile.Decoder.instr pc = Bind.bind Jvm.ClassFile.Reader.u1 g ∧ g 89 = Pure.pure (Instr.dup) ∧ g 92 = Pure.pure (Instr.dup2) ∧ g 96 = Pure.pure (Instr.iadd) ∧ g 97 = Pure.pure (Instr.ladd) ∧ g 100 = Pure.pure (Instr.isub) ∧ g 101 = Pure.pure (Instr.lsub) ∧ g 104 = Pure.pure (Instr.imul) ∧ g 105 = Pure.pure (Instr.lmul) ∧ g 108 = Pure.pure (Instr.idiv) ∧ g 109 = Pure.pure (Instr.ldiv) ∧ g 112 = Pure.pure (Instr.irem) :=
  ⟨_, rfl, rfl, rfl, rfl, rfl, rfl, rfl, rfl, rfl, rfl, rfl, rfl⟩
theorem inq8_5 (pc : Nat) : ∃ g : Nat → Jvm.ClassFile.Decoder Instr, Jvm.ClassFile.Decoder.instr pc = Bind.bind Jvm.ClassFile.Reader.u1 g ∧ g 113 = Pure.pure (Instr.lrem) ∧ g 116 = Pure.pure (Instr.ineg) ∧ g 120 = Pure.pure (Instr.ishl) ∧ g 122 = Pure.pure (Instr.ishr) ∧ g 124 = Pure.pure (Instr.iushr) ∧ g 126 = Pure.pure (Instr.iand) ∧ g 128 = Pure.pure (Instr.ior) ∧ g 130 = Pure.pure (Instr.ixor) ∧ g 132 = Bind.bind Jvm.ClassFile.Reader.u1 (fun x => Bind.bind Jvm.ClassFile.Reader.s1 (fun y => Pure.pure (Instr.iinc x y))) ∧ g 133 = Pure.pure (Instr.i2l) ∧ g 145 = Pure.pure (Instr.i2b) :=
  ⟨_, rfl, rfl, rfl, rfl, rfl, rfl, rfl, rfl, rfl, rfl, rfl, rfl⟩
theorem inq8_6 (pc : Nat) : ∃ g : Nat → Jvm.ClassFile.Decoder Instr, Jvm.ClassFile.Decoder.instr pc = Bind.bind Jvm.ClassFile.Reader.u1 g ∧ g 148 = Pure.pure (Instr.lcmp) ∧ g 153 = Bind.bind Jvm.ClassFile.Reader.s2 (fun x => Pure.pure (Instr.ifCond .eq x)) ∧ g 154 = Bind.bind Jvm.ClassFile.Reader.s2 (fun x => Pure.pure (Instr.ifCond .ne x)) ∧ g 155 = Bind.bind Jvm.ClassFile.Reader.s2 (fun x => Pure.pure (Instr.ifCond .lt x)) ∧ g 156 = Bind.bind Jvm.ClassFile.Reader.s2 (fun x => Pure.pure (Instr.ifCond .ge x)) ∧ g 157 = Bind.bind Jvm.ClassFile.Reader.s2 (fun x => Pure.pure (Instr.ifCond .gt x)) ∧ g 158 = Bind.bind Jvm.ClassFile.Reader.s2 (fun x => Pure.pure (Instr.ifCond .le x)) ∧ g 159 = Bind.bind Jvm.ClassFile.Reader.s2 (fun x => Pure.pure (Instr.if_icmp .eq x)) ∧ g 160 = Bind.bind Jvm.ClassFile.Reader.s2 (fun x => Pure.pure (Instr.if_icmp .ne x)) ∧ g 161 = Bind.bind Jvm.ClassFile.Reader.s2 (fun x => Pure.pure (Instr.if_icmp .lt x)) ∧ g 162 = Bind.bind Jvm.ClassFile.Reader.s2 (fun x => Pure.pure (Instr.if_icmp .ge x)) :=
  ⟨_, rfl, rfl, rfl, rfl, rfl, rfl, rfl, rfl, rfl, rfl, rfl, rfl⟩
theorem inq8_7 (pc : Nat) : ∃ g : Nat → Jvm.ClassFile.Decoder Instr, Jvm.ClassFile.Decoder.instr pc = Bind.bind Jvm.ClassFile.Reader.u1 g ∧ g 163 = Bind.bind Jvm.ClassFile.Reader.s2 (fun x => Pure.pure (Instr.if_icmp .gt x)) ∧ g 164 = Bind.bind Jvm.ClassFile.Reader.s2 (fun x => Pure.pure (Instr.if_icmp .le x)) ∧ g 167 = Bind.bind Jvm.ClassFile.Reader.s2 (fun x => Pure.pure (Instr.goto x)) ∧ g 172 = Pure.pure (Instr.ireturn) ∧ g 173 = Pure.pure (Instr.lreturn) ∧ g 177 = Pure.pure (Instr.return_) ∧ g 180 = Bind.bind Jvm.ClassFile.Reader.u2 (fun x => Pure.pure (Instr.getfield x)) ∧ g 181 = Bind.bind Jvm.ClassFile.Reader.u2 (fun x => Pure.pure (Instr.putfield x)) ∧ g 182 = Bind.bind Jvm.ClassFile.Reader.u2 (fun x => Pure.pure (Instr.invokevirtual x)) ∧ g 183 = Bind.bind Jvm.ClassFile.Reader.u2 (fun x => Pure.pure (Instr.invokespecial x)) ∧ g 184 = Bind.bind Jvm.ClassFile.Reader.u2 (fun x => Pure.pure (Instr.invokestatic x)) :=
  ⟨_, rfl, rfl, rfl, rfl, rfl, rfl, rfl, rfl, rfl, rfl, rfl, rfl⟩
theorem inq8_8 (pc : Nat) : ∃ g : Nat → Jvm.ClassFile.Decoder Instr, Jvm.ClassFile.Decoder.instr pc = Bind.bind Jvm.ClassFile.Reader.u1 g ∧ g 187 = Bind.bind Jvm.ClassFile.Reader.u2 (fun x => Pure.pure (Instr.new x)) ∧ g 189 = Bind.bind Jvm.ClassFile.Reader.u2 (fun x => Pure.pure (Instr.anewarray x)) :=
  ⟨_, rfl, rfl, rfl⟩
noncomputable def h8 : List UInt8 → Nat
  | [] => 0
  | x :: _ => x.toNat
noncomputable def tl8 : List UInt8 → List UInt8
  | [] => []
  | _ :: t => t
noncomputable def has8 : Nat → List UInt8 → Bool
  | 0, _ => true
  | _ + 1, [] => false
  | n + 1, _ :: t => has8 n t
section DCT
variable {c : ByteArray} {pc : Nat}
theorem dr8 {u : UInt8} {t : List UInt8} (h : c.data.toList.drop pc = u :: t) : (∃ q : pc < c.size, u.toNat = c[pc].toNat) ∧ c.data.toList.drop (pc + 1) = t := by
  have hs : pc < c.data.toList.length := by
    rcases Nat.lt_or_ge pc c.data.toList.length with h' | h'
    · exact h'
    · rw [List.drop_eq_nil_of_le h'] at h
      cases h
  rw [List.drop_eq_getElem_cons hs] at h
  injection h with h1 h2
  exact ⟨⟨hs, by rw [← h1]; rfl⟩, h2⟩
theorem w8_u1 {t : List UInt8} (h : c.data.toList.drop pc = t) (hn : has8 1 t = true) : (Jvm.ClassFile.Reader.u1 : Jvm.ClassFile.Decoder Nat) c pc = .ok (h8 t, pc + 1) := by
  cases t with
  | nil => cases hn
  | cons u t =>
    obtain ⟨⟨q, e⟩, -⟩ := dr8 h
    rw [rd_u1 q, ← e]
    rfl
theorem w8_s1 {t : List UInt8} (h : c.data.toList.drop pc = t) (hn : has8 1 t = true) : (Jvm.ClassFile.Reader.s1 : Jvm.ClassFile.Decoder Int) c pc = .ok (Jvm.ClassFile.Reader.signed 8 (h8 t), pc + 1) := by
  cases t with
  | nil => cases hn
  | cons u t =>
    obtain ⟨⟨q, e⟩, -⟩ := dr8 h
    rw [rd_s1 q, ← e]
    rfl
theorem w8_u2 {t : List UInt8} (h : c.data.toList.drop pc = t) (hn : has8 2 t = true) : (Jvm.ClassFile.Reader.u2 : Jvm.ClassFile.Decoder Nat) c pc = .ok (h8 t * 256 + h8 (tl8 t), pc + 2) := by
  cases t with
  | nil => cases hn
  | cons u t =>
    obtain ⟨⟨q, e⟩, h1⟩ := dr8 h
    cases t with
    | nil => cases hn
    | cons v t =>
      obtain ⟨⟨q2, e2⟩, -⟩ := dr8 h1
      rw [rd_u2 q q2, ← e, ← e2]
      rfl
theorem w8_s2 {t : List UInt8} (h : c.data.toList.drop pc = t) (hn : has8 2 t = true) : (Jvm.ClassFile.Reader.s2 : Jvm.ClassFile.Decoder Int) c pc = .ok (Jvm.ClassFile.Reader.signed 16 (h8 t * 256 + h8 (tl8 t)), pc + 2) := by
  cases t with
  | nil => cases hn
  | cons u t =>
    obtain ⟨⟨q, e⟩, h1⟩ := dr8 h
    cases t with
    | nil => cases hn
    | cons v t =>
      obtain ⟨⟨q2, e2⟩, -⟩ := dr8 h1
      rw [rd_s2 q q2, ← e, ← e2]
      rfl
theorem has8_1 {t : List UInt8} (h : has8 2 t = true) : has8 1 t = true := by
  cases t with
  | nil => cases h
  | cons u t => rfl
theorem tl8_dr {t : List UInt8} (h : c.data.toList.drop pc = t) (hn : has8 2 t = true) : c.data.toList.drop (pc + 1) = tl8 t ∧ has8 1 (tl8 t) = true := by
  cases t with
  | nil => cases hn
  | cons u t => exact ⟨(dr8 h).2, hn⟩
theorem dct0_ok {a : Nat} {t : List UInt8} {v : Instr × Nat} (h0 : ∃ q : pc < c.size, a = c[pc].toNat) (h1 : c.data.toList.drop (pc + 1) = t) (hm : Nat.ble 1 v.2 = true → has8 (v.2 - 1) t = true) (e : dct0 a (h8 t) (h8 (tl8 t)) = some v) : decode c pc = .ok v := by
  obtain ⟨g, hg, a2, a3, a4, a5, a6, a7, a8, a9, a10, a16, a17⟩ := inq8_0 pc
  obtain ⟨q, eq⟩ := h0
  have K : ∀ {v : Instr} {n : Nat}, (g a) c (pc + 1) = .ok (v, pc + n) → decode c pc = .ok (v, n) := fun z => dec_at hg q (by rw [← eq]; exact z)
  have hn := hm
  unfold dct0 at e
  rcases cd_l e with ⟨-, e⟩ | ⟨-, e⟩
  · rcases cd_l e with ⟨-, e⟩ | ⟨-, e⟩
    · rcases cd_l e with ⟨-, e⟩ | ⟨-, e⟩
      · obtain ⟨e1, e⟩ := cd_n e
        have e1 := Nat.eq_of_beq_eq_true e1
        cases e; have hn := hn rfl
        exact K (by rw [e1, a2]; rfl)
      · obtain ⟨e1, e⟩ := cd_n e
        have e1 := Nat.eq_of_beq_eq_true e1
        cases e; have hn := hn rfl
        exact K (by rw [e1, a3]; rfl)
    · rcases cd_l e with ⟨-, e⟩ | ⟨-, e⟩
      · obtain ⟨e1, e⟩ := cd_n e
        have e1 := Nat.eq_of_beq_eq_true e1
        cases e; have hn := hn rfl
        exact K (by rw [e1, a4]; rfl)
      · rcases cd_l e with ⟨-, e⟩ | ⟨-, e⟩
        · obtain ⟨e1, e⟩ := cd_n e
          have e1 := Nat.eq_of_beq_eq_true e1
          cases e; have hn := hn rfl
          exact K (by rw [e1, a5]; rfl)
        · obtain ⟨e1, e⟩ := cd_n e
          have e1 := Nat.eq_of_beq_eq_true e1
          cases e; have hn := hn rfl
          exact K (by rw [e1, a6]; rfl)
  · rcases cd_l e with ⟨-, e⟩ | ⟨-, e⟩
    · rcases cd_l e with ⟨-, e⟩ | ⟨-, e⟩
      · obtain ⟨e1, e⟩ := cd_n e
        have e1 := Nat.eq_of_beq_eq_true e1
        cases e; have hn := hn rfl
        exact K (by rw [e1, a7]; rfl)
      · rcases cd_l e with ⟨-, e⟩ | ⟨-, e⟩
        · obtain ⟨e1, e⟩ := cd_n e
          have e1 := Nat.eq_of_beq_eq_true e1
          cases e; have hn := hn rfl
          exact K (by rw [e1, a8]; rfl)
        · obtain ⟨e1, e⟩ := cd_n e
          have e1 := Nat.eq_of_beq_eq_true e1
          cases e; have hn := hn rfl
          exact K (by rw [e1, a9]; rfl)
    · rcases cd_l e with ⟨-, e⟩ | ⟨-, e⟩
      · obtain ⟨e1, e⟩ := cd_n e
        have e1 := Nat.eq_of_beq_eq_true e1
        cases e; have hn := hn rfl
        exact K (by rw [e1, a10]; rfl)
      · rcases cd_l e with ⟨-, e⟩ | ⟨-, e⟩
        · obtain ⟨e1, e⟩ := cd_n e
          have e1 := Nat.eq_of_beq_eq_true e1
          cases e; have hn := hn rfl
          exact K (by rw [e1, a16, rd_bind (w8_s1 h1 hn)]; rfl)
        · obtain ⟨e1, e⟩ := cd_n e
          have e1 := Nat.eq_of_beq_eq_true e1
          cases e; have hn := hn rfl
          exact K (by rw [e1, a17, rd_bind (w8_s2 h1 hn)]; rfl)
theorem dct1_ok {a : Nat} {t : List UInt8} {v : Instr × Nat} (h0 : ∃ q : pc < c.size, a = c[pc].toNat) (h1 : c.data.toList.drop (pc + 1) = t) (hm : Nat.ble 1 v.2 = true → has8 (v.2 - 1) t = true) (e : dct1 a (h8 t) (h8 (tl8 t)) = some v) : decode c pc = .ok v := by
  obtain ⟨g, hg, a18, a19, a20, a21, a22, a26, a27, a28, a29, a30, a31⟩ := inq8_1 pc
  obtain ⟨q, eq⟩ := h0
  have K : ∀ {v : Instr} {n : Nat}, (g a) c (pc + 1) = .ok (v, pc + n) → decode c pc = .ok (v, n) := fun z => dec_at hg q (by rw [← eq]; exact z)
  have hn := hm
  unfold dct1 at e
  rcases cd_l e with ⟨-, e⟩ | ⟨-, e⟩
  · rcases cd_l e with ⟨-, e⟩ | ⟨-, e⟩
    · rcases cd_l e with ⟨-, e⟩ | ⟨-, e⟩
      · obtain ⟨e1, e⟩ := cd_n e
        have e1 := Nat.eq_of_beq_eq_true e1
        cases e; have hn := hn rfl
        exact K (by rw [e1, a18, rd_bind (w8_u1 h1 hn)]; rfl)
      · obtain ⟨e1, e⟩ := cd_n e
        have e1 := Nat.eq_of_beq_eq_true e1
        cases e; have hn := hn rfl
        exact K (by rw [e1, a19, rd_bind (w8_u2 h1 hn)]; rfl)
    · rcases cd_l e with ⟨-, e⟩ | ⟨-, e⟩
      · obtain ⟨e1, e⟩ := cd_n e
        have e1 := Nat.eq_of_beq_eq_true e1
        cases e; have hn := hn rfl
        exact K (by rw [e1, a20, rd_bind (w8_u2 h1 hn)]; rfl)
      · rcases cd_l e with ⟨-, e⟩ | ⟨-, e⟩
        · obtain ⟨e1, e⟩ := cd_n e
          have e1 := Nat.eq_of_beq_eq_true e1
          cases e; have hn := hn rfl
          exact K (by rw [e1, a21, rd_bind (w8_u1 h1 hn)]; rfl)
        · obtain ⟨e1, e⟩ := cd_n e
          have e1 := Nat.eq_of_beq_eq_true e1
          cases e; have hn := hn rfl
          exact K (by rw [e1, a22, rd_bind (w8_u1 h1 hn)]; rfl)
  · rcases cd_l e with ⟨-, e⟩ | ⟨-, e⟩
    · rcases cd_l e with ⟨-, e⟩ | ⟨-, e⟩
      · obtain ⟨e1, e⟩ := cd_n e
        have e1 := Nat.eq_of_beq_eq_true e1
        cases e; have hn := hn rfl
        exact K (by rw [e1, a26]; rfl)
      · rcases cd_l e with ⟨-, e⟩ | ⟨-, e⟩
        · obtain ⟨e1, e⟩ := cd_n e
          have e1 := Nat.eq_of_beq_eq_true e1
          cases e; have hn := hn rfl
          exact K (by rw [e1, a27]; rfl)
        · obtain ⟨e1, e⟩ := cd_n e
          have e1 := Nat.eq_of_beq_eq_true e1
          cases e; have hn := hn rfl
          exact K (by rw [e1, a28]; rfl)
    · rcases cd_l e with ⟨-, e⟩ | ⟨-, e⟩
      · obtain ⟨e1, e⟩ := cd_n e
        have e1 := Nat.eq_of_beq_eq_true e1
        cases e; have hn := hn rfl
        exact K (by rw [e1, a29]; rfl)
      · rcases cd_l e with ⟨-, e⟩ | ⟨-, e⟩
        · obtain ⟨e1, e⟩ := cd_n e
          have e1 := Nat.eq_of_beq_eq_true e1
          cases e; have hn := hn rfl
          exact K (by rw [e1, a30]; rfl)
        · obtain ⟨e1, e⟩ := cd_n e
          have e1 := Nat.eq_of_beq_eq_true e1
          cases e; have hn := hn rfl
          exact K (by rw [e1, a31]; rfl)
theorem dct2_ok {a : Nat} {t : List UInt8} {v : Instr × Nat} (h0 : ∃ q : pc < c.size, a = c[pc].toNat) (h1 : c.data.toList.drop (pc + 1) = t) (hm : Nat.ble 1 v.2 = true → has8 (v.2 - 1) t = true) (e : dct2 a (h8 t) (h8 (tl8 t)) = some v) : decode c pc = .ok v := by
  obtain ⟨g, hg, a32, a33, a42, a43, a44, a45, a46, a47, a50, a51, a54⟩ := inq8_2 pc
  obtain ⟨q, eq⟩ := h0
  have K : ∀ {v : Instr} {n : Nat}, (g a) c (pc + 1) = .ok (v, pc + n) → decode c pc = .ok (v, n) := fun z => dec_at hg q (by rw [← eq]; exact z)
  have hn := hm
  unfold dct2 at e
  rcases cd_l e with ⟨-, e⟩ | ⟨-, e⟩
  · rcases cd_l e with ⟨-, e⟩ | ⟨-, e⟩
    · rcases cd_l e with ⟨-, e⟩ | ⟨-, e⟩
      · obtain ⟨e1, e⟩ := cd_n e
        have e1 := Nat.eq_of_beq_eq_true e1
        cases e; have hn := hn rfl
        exact K (by rw [e1, a32]; rfl)
      · obtain ⟨e1, e⟩ := cd_n e
        have e1 := Nat.eq_of_beq_eq_true e1
        cases e; have hn := hn rfl
        exact K (by rw [e1, a33]; rfl)
    · rcases cd_l e with ⟨-, e⟩ | ⟨-, e⟩
      · obtain ⟨e1, e⟩ := cd_n e
        have e1 := Nat.eq_of_beq_eq_true e1
        cases e; have hn := hn rfl
        exact K (by rw [e1, a42]; rfl)
      · rcases cd_l e with ⟨-, e⟩ | ⟨-, e⟩
        · obtain ⟨e1, e⟩ := cd_n e
          have e1 := Nat.eq_of_beq_eq_true e1
          cases e; have hn := hn rfl
          exact K (by rw [e1, a43]; rfl)
        · obtain ⟨e1, e⟩ := cd_n e
          have e1 := Nat.eq_of_beq_eq_true e1
          cases e; have hn := hn rfl
          exact K (by rw [e1, a44]; rfl)
  · rcases cd_l e with ⟨-, e⟩ | ⟨-, e⟩
    · rcases cd_l e with ⟨-, e⟩ | ⟨-, e⟩
      · obtain ⟨e1, e⟩ := cd_n e
        have e1 := Nat.eq_of_beq_eq_true e1
        cases e; have hn := hn rfl
        exact K (by rw [e1, a45]; rfl)
      · rcases cd_l e with ⟨-, e⟩ | ⟨-, e⟩
        · obtain ⟨e1, e⟩ := cd_n e
          have e1 := Nat.eq_of_beq_eq_true e1
          cases e; have hn := hn rfl
          exact K (by rw [e1, a46]; rfl)
        · obtain ⟨e1, e⟩ := cd_n e
          have e1 := Nat.eq_of_beq_eq_true e1
          cases e; have hn := hn rfl
          exact K (by rw [e1, a47]; rfl)
    · rcases cd_l e with ⟨-, e⟩ | ⟨-, e⟩
      · obtain ⟨e1, e⟩ := cd_n e
        have e1 := Nat.eq_of_beq_eq_true e1
        cases e; have hn := hn rfl
        exact K (by rw [e1, a50]; rfl)
      · rcases cd_l e with ⟨-, e⟩ | ⟨-, e⟩
        · obtain ⟨e1, e⟩ := cd_n e
          have e1 := Nat.eq_of_beq_eq_true e1
          cases e; have hn := hn rfl
          exact K (by rw [e1, a51]; rfl)
        · obtain ⟨e1, e⟩ := cd_n e
          have e1 := Nat.eq_of_beq_eq_true e1
          cases e; have hn := hn rfl
          exact K (by rw [e1, a54, rd_bind (w8_u1 h1 hn)]; rfl)
theorem dct3_ok {a : Nat} {t : List UInt8} {v : Instr × Nat} (h0 : ∃ q : pc < c.size, a = c[pc].toNat) (h1 : c.data.toList.drop (pc + 1) = t) (hm : Nat.ble 1 v.2 = true → has8 (v.2 - 1) t = true) (e : dct3 a (h8 t) (h8 (tl8 t)) = some v) : decode c pc = .ok v := by
  obtain ⟨g, hg, a55, a59, a60, a61, a62, a79, a80, a83, a84, a87, a88⟩ := inq8_3 pc
  obtain ⟨q, eq⟩ := h0
  have K : ∀ {v : Instr} {n : Nat}, (g a) c (pc + 1) = .ok (v, pc + n) → decode c pc = .ok (v, n) := fun z => dec_at hg q (by rw [← eq]; exact z)
  have hn := hm
  unfold dct3 at e
  rcases cd_l e with ⟨-, e⟩ | ⟨-, e⟩
  · rcases cd_l e with ⟨-, e⟩ | ⟨-, e⟩
    · rcases cd_l e with ⟨-, e⟩ | ⟨-, e⟩
      · obtain ⟨e1, e⟩ := cd_n e
        have e1 := Nat.eq_of_beq_eq_true e1
        cases e; have hn := hn rfl
        exact K (by rw [e1, a55, rd_bind (w8_u1 h1 hn)]; rfl)
      · obtain ⟨e1, e⟩ := cd_n e
        have e1 := Nat.eq_of_beq_eq_true e1
        cases e; have hn := hn rfl
        exact K (by rw [e1, a59]; rfl)
    · rcases cd_l e with ⟨-, e⟩ | ⟨-, e⟩
      · obtain ⟨e1, e⟩ := cd_n e
        have e1 := Nat.eq_of_beq_eq_true e1
        cases e; have hn := hn rfl
        exact K (by rw [e1, a60]; rfl)
      · rcases cd_l e with ⟨-, e⟩ | ⟨-, e⟩
        · obtain ⟨e1, e⟩ := cd_n e
          have e1 := Nat.eq_of_beq_eq_true e1
          cases e; have hn := hn rfl
          exact K (by rw [e1, a61]; rfl)
        · obtain ⟨e1, e⟩ := cd_n e
          have e1 := Nat.eq_of_beq_eq_true e1
          cases e; have hn := hn rfl
          exact K (by rw [e1, a62]; rfl)
  · rcases cd_l e with ⟨-, e⟩ | ⟨-, e⟩
    · rcases cd_l e with ⟨-, e⟩ | ⟨-, e⟩
      · obtain ⟨e1, e⟩ := cd_n e
        have e1 := Nat.eq_of_beq_eq_true e1
        cases e; have hn := hn rfl
        exact K (by rw [e1, a79]; rfl)
      · rcases cd_l e with ⟨-, e⟩ | ⟨-, e⟩
        · obtain ⟨e1, e⟩ := cd_n e
          have e1 := Nat.eq_of_beq_eq_true e1
          cases e; have hn := hn rfl
          exact K (by rw [e1, a80]; rfl)
        · obtain ⟨e1, e⟩ := cd_n e
          have e1 := Nat.eq_of_beq_eq_true e1
          cases e; have hn := hn rfl
          exact K (by rw [e1, a83]; rfl)
    · rcases cd_l e with ⟨-, e⟩ | ⟨-, e⟩
      · obtain ⟨e1, e⟩ := cd_n e
        have e1 := Nat.eq_of_beq_eq_true e1
        cases e; have hn := hn rfl
        exact K (by rw [e1, a84]; rfl)
      · rcases cd_l e with ⟨-, e⟩ | ⟨-, e⟩
        · obtain ⟨e1, e⟩ := cd_n e
          have e1 := Nat.eq_of_beq_eq_true e1
          cases e; have hn := hn rfl
          exact K (by rw [e1, a87]; rfl)
        · obtain ⟨e1, e⟩ := cd_n e
          have e1 := Nat.eq_of_beq_eq_true e1
          cases e; have hn := hn rfl
          exact K (by rw [e1, a88]; rfl)
theorem dct4_ok {a : Nat} {t : List UInt8} {v : Instr × Nat} (h0 : ∃ q : pc < c.size, a = c[pc].toNat) (h1 : c.data.toList.drop (pc + 1) = t) (hm : Nat.ble 1 v.2 = true → has8 (v.2 - 1) t = true) (e : dct4 a (h8 t) (h8 (tl8 t)) = some v) : decode c pc = .ok v := by
  obtain ⟨g, hg, a89, a92, a96, a97, a100, a101, a104, a105, a108, a109, a112⟩ := inq8_4 pc
  obtain ⟨q, eq⟩ := h0
  have K : ∀ {v : Instr} {n : Nat}, (g a) c (pc + 1) = .ok (v, pc + n) → decode c pc = .ok (v, n) := fun z => dec_at hg q (by rw [← eq]; exact z)
  have hn := hm
  unfold dct4 at e
  rcases cd_l e with ⟨-, e⟩ | ⟨-, e⟩
  · rcases cd_l e with ⟨-, e⟩ | ⟨-, e⟩
    · rcases cd_l e with ⟨-, e⟩ | ⟨-, e⟩
      · obtain ⟨e1, e⟩ := cd_n e
        have e1 := Nat.eq_of_beq_eq_true e1
        cases e; have hn := hn rfl
        exact K (by rw [e1, a89]; rfl)
      · obtain ⟨e1, e⟩ := cd_n e
        have e1 := Nat.eq_of_beq_eq_true e1
        cases e; have hn := hn rfl
        exact K (by rw [e1, a92]; rfl)
    · rcases cd_l e with ⟨-, e⟩ | ⟨-, e⟩
      · obtain ⟨e1, e⟩ := cd_n e
        have e1 := Nat.eq_of_beq_eq_true e1
        cases e; have hn := hn rfl
        exact K (by rw [e1, a96]; rfl)
      · rcases cd_l e with ⟨-, e⟩ | ⟨-, e⟩
        · obtain ⟨e1, e⟩ := cd_n e
          have e1 := Nat.eq_of_beq_eq_true e1
          cases e; have hn := hn rfl
          exact K (by rw [e1, a97]; rfl)
        · obtain ⟨e1, e⟩ := cd_n e
          have e1 := Nat.eq_of_beq_eq_true e1
          cases e; have hn := hn rfl
          exact K (by rw [e1, a100]; rfl)
  · rcases cd_l e with ⟨-, e⟩ | ⟨-, e⟩
    · rcases cd_l e with ⟨-, e⟩ | ⟨-, e⟩
      · obtain ⟨e1, e⟩ := cd_n e
        have e1 := Nat.eq_of_beq_eq_true e1
        cases e; have hn := hn rfl
        exact K (by rw [e1, a101]; rfl)
      · rcases cd_l e with ⟨-, e⟩ | ⟨-, e⟩
        · obtain ⟨e1, e⟩ := cd_n e
          have e1 := Nat.eq_of_beq_eq_true e1
          cases e; have hn := hn rfl
          exact K (by rw [e1, a104]; rfl)
        · obtain ⟨e1, e⟩ := cd_n e
          have e1 := Nat.eq_of_beq_eq_true e1
          cases e; have hn := hn rfl
          exact K (by rw [e1, a105]; rfl)
    · rcases cd_l e with ⟨-, e⟩ | ⟨-, e⟩
      · obtain ⟨e1, e⟩ := cd_n e
        have e1 := Nat.eq_of_beq_eq_true e1
        cases e; have hn := hn rfl
        exact K (by rw [e1, a108]; rfl)
      · rcases cd_l e with ⟨-, e⟩ | ⟨-, e⟩
        · obtain ⟨e1, e⟩ := cd_n e
          have e1 := Nat.eq_of_beq_eq_true e1
          cases e; have hn := hn rfl
          exact K (by rw [e1, a109]; rfl)
        · obtain ⟨e1, e⟩ := cd_n e
          have e1 := Nat.eq_of_beq_eq_true e1
          cases e; have hn := hn rfl
          exact K (by rw [e1, a112]; rfl)
theorem dct5_ok {a : Nat} {t : List UInt8} {v : Instr × Nat} (h0 : ∃ q : pc < c.size, a = c[pc].toNat) (h1 : c.data.toList.drop (pc + 1) = t) (hm : Nat.ble 1 v.2 = true → has8 (v.2 - 1) t = true) (e : dct5 a (h8 t) (h8 (tl8 t)) = some v) : decode c pc = .ok v := by
  obtain ⟨g, hg, a113, a116, a120, a122, a124, a126, a128, a130, a132, a133, a145⟩ := inq8_5 pc
  obtain ⟨q, eq⟩ := h0
  have K : ∀ {v : Instr} {n : Nat}, (g a) c (pc + 1) = .ok (v, pc + n) → decode c pc = .ok (v, n) := fun z => dec_at hg q (by rw [← eq]; exact z)
  have hn := hm
  unfold dct5 at e
  rcases cd_l e with ⟨-, e⟩ | ⟨-, e⟩
  · rcases cd_l e with ⟨-, e⟩ | ⟨-, e⟩
    · rcases cd_l e with ⟨-, e⟩ | ⟨-, e⟩
      · obtain ⟨e1, e⟩ := cd_n e
        have e1 := Nat.eq_of_beq_eq_true e1
        cases e; have hn := hn rfl
        exact K (by rw [e1, a113]; rfl)
      · obtain ⟨e1, e⟩ := cd_n e
        have e1 := Nat.eq_of_beq_eq_true e1
        cases e; have hn := hn rfl
        exact K (by rw [e1, a116]; rfl)
    · rcases cd_l e with ⟨-, e⟩ | ⟨-, e⟩
      · obtain ⟨e1, e⟩ := cd_n e
        have e1 := Nat.eq_of_beq_eq_true e1
        cases e; have hn := hn rfl
        exact K (by rw [e1, a120]; rfl)
      · rcases cd_l e with ⟨-, e⟩ | ⟨-, e⟩
        · obtain ⟨e1, e⟩ := cd_n e
          have e1 := Nat.eq_of_beq_eq_true e1
          cases e; have hn := hn rfl
          exact K (by rw [e1, a122]; rfl)
        · obtain ⟨e1, e⟩ := cd_n e
          have e1 := Nat.eq_of_beq_eq_true e1
          cases e; have hn := hn rfl
          exact K (by rw [e1, a124]; rfl)
  · rcases cd_l e with ⟨-, e⟩ | ⟨-, e⟩
    · rcases cd_l e with ⟨-, e⟩ | ⟨-, e⟩
      · obtain ⟨e1, e⟩ := cd_n e
        have e1 := Nat.eq_of_beq_eq_true e1
        cases e; have hn := hn rfl
        exact K (by rw [e1, a126]; rfl)
      · rcases cd_l e with ⟨-, e⟩ | ⟨-, e⟩
        · obtain ⟨e1, e⟩ := cd_n e
          have e1 := Nat.eq_of_beq_eq_true e1
          cases e; have hn := hn rfl
          exact K (by rw [e1, a128]; rfl)
        · obtain ⟨e1, e⟩ := cd_n e
          have e1 := Nat.eq_of_beq_eq_true e1
          cases e; have hn := hn rfl
          exact K (by rw [e1, a130]; rfl)
    · rcases cd_l e with ⟨-, e⟩ | ⟨-, e⟩
      · obtain ⟨e1, e⟩ := cd_n e
        have e1 := Nat.eq_of_beq_eq_true e1
        cases e; have hn := hn rfl
        exact K (by rw [e1, a132, rd_bind (w8_u1 h1 (has8_1 hn)), rd_bind (w8_s1 (tl8_dr h1 hn).1 (tl8_dr h1 hn).2)]; rfl)
      · rcases cd_l e with ⟨-, e⟩ | ⟨-, e⟩
        · obtain ⟨e1, e⟩ := cd_n e
          have e1 := Nat.eq_of_beq_eq_true e1
          cases e; have hn := hn rfl
          exact K (by rw [e1, a133]; rfl)
        · obtain ⟨e1, e⟩ := cd_n e
          have e1 := Nat.eq_of_beq_eq_true e1
          cases e; have hn := hn rfl
          exact K (by rw [e1, a145]; rfl)
theorem dct6_ok {a : Nat} {t : List UInt8} {v : Instr × Nat} (h0 : ∃ q : pc < c.size, a = c[pc].toNat) (h1 : c.data.toList.drop (pc + 1) = t) (hm : Nat.ble 1 v.2 = true → has8 (v.2 - 1) t = true) (e : dct6 a (h8 t) (h8 (tl8 t)) = some v) : decode c pc = .ok v := by
  obtain ⟨g, hg, a148, a153, a154, a155, a156, a157, a158, a159, a160, a161, a162⟩ := inq8_6 pc
  obtain ⟨q, eq⟩ := h0
  have K : ∀ {v : Instr} {n : Nat}, (g a) c (pc + 1) = .ok (v, pc + n) → decode c pc = .ok (v, n) := fun z => dec_at hg q (by rw [← eq]; exact z)
  have hn := hm
  unfold dct6 at e
  rcases cd_l e with ⟨-, e⟩ | ⟨-, e⟩
  · rcases cd_l e with ⟨-, e⟩ | ⟨-, e⟩
    · rcases cd_l e with ⟨-, e⟩ | ⟨-, e⟩
      · obtain ⟨e1, e⟩ := cd_n e
        have e1 := Nat.eq_of_beq_eq_true e1
        cases e; have hn := hn rfl
        exact K (by rw [e1, a148]; rfl)
      · obtain ⟨e1, e⟩ := cd_n e
        have e1 := Nat.eq_of_beq_eq_true e1
        cases e; have hn := hn rfl
        exact K (by rw [e1, a153, rd_bind (w8_s2 h1 hn)]; rfl)
    · rcases cd_l e with ⟨-, e⟩ | ⟨-, e⟩
      · obtain ⟨e1, e⟩ := cd_n e
        have e1 := Nat.eq_of_beq_eq_true e1
        cases e; have hn := hn rfl
        exact K (by rw [e1, a154, rd_bind (w8_s2 h1 hn)]; rfl)
      · rcases cd_l e with ⟨-, e⟩ | ⟨-, e⟩
        · obtain ⟨e1, e⟩ := cd_n e
          have e1 := Nat.eq_of_beq_eq_true e1
          cases e; have hn := hn rfl
          exact K (by rw [e1, a155, rd_bind (w8_s2 h1 hn)]; rfl)
        · obtain ⟨e1, e⟩ := cd_n e
          have e1 := Nat.eq_of_beq_eq_true e1
          cases e; have hn := hn rfl
          exact K (by rw [e1, a156, rd_bind (w8_s2 h1 hn)]; rfl)
  · rcases cd_l e with ⟨-, e⟩ | ⟨-, e⟩
    · rcases cd_l e with ⟨-, e⟩ | ⟨-, e⟩
      · obtain ⟨e1, e⟩ := cd_n e
        have e1 := Nat.eq_of_beq_eq_true e1
        cases e; have hn := hn rfl
        exact K (by rw [e1, a157, rd_bind (w8_s2 h1 hn)]; rfl)
      · rcases cd_l e with ⟨-, e⟩ | ⟨-, e⟩
        · obtain ⟨e1, e⟩ := cd_n e
          have e1 := Nat.eq_of_beq_eq_true e1
          cases e; have hn := hn rfl
          exact K (by rw [e1, a158, rd_bind (w8_s2 h1 hn)]; rfl)
        · obtain ⟨e1, e⟩ := cd_n e
          have e1 := Nat.eq_of_beq_eq_true e1
          cases e; have hn := hn rfl
          exact K (by rw [e1, a159, rd_bind (w8_s2 h1 hn)]; rfl)
    · rcases cd_l e with ⟨-, e⟩ | ⟨-, e⟩
      · obtain ⟨e1, e⟩ := cd_n e
        have e1 := Nat.eq_of_beq_eq_true e1
        cases e; have hn := hn rfl
        exact K (by rw [e1, a160, rd_bind (w8_s2 h1 hn)]; rfl)
      · rcases cd_l e with ⟨-, e⟩ | ⟨-, e⟩
        · obtain ⟨e1, e⟩ := cd_n e
          have e1 := Nat.eq_of_beq_eq_true e1
          cases e; have hn := hn rfl
          exact K (by rw [e1, a161, rd_bind (w8_s2 h1 hn)]; rfl)
        · obtain ⟨e1, e⟩ := cd_n e
          have e1 := Nat.eq_of_beq_eq_true e1
          cases e; have hn := hn rfl
          exact K (by rw [e1, a162, rd_bind (w8_s2 h1 hn)]; rfl)
theorem dct7_ok {a : Nat} {t : List UInt8} {v : Instr × Nat} (h0 : ∃ q : pc < c.size, a = c[pc].toNat) (h1 : c.data.toList.drop (pc + 1) = t) (hm : Nat.ble 1 v.2 = true → has8 (v.2 - 1) t = true) (e : dct7 a (h8 t) (h8 (tl8 t)) = some v) : decode c pc = .ok v := by
  obtain ⟨g, hg, a163, a164, a167, a172, a173, a177, a180, a181, a182, a183, a184⟩ := inq8_7 pc
  obtain ⟨q, eq⟩ := h0
  have K : ∀ {v : Instr} {n : Nat}, (g a) c (pc + 1) = .ok (v, pc + n) → decode c pc = .ok (v, n) := fun z => dec_at hg q (by rw [← eq]; exact z)
  have hn := hm
  unfold dct7 at e
  rcases cd_l e with ⟨-, e⟩ | ⟨-, e⟩
  · rcases cd_l e with ⟨-, e⟩ | ⟨-, e⟩
    · rcases cd_l e with ⟨-, e⟩ | ⟨-, e⟩
      · obtain ⟨e1, e⟩ := cd_n e
        have e1 := Nat.eq_of_beq_eq_true e1
        cases e; have hn := hn rfl
        exact K (by rw [e1, a163, rd_bind (w8_s2 h1 hn)]; rfl)
      · obtain ⟨e1, e⟩ := cd_n e
        have e1 := Nat.eq_of_beq_eq_true e1
        cases e; have hn := hn rfl
        exact K (by rw [e1, a164, rd_bind (w8_s2 h1 hn)]; rfl)
    · rcases cd_l e with ⟨-, e⟩ | ⟨-, e⟩
      · obtain ⟨e1, e⟩ := cd_n e
        have e1 := Nat.eq_of_beq_eq_true e1
        cases e; have hn := hn rfl
        exact K (by rw [e1, a167, rd_bind (w8_s2 h1 hn)]; rfl)
      · rcases cd_l e with ⟨-, e⟩ | ⟨-, e⟩
        · obtain ⟨e1, e⟩ := cd_n e
          have e1 := Nat.eq_of_beq_eq_true e1
          cases e; have hn := hn rfl
          exact K (by rw [e1, a172]; rfl)
        · obtain ⟨e1, e⟩ := cd_n e
          have e1 := Nat.eq_of_beq_eq_true e1
          cases e; have hn := hn rfl
          exact K (by rw [e1, a173]; rfl)
  · rcases cd_l e with ⟨-, e⟩ | ⟨-, e⟩
    · rcases cd_l e with ⟨-, e⟩ | ⟨-, e⟩
      · obtain ⟨e1, e⟩ := cd_n e
        have e1 := Nat.eq_of_beq_eq_true e1
        cases e; have hn := hn rfl
        exact K (by rw [e1, a177]; rfl)
      · rcases cd_l e with ⟨-, e⟩ | ⟨-, e⟩
        · obtain ⟨e1, e⟩ := cd_n e
          have e1 := Nat.eq_of_beq_eq_true e1
          cases e; have hn := hn rfl
          exact K (by rw [e1, a180, rd_bind (w8_u2 h1 hn)]; rfl)
        · obtain ⟨e1, e⟩ := cd_n e
          have e1 := Nat.eq_of_beq_eq_true e1
          cases e; have hn := hn rfl
          exact K (by rw [e1, a181, rd_bind (w8_u2 h1 hn)]; rfl)
    · rcases cd_l e with ⟨-, e⟩ | ⟨-, e⟩
      · obtain ⟨e1, e⟩ := cd_n e
        have e1 := Nat.eq_of_beq_eq_true e1
        cases e; have hn := hn rfl
        exact K (by rw [e1, a182, rd_bind (w8_u2 h1 hn)]; rfl)
      · rcases cd_l e with ⟨-, e⟩ | ⟨-, e⟩
        · obtain ⟨e1, e⟩ := cd_n e
          have e1 := Nat.eq_of_beq_eq_true e1
          cases e; have hn := hn rfl
          exact K (by rw [e1, a183, rd_bind (w8_u2 h1 hn)]; rfl)
        · obtain ⟨e1, e⟩ := cd_n e
          have e1 := Nat.eq_of_beq_eq_true e1
          cases e; have hn := hn rfl
          exact K (by rw [e1, a184, rd_bind (w8_u2 h1 hn)]; rfl)
theorem dct8_ok {a : Nat} {t : List UInt8} {v : Instr × Nat} (h0 : ∃ q : pc < c.size, a = c[pc].toNat) (h1 : c.data.toList.drop (pc + 1) = t) (hm : Nat.ble 1 v.2 = true → has8 (v.2 - 1) t = true) (e : dct8 a (h8 t) (h8 (tl8 t)) = some v) : decode c pc = .ok v := by
  obtain ⟨g, hg, a187, a189⟩ := inq8_8 pc
  obtain ⟨q, eq⟩ := h0
  have K : ∀ {v : Instr} {n : Nat}, (g a) c (pc + 1) = .ok (v, pc + n) → decode c pc = .ok (v, n) := fun z => dec_at hg q (by rw [← eq]; exact z)
  have hn := hm
  unfold dct8 at e
  rcases cd_l e with ⟨-, e⟩ | ⟨-, e⟩
  · obtain ⟨e1, e⟩ := cd_n e
    have e1 := Nat.eq_of_beq_eq_true e1
    cases e; have hn := hn rfl
    exact K (by rw [e1, a187, rd_bind (w8_u2 h1 hn)]; rfl)
  · obtain ⟨e1, e⟩ := cd_n e
    have e1 := Nat.eq_of_beq_eq_true e1
    cases e; have hn := hn rfl
    exact K (by rw [e1, a189, rd_bind (w8_u2 h1 hn)]; rfl)
theorem dct_ok {a : Nat} {t : List UInt8} {v : Instr × Nat} (h0 : ∃ q : pc < c.size, a = c[pc].toNat) (h1 : c.data.toList.drop (pc + 1) = t) (hm : Nat.ble 1 v.2 = true → has8 (v.2 - 1) t = true) (e : dct a (h8 t) (h8 (tl8 t)) = some v) : decode c pc = .ok v := by
  unfold dct at e
  rcases cd_l e with ⟨-, e⟩ | ⟨-, e⟩
  · rcases cd_l e with ⟨-, e⟩ | ⟨-, e⟩
    · rcases cd_l e with ⟨-, e⟩ | ⟨-, e⟩
      · exact dct0_ok h0 h1 hm e
      · exact dct1_ok h0 h1 hm e
    · rcases cd_l e with ⟨-, e⟩ | ⟨-, e⟩
      · exact dct2_ok h0 h1 hm e
      · exact dct3_ok h0 h1 hm e
  · rcases cd_l e with ⟨-, e⟩ | ⟨-, e⟩
    · rcases cd_l e with ⟨-, e⟩ | ⟨-, e⟩
      · exact dct4_ok h0 h1 hm e
      · exact dct5_ok h0 h1 hm e
    · rcases cd_l e with ⟨-, e⟩ | ⟨-, e⟩
      · exact dct6_ok h0 h1 hm e
      · rcases cd_l e with ⟨-, e⟩ | ⟨-, e⟩
        · exact dct7_ok h0 h1 hm e
        · exact dct8_ok h0 h1 hm e
/-- a row, out of the bytes from its place on; else by decode itself -/
noncomputable def row8 (c : ByteArray) (L : List UInt8) (x : Nat × Instr × Nat) : Bool := (match L with
  | [] => false
  | u :: t => has8 (x.2.2 - 1) t && decide (dct u.toNat (h8 t) (h8 (tl8 t)) = some x.2)) || decide (decode c x.1 = .ok x.2)
noncomputable def sqI (c : ByteArray) : Nat → List UInt8 → List (Nat × Instr × Nat) → Bool
  | _, _, [] => true
  | pc, L, x :: t => Nat.beq x.1 pc && (row8 c L x && sqI c (pc + x.2.2) (L.drop x.2.2) t)
theorem row8_ok {L : List UInt8} {x : Nat × Instr × Nat} (hL : c.data.toList.drop x.1 = L) (h : row8 c L x = true) : decode c x.1 = .ok x.2 := by
  rcases Bool.or_eq_true_iff.mp h with h | h
  · cases L with
    | nil => cases h
    | cons u t =>
      obtain ⟨h1, h2⟩ := Bool.and_eq_true_iff.mp h
      obtain ⟨h0, h3⟩ := dr8 hL
      exact dct_ok h0 h3 (fun _ => h1) (of_decide_eq_true h2)
  · exact of_decide_eq_true h
theorem sq_ok : ∀ {il : List (Nat × Instr × Nat)} {B : Nat} {L : List UInt8}, c.data.toList.drop B = L → sqI c B L il = true → ∀ x ∈ il, decode c x.1 = .ok x.2
  | [], _, _, _, _ => fun _ hx => absurd hx List.not_mem_nil
  | y :: t, B, L, hL, h => by
    obtain ⟨h1, h2⟩ := Bool.and_eq_true_iff.mp h
    obtain ⟨h2, h3⟩ := Bool.and_eq_true_iff.mp h2
    have e1 : y.1 = B := Nat.eq_of_beq_eq_true h1
    intro x hx
    rcases List.mem_cons.mp hx with hx | hx
    · subst hx
      exact row8_ok (by rw [e1]; exact hL) h2
    · refine sq_ok (B := B + y.2.2) (L := L.drop y.2.2) ?_ h3 x hx
      rw [← hL, List.drop_drop]
end DCT
end
section
theorem acN : Cond.native arraycopyName ∈ wB := wT3 94 rfl (by decide +kernel)
theorem acS : Cond.static arraycopyName ∈ wB := wT3 93 rfl (by decide +kernel)
theorem acI : Cond.initialized "java/lang/System" ∈ wB := wT1 15 rfl (by decide +kernel)
theorem maX1_49 : Cond.methodLink RX1 49 arraycopyName ∈ wB := wT4 65 rfl (by decide +kernel)
theorem maX2_27 : Cond.methodLink RX2 27 arraycopyName ∈ wB := wT3 92 rfl (by decide +kernel)
end
