theorem flJ0_9 : Cond.fieldLink RJ0 9 "java/lang/String" "value" "[B" ∈ wB := wB_of 1928 (by decide +kernel) (by decide +kernel)
theorem flJ0_15 : Cond.fieldLink RJ0 15 "java/lang/String" "coder" "B" ∈ wB := wB_of 1929 (by decide +kernel) (by decide +kernel)
theorem flJ0_38 : Cond.fieldLink RJ0 38 "java/lang/String" "COMPACT_STRINGS" "Z" ∈ wB := wB_of 545 (by decide +kernel) (by decide +kernel)
theorem flJ0_1053 : Cond.fieldLink RJ0 1053 "jdk/internal/util/Preconditions" "SIOOBE_FORMATTER" "Ljava/util/function/BiFunction;" ∈ wB := wB_of 561 (by decide +kernel) (by decide +kernel)
theorem mlJ0_335 : Cond.methodLink RJ0 335 yJ0_coder_7d493 ∈ wB := wB_of 541 (by decide +kernel) (by decide +kernel)
theorem mlJ0_492 : Cond.methodLink RJ0 492 yJ0_isLatin1_aae02 ∈ wB := wB_of 551 (by decide +kernel) (by decide +kernel)
theorem mlJ0_495 : Cond.methodLink RJ0 495 yJ1_charAt_3b067 ∈ wB := wB_of 555 (by decide +kernel) (by decide +kernel)
theorem mlJ0_1059 : Cond.methodLink RJ0 1059 yJ3_checkIndex_8e157 ∈ wB := wB_of 563 (by decide +kernel) (by decide +kernel)
theorem mlJ1_9 : Cond.methodLink RJ1 9 yJ0_checkIndex_df160 ∈ wB := wB_of 558 (by decide +kernel) (by decide +kernel)
theorem cv_J0_coder_7d493 : cV uJ0_coder_7d493 0 := ⟨⟨wB_of 544 (by decide +kernel) (by decide +kernel), wB_of 136 (by decide +kernel) (by decide +kernel), by decide +kernel, by decide⟩, wB_of 542 (by decide +kernel) (by decide +kernel), wB_of 543 (by decide +kernel) (by decide +kernel)⟩
theorem cv_J0_isLatin1_aae02 : cV uJ0_isLatin1_aae02 0 := ⟨⟨wB_of 554 (by decide +kernel) (by decide +kernel), wB_of 136 (by decide +kernel) (by decide +kernel), by decide +kernel, by decide⟩, wB_of 552 (by decide +kernel) (by decide +kernel), wB_of 553 (by decide +kernel) (by decide +kernel)⟩
theorem ct_J1_charAt_3b067 : cT uJ1_charAt_3b067 2 := ⟨⟨wB_of 557 (by decide +kernel) (by decide +kernel), wB_of 137 (by decide +kernel) (by decide +kernel), by decide +kernel, by decide⟩, wB_of 556 (by decide +kernel) (by decide +kernel)⟩
theorem ct_J0_checkIndex_df160 : cT uJ0_checkIndex_df160 2 := ⟨⟨wB_of 560 (by decide +kernel) (by decide +kernel), wB_of 136 (by decide +kernel) (by decide +kernel), by decide +kernel, by decide⟩, wB_of 559 (by decide +kernel) (by decide +kernel)⟩
theorem ct_J3_checkIndex_8e157 : cT uJ3_checkIndex_8e157 3 := ⟨⟨wB_of 565 (by decide +kernel) (by decide +kernel), wB_of 138 (by decide +kernel) (by decide +kernel), by decide +kernel, by decide⟩, wB_of 564 (by decide +kernel) (by decide +kernel)⟩
def ilJ0_coder_7d493 : List (Nat × Instr × Nat) := [(0, .getstatic 38, 3), (3, .ifCond .eq 10, 3), (6, .aload_n 0, 1), (7, .getfield 15, 3), (10, .goto 4, 3), (13, .iconst 1, 1), (14, .ireturn, 1)]
theorem idJ0_coder_7d493 : ∀ x ∈ ilJ0_coder_7d493, decode cJ0_coder_7d493 x.1 = .ok x.2 := by decide +kernel
def tbJ0_coder_7d493 (l : Launch) (X : Nat × (Nat → Int32)) (d : Nat) : List (Nat × OP) := [(0, oGz 0), (3, oIf 3 13 (fun x => x = 0) (fun x => ¬ x = 0)), (6, oAl 6 1 0), (7, oGsc 7), (10, oGo 14), (13, oIc 13 1 1), (14, oTr .byte)]
set_option maxRecDepth 20000 in
theorem tkJ0_coder_7d493 {l : Launch} {X : Nat × (Nat → Int32)} {d : Nat} {na : Bool} {b : Nat × Nat} : ∀ x ∈ tbJ0_coder_7d493 l X d, OK l X uJ0_coder_7d493 d na b x.1 x.2 :=
  List.forall_mem_cons.mpr ⟨ok_gz flJ0_38 (idJ0_coder_7d493 (0, .getstatic 38, 3) (List.mem_of_getElem? (i := 0) rfl)), List.forall_mem_cons.mpr ⟨ok_ifeq (t := 13) (by decide) (idJ0_coder_7d493 (3, .ifCond .eq 10, 3) (List.mem_of_getElem? (i := 1) rfl)), List.forall_mem_cons.mpr ⟨ok_aload_n (i := 0) (k := 0) rfl (idJ0_coder_7d493 (6, .aload_n 0, 1) (List.mem_of_getElem? (i := 2) rfl)), List.forall_mem_cons.mpr ⟨ok_gsc flJ0_15 (idJ0_coder_7d493 (7, .getfield 15, 3) (List.mem_of_getElem? (i := 3) rfl)), List.forall_mem_cons.mpr ⟨ok_goto (t := 14) (by decide) (idJ0_coder_7d493 (10, .goto 4, 3) (List.mem_of_getElem? (i := 4) rfl)), List.forall_mem_cons.mpr ⟨ok_iconst (n := 1) (v := 1) (by decide) (idJ0_coder_7d493 (13, .iconst 1, 1) (List.mem_of_getElem? (i := 5) rfl)), List.forall_mem_cons.mpr ⟨ok_tr rfl (idJ0_coder_7d493 (14, .ireturn, 1) (List.mem_of_getElem? (i := 6) rfl)), fun _ h => absurd h List.not_mem_nil⟩⟩⟩⟩⟩⟩⟩
def ilJ0_isLatin1_aae02 : List (Nat × Instr × Nat) := [(0, .getstatic 38, 3), (3, .ifCond .eq 14, 3), (6, .aload_n 0, 1), (7, .getfield 15, 3), (10, .ifCond .ne 7, 3), (13, .iconst 1, 1), (14, .goto 4, 3), (17, .iconst 0, 1), (18, .ireturn, 1)]
theorem idJ0_isLatin1_aae02 : ∀ x ∈ ilJ0_isLatin1_aae02, decode cJ0_isLatin1_aae02 x.1 = .ok x.2 := by decide +kernel
def tbJ0_isLatin1_aae02 (l : Launch) (X : Nat × (Nat → Int32)) (d : Nat) : List (Nat × OP) := [(0, oGz 0), (3, oIf 3 17 (fun x => x = 0) (fun x => ¬ x = 0)), (6, oAl 6 1 0), (7, oGsc 7), (10, oIf 10 17 (fun x => ¬ x = 0) (fun x => x = 0)), (13, oIc 13 1 1), (14, oGo 18), (17, oIc 17 1 0), (18, oZr)]
set_option maxRecDepth 20000 in
theorem tkJ0_isLatin1_aae02 {l : Launch} {X : Nat × (Nat → Int32)} {d : Nat} {na : Bool} {b : Nat × Nat} : ∀ x ∈ tbJ0_isLatin1_aae02 l X d, OK l X uJ0_isLatin1_aae02 d na b x.1 x.2 :=
  List.forall_mem_cons.mpr ⟨ok_gz flJ0_38 (idJ0_isLatin1_aae02 (0, .getstatic 38, 3) (List.mem_of_getElem? (i := 0) rfl)), List.forall_mem_cons.mpr ⟨ok_ifeq (t := 17) (by decide) (idJ0_isLatin1_aae02 (3, .ifCond .eq 14, 3) (List.mem_of_getElem? (i := 1) rfl)), List.forall_mem_cons.mpr ⟨ok_aload_n (i := 0) (k := 0) rfl (idJ0_isLatin1_aae02 (6, .aload_n 0, 1) (List.mem_of_getElem? (i := 2) rfl)), List.forall_mem_cons.mpr ⟨ok_gsc flJ0_15 (idJ0_isLatin1_aae02 (7, .getfield 15, 3) (List.mem_of_getElem? (i := 3) rfl)), List.forall_mem_cons.mpr ⟨ok_ifne (t := 17) (by decide) (idJ0_isLatin1_aae02 (10, .ifCond .ne 7, 3) (List.mem_of_getElem? (i := 4) rfl)), List.forall_mem_cons.mpr ⟨ok_iconst (n := 1) (v := 1) (by decide) (idJ0_isLatin1_aae02 (13, .iconst 1, 1) (List.mem_of_getElem? (i := 5) rfl)), List.forall_mem_cons.mpr ⟨ok_goto (t := 18) (by decide) (idJ0_isLatin1_aae02 (14, .goto 4, 3) (List.mem_of_getElem? (i := 6) rfl)), List.forall_mem_cons.mpr ⟨ok_iconst (n := 0) (v := 0) (by decide) (idJ0_isLatin1_aae02 (17, .iconst 0, 1) (List.mem_of_getElem? (i := 7) rfl)), List.forall_mem_cons.mpr ⟨ok_zr rfl (idJ0_isLatin1_aae02 (18, .ireturn, 1) (List.mem_of_getElem? (i := 8) rfl)), fun _ h => absurd h List.not_mem_nil⟩⟩⟩⟩⟩⟩⟩⟩⟩
def ilJ0_length_8abf5 : List (Nat × Instr × Nat) := [(0, .aload_n 0, 1), (1, .getfield 9, 3), (4, .arraylength, 1), (5, .aload_n 0, 1), (6, .invokevirtual 335, 3), (9, .ishr, 1), (10, .ireturn, 1)]
theorem idJ0_length_8abf5 : ∀ x ∈ ilJ0_length_8abf5, decode cJ0_length_8abf5 x.1 = .ok x.2 := by decide +kernel
def tbJ0_length_8abf5 (l : Launch) (X : Nat × (Nat → Int32)) (d : Nat) : List (Nat × OP) := [(0, oAl 0 1 0), (1, oGsv 1), (4, oSln 4), (5, oAl 5 1 0), (6, oCq l X d 6 uJ0_coder_7d493 0), (9, o2 9 (fun x y => x >>> (y &&& 31))), (10, oIr)]
set_option maxRecDepth 20000 in
theorem tkJ0_length_8abf5 {l : Launch} {X : Nat × (Nat → Int32)} {d : Nat} {na : Bool} {b : Nat × Nat} : ∀ x ∈ tbJ0_length_8abf5 l X d, OK l X uJ0_length_8abf5 (d + 1) na b x.1 x.2 :=
  List.forall_mem_cons.mpr ⟨ok_aload_n (i := 0) (k := 0) rfl (idJ0_length_8abf5 (0, .aload_n 0, 1) (List.mem_of_getElem? (i := 0) rfl)), List.forall_mem_cons.mpr ⟨ok_gsv flJ0_9 (idJ0_length_8abf5 (1, .getfield 9, 3) (List.mem_of_getElem? (i := 1) rfl)), List.forall_mem_cons.mpr ⟨ok_sln (idJ0_length_8abf5 (4, .arraylength, 1) (List.mem_of_getElem? (i := 2) rfl)), List.forall_mem_cons.mpr ⟨ok_aload_n (i := 0) (k := 0) rfl (idJ0_length_8abf5 (5, .aload_n 0, 1) (List.mem_of_getElem? (i := 3) rfl)), List.forall_mem_cons.mpr ⟨ok_cq cv_J0_coder_7d493 rfl mlJ0_335 (idJ0_length_8abf5 (6, .invokevirtual 335, 3) (List.mem_of_getElem? (i := 4) rfl)), List.forall_mem_cons.mpr ⟨ok_ishr (idJ0_length_8abf5 (9, .ishr, 1) (List.mem_of_getElem? (i := 5) rfl)), List.forall_mem_cons.mpr ⟨ok_ir rfl (idJ0_length_8abf5 (10, .ireturn, 1) (List.mem_of_getElem? (i := 6) rfl)), fun _ h => absurd h List.not_mem_nil⟩⟩⟩⟩⟩⟩⟩
def ilJ0_charAt_5068e : List (Nat × Instr × Nat) := [(0, .aload_n 0, 1), (1, .invokevirtual 492, 3), (4, .ifCond .eq 12, 3), (7, .aload_n 0, 1), (8, .getfield 9, 3), (11, .iload_n 1, 1), (12, .invokestatic 495, 3), (15, .ireturn, 1)]
theorem idJ0_charAt_5068e : ∀ x ∈ ilJ0_charAt_5068e, decode cJ0_charAt_5068e x.1 = .ok x.2 := by decide +kernel
def tbJ0_charAt_5068e (l : Launch) (X : Nat × (Nat → Int32)) (d : Nat) : List (Nat × OP) := [(0, oAl 0 1 0), (1, oCq l X d 1 uJ0_isLatin1_aae02 0), (4, oIf 4 16 (fun x => x = 0) (fun x => ¬ x = 0)), (7, oAl 7 1 0), (8, oGsv 8), (11, oIl 11 1 1), (12, oCs l X d 12 uJ1_charAt_3b067 2), (15, oTr .char)]
set_option maxRecDepth 20000 in
theorem tkJ0_charAt_5068e {l : Launch} {X : Nat × (Nat → Int32)} {d : Nat} {na : Bool} {b : Nat × Nat} : ∀ x ∈ tbJ0_charAt_5068e l X d, OK l X uJ0_charAt_5068e (d + 1) na b x.1 x.2 :=
  List.forall_mem_cons.mpr ⟨ok_aload_n (i := 0) (k := 0) rfl (idJ0_charAt_5068e (0, .aload_n 0, 1) (List.mem_of_getElem? (i := 0) rfl)), List.forall_mem_cons.mpr ⟨ok_cq cv_J0_isLatin1_aae02 rfl mlJ0_492 (idJ0_charAt_5068e (1, .invokevirtual 492, 3) (List.mem_of_getElem? (i := 1) rfl)), List.forall_mem_cons.mpr ⟨ok_ifeq (t := 16) (by decide) (idJ0_charAt_5068e (4, .ifCond .eq 12, 3) (List.mem_of_getElem? (i := 2) rfl)), List.forall_mem_cons.mpr ⟨ok_aload_n (i := 0) (k := 0) rfl (idJ0_charAt_5068e (7, .aload_n 0, 1) (List.mem_of_getElem? (i := 3) rfl)), List.forall_mem_cons.mpr ⟨ok_gsv flJ0_9 (idJ0_charAt_5068e (8, .getfield 9, 3) (List.mem_of_getElem? (i := 4) rfl)), List.forall_mem_cons.mpr ⟨ok_iload_n (i := 1) (k := 1) rfl (idJ0_charAt_5068e (11, .iload_n 1, 1) (List.mem_of_getElem? (i := 5) rfl)), List.forall_mem_cons.mpr ⟨ok_cs ct_J1_charAt_3b067 mlJ0_495 (idJ0_charAt_5068e (12, .invokestatic 495, 3) (List.mem_of_getElem? (i := 6) rfl)), List.forall_mem_cons.mpr ⟨ok_tr rfl (idJ0_charAt_5068e (15, .ireturn, 1) (List.mem_of_getElem? (i := 7) rfl)), fun _ h => absurd h List.not_mem_nil⟩⟩⟩⟩⟩⟩⟩⟩
def ilJ1_charAt_3b067 : List (Nat × Instr × Nat) := [(0, .iload_n 1, 1), (1, .aload_n 0, 1), (2, .arraylength, 1), (3, .invokestatic 9, 3), (6, .aload_n 0, 1), (7, .iload_n 1, 1), (8, .baload, 1), (9, .sipush 255, 3), (12, .iand, 1), (13, .i2c, 1), (14, .ireturn, 1)]
theorem idJ1_charAt_3b067 : ∀ x ∈ ilJ1_charAt_3b067, decode cJ1_charAt_3b067 x.1 = .ok x.2 := by decide +kernel
def tbJ1_charAt_3b067 (l : Launch) (X : Nat × (Nat → Int32)) (d : Nat) : List (Nat × OP) := [(0, oIl 0 1 1), (1, oAl 1 1 0), (2, oSln 2), (3, oCs l X d 3 uJ0_checkIndex_df160 2), (6, oAl 6 1 0), (7, oIl 7 1 1), (8, oSbl 8), (9, oIc 9 3 255), (12, o2 12 (fun x y => x &&& y)), (13, o1 13 (fun x => (x.toUInt32 % 65536).toInt32)), (14, oTr .char)]
set_option maxRecDepth 20000 in
theorem tkJ1_charAt_3b067 {l : Launch} {X : Nat × (Nat → Int32)} {d : Nat} {na : Bool} {b : Nat × Nat} : ∀ x ∈ tbJ1_charAt_3b067 l X d, OK l X uJ1_charAt_3b067 (d + 1) na b x.1 x.2 :=
  List.forall_mem_cons.mpr ⟨ok_iload_n (i := 1) (k := 1) rfl (idJ1_charAt_3b067 (0, .iload_n 1, 1) (List.mem_of_getElem? (i := 0) rfl)), List.forall_mem_cons.mpr ⟨ok_aload_n (i := 0) (k := 0) rfl (idJ1_charAt_3b067 (1, .aload_n 0, 1) (List.mem_of_getElem? (i := 1) rfl)), List.forall_mem_cons.mpr ⟨ok_sln (idJ1_charAt_3b067 (2, .arraylength, 1) (List.mem_of_getElem? (i := 2) rfl)), List.forall_mem_cons.mpr ⟨ok_cs ct_J0_checkIndex_df160 mlJ1_9 (idJ1_charAt_3b067 (3, .invokestatic 9, 3) (List.mem_of_getElem? (i := 3) rfl)), List.forall_mem_cons.mpr ⟨ok_aload_n (i := 0) (k := 0) rfl (idJ1_charAt_3b067 (6, .aload_n 0, 1) (List.mem_of_getElem? (i := 4) rfl)), List.forall_mem_cons.mpr ⟨ok_iload_n (i := 1) (k := 1) rfl (idJ1_charAt_3b067 (7, .iload_n 1, 1) (List.mem_of_getElem? (i := 5) rfl)), List.forall_mem_cons.mpr ⟨ok_sbl (idJ1_charAt_3b067 (8, .baload, 1) (List.mem_of_getElem? (i := 6) rfl)), List.forall_mem_cons.mpr ⟨ok_sipush (n := 255) (v := 255) (by decide) (idJ1_charAt_3b067 (9, .sipush 255, 3) (List.mem_of_getElem? (i := 7) rfl)), List.forall_mem_cons.mpr ⟨ok_iand (idJ1_charAt_3b067 (12, .iand, 1) (List.mem_of_getElem? (i := 8) rfl)), List.forall_mem_cons.mpr ⟨ok_i2c (idJ1_charAt_3b067 (13, .i2c, 1) (List.mem_of_getElem? (i := 9) rfl)), List.forall_mem_cons.mpr ⟨ok_tr rfl (idJ1_charAt_3b067 (14, .ireturn, 1) (List.mem_of_getElem? (i := 10) rfl)), fun _ h => absurd h List.not_mem_nil⟩⟩⟩⟩⟩⟩⟩⟩⟩⟩⟩
def ilJ3_checkIndex_8e157 : List (Nat × Instr × Nat) := [(0, .iload_n 0, 1), (1, .ifCond .lt 8, 3), (4, .iload_n 0, 1), (5, .iload_n 1, 1), (6, .if_icmp .lt 10, 3), (16, .iload_n 0, 1), (17, .ireturn, 1)]
theorem idJ3_checkIndex_8e157 : ∀ x ∈ ilJ3_checkIndex_8e157, decode cJ3_checkIndex_8e157 x.1 = .ok x.2 := by decide +kernel
def tbJ3_checkIndex_8e157 (l : Launch) (X : Nat × (Nat → Int32)) (d : Nat) : List (Nat × OP) := [(0, oIl 0 1 0), (1, oIf 1 9 (fun x => x < 0) (fun x => ¬ x < 0)), (4, oIl 4 1 0), (5, oIl 5 1 1), (6, oCm 6 16 (fun x y => x < y) (fun x y => ¬ x < y)), (16, oIl 16 1 0), (17, oIr)]
set_option maxRecDepth 20000 in
theorem tkJ3_checkIndex_8e157 {l : Launch} {X : Nat × (Nat → Int32)} {d : Nat} {na : Bool} {b : Nat × Nat} : ∀ x ∈ tbJ3_checkIndex_8e157 l X d, OK l X uJ3_checkIndex_8e157 d na b x.1 x.2 :=
  List.forall_mem_cons.mpr ⟨ok_iload_n (i := 0) (k := 0) rfl (idJ3_checkIndex_8e157 (0, .iload_n 0, 1) (List.mem_of_getElem? (i := 0) rfl)), List.forall_mem_cons.mpr ⟨ok_iflt (t := 9) (by decide) (idJ3_checkIndex_8e157 (1, .ifCond .lt 8, 3) (List.mem_of_getElem? (i := 1) rfl)), List.forall_mem_cons.mpr ⟨ok_iload_n (i := 0) (k := 0) rfl (idJ3_checkIndex_8e157 (4, .iload_n 0, 1) (List.mem_of_getElem? (i := 2) rfl)), List.forall_mem_cons.mpr ⟨ok_iload_n (i := 1) (k := 1) rfl (idJ3_checkIndex_8e157 (5, .iload_n 1, 1) (List.mem_of_getElem? (i := 3) rfl)), List.forall_mem_cons.mpr ⟨ok_icmplt (t := 16) (by decide) (idJ3_checkIndex_8e157 (6, .if_icmp .lt 10, 3) (List.mem_of_getElem? (i := 4) rfl)), List.forall_mem_cons.mpr ⟨ok_iload_n (i := 0) (k := 0) rfl (idJ3_checkIndex_8e157 (16, .iload_n 0, 1) (List.mem_of_getElem? (i := 5) rfl)), List.forall_mem_cons.mpr ⟨ok_ir rfl (idJ3_checkIndex_8e157 (17, .ireturn, 1) (List.mem_of_getElem? (i := 6) rfl)), fun _ h => absurd h List.not_mem_nil⟩⟩⟩⟩⟩⟩⟩
def ilJ0_checkIndex_df160 : List (Nat × Instr × Nat) := [(0, .iload_n 0, 1), (1, .iload_n 1, 1), (2, .getstatic 1053, 3), (5, .invokestatic 1059, 3), (8, .pop, 1), (9, .return_, 1)]
theorem idJ0_checkIndex_df160 : ∀ x ∈ ilJ0_checkIndex_df160, decode cJ0_checkIndex_df160 x.1 = .ok x.2 := by decide +kernel
def tbJ0_checkIndex_df160 (l : Launch) (X : Nat × (Nat → Int32)) (d : Nat) : List (Nat × OP) := [(0, oIl 0 1 0), (1, oIl 1 1 1), (2, oGq 2), (5, oCs l X d 5 uJ3_checkIndex_8e157 3), (8, oPop 8), (9, oVr)]
set_option maxRecDepth 20000 in
theorem tkJ0_checkIndex_df160 {l : Launch} {X : Nat × (Nat → Int32)} {d : Nat} {b : Nat × Nat} : ∀ x ∈ tbJ0_checkIndex_df160 l X d, OK l X uJ0_checkIndex_df160 (d + 1) false b x.1 x.2 :=
  List.forall_mem_cons.mpr ⟨ok_iload_n (i := 0) (k := 0) rfl (idJ0_checkIndex_df160 (0, .iload_n 0, 1) (List.mem_of_getElem? (i := 0) rfl)), List.forall_mem_cons.mpr ⟨ok_iload_n (i := 1) (k := 1) rfl (idJ0_checkIndex_df160 (1, .iload_n 1, 1) (List.mem_of_getElem? (i := 1) rfl)), List.forall_mem_cons.mpr ⟨ok_gq flJ0_1053 (idJ0_checkIndex_df160 (2, .getstatic 1053, 3) (List.mem_of_getElem? (i := 2) rfl)), List.forall_mem_cons.mpr ⟨ok_cs ct_J3_checkIndex_8e157 mlJ0_1059 (idJ0_checkIndex_df160 (5, .invokestatic 1059, 3) (List.mem_of_getElem? (i := 3) rfl)), List.forall_mem_cons.mpr ⟨ok_pop (idJ0_checkIndex_df160 (8, .pop, 1) (List.mem_of_getElem? (i := 4) rfl)), List.forall_mem_cons.mpr ⟨ok_vr rfl (idJ0_checkIndex_df160 (9, .return_, 1) (List.mem_of_getElem? (i := 5) rfl)), fun _ h => absurd h List.not_mem_nil⟩⟩⟩⟩⟩⟩
section STR2
variable {l : Launch} {X : Nat × (Nat → Int32)} {d : Nat} {M : Mm} {kr : KR} {a : Nat}
set_option maxRecDepth 20000 in
theorem k_coder (ha : 5000 ≤ a ∧ a < 5042) (h : kr (some (.int 0)) M) : Ev l X uJ0_coder_7d493 d true 0 0 [.ref a] M kr := by
  refine Ev.ofF (by decide +kernel) (Nat.le_of_ble_eq_true rfl) ?_
  have p0 : Nat.blt 0 a = true := Nat.ble_eq_true_of_le (by omega)
  refine Wf.stp1 tkJ0_coder_7d493 (o := oGz 0) rfl ?_
  refine Wf.sIf tkJ0_coder_7d493 rfl (fun w => absurd w (by decide)) (fun _ => ?_)
  refine Wf.sAl tkJ0_coder_7d493 rfl rfl p0 ?_
  refine Wf.stp1 tkJ0_coder_7d493 (o := oGsc 7) rfl ⟨ha, ?_⟩
  refine Wf.sGo tkJ0_coder_7d493 rfl ?_
  exact Wf.stp1 tkJ0_coder_7d493 (o := oTr .byte) rfl ⟨by decide, h⟩
set_option maxRecDepth 20000 in
theorem k_latin (ha : 5000 ≤ a ∧ a < 5042) (h : kr (some (.int 1)) M) : Ev l X uJ0_isLatin1_aae02 d true 0 0 [.ref a] M kr := by
  refine Ev.ofF (by decide +kernel) (Nat.le_of_ble_eq_true rfl) ?_
  have p0 : Nat.blt 0 a = true := Nat.ble_eq_true_of_le (by omega)
  refine Wf.stp1 tkJ0_isLatin1_aae02 (o := oGz 0) rfl ?_
  refine Wf.sIf tkJ0_isLatin1_aae02 rfl (fun w => absurd w (by decide)) (fun _ => ?_)
  refine Wf.sAl tkJ0_isLatin1_aae02 rfl rfl p0 ?_
  refine Wf.stp1 tkJ0_isLatin1_aae02 (o := oGsc 7) rfl ⟨ha, ?_⟩
  refine Wf.sIf tkJ0_isLatin1_aae02 rfl (fun w => absurd rfl w) (fun _ => ?_)
  refine Wf.sIc tkJ0_isLatin1_aae02 rfl ?_
  refine Wf.sGo tkJ0_isLatin1_aae02 rfl ?_
  exact Wf.sZr tkJ0_isLatin1_aae02 rfl (Or.inr rfl) h
theorem shr0 (x : Int32) : x >>> ((0 : Int32) &&& 31) = x := by
  have e : (0 : Int32) &&& 31 = 0 := by decide
  rw [e]
  simp
set_option maxRecDepth 20000 in
theorem k_len (ha : 5000 ≤ a ∧ a < 5042) (h : kr (some (.int (nI (tB (a - 5000)).length))) M) : Ev l X uJ0_length_8abf5 (d + 1) true 0 0 [.ref a] M kr := by
  refine Ev.ofF (by decide +kernel) (Nat.le_of_ble_eq_true rfl) ?_
  have p0 : Nat.blt 0 a = true := Nat.ble_eq_true_of_le (by omega)
  refine Wf.sAl tkJ0_length_8abf5 rfl rfl p0 ?_
  refine Wf.stp1 tkJ0_length_8abf5 (o := oGsv 1) rfl ⟨ha, ?_⟩
  refine Wf.stp1 tkJ0_length_8abf5 (o := oSln 4) rfl ⟨⟨by omega, by omega⟩, ?_⟩
  rw [show a + 100 - 5100 = a - 5000 by omega]
  refine Wf.sAl tkJ0_length_8abf5 rfl rfl p0 ?_
  refine Wf.sCq tkJ0_length_8abf5 rfl rfl ha rfl ?_
  refine k_coder ha ?_
  refine Wf.s2 (x := nI (tB (a - 5000)).length) (y := 0) tkJ0_length_8abf5 rfl ?_
  rw [shr0]
  exact Wf.sIr tkJ0_length_8abf5 rfl h
set_option maxRecDepth 20000 in
theorem k_ck3 {i n : Int32} {x : Value} (hi : ¬ i < 0) (hn : i < n) (hx : (lg_sl [.int i, .int n, x]).length = 3) (h : kr (some (.int i)) M) : Ev l X uJ3_checkIndex_8e157 d true 0 0 [.int i, .int n, x] M kr := by
  refine Ev.ofF (by decide +kernel) (by rw [hx]; exact Nat.le_of_ble_eq_true rfl) ?_
  refine Wf.sIl tkJ3_checkIndex_8e157 rfl rfl ?_
  refine Wf.sIf tkJ3_checkIndex_8e157 rfl (fun w => absurd w hi) (fun _ => ?_)
  refine Wf.sIl tkJ3_checkIndex_8e157 rfl rfl ?_
  refine Wf.sIl tkJ3_checkIndex_8e157 rfl rfl ?_
  refine Wf.sCm tkJ3_checkIndex_8e157 rfl (fun _ => ?_) (fun w => absurd hn w)
  refine Wf.sIl tkJ3_checkIndex_8e157 rfl rfl ?_
  exact Wf.sIr tkJ3_checkIndex_8e157 rfl h
set_option maxRecDepth 20000 in
theorem k_ck0 {i n : Int32} (hi : ¬ i < 0) (hn : i < n) (h : kr none M) : Ev l X uJ0_checkIndex_df160 (d + 1) true 0 0 [.int i, .int n] M kr := by
  refine Ev.ofF (by decide +kernel) (Nat.le_of_ble_eq_true rfl) ?_
  refine Wf.loose ?_
  refine Wf.sIl tkJ0_checkIndex_df160 rfl rfl ?_
  refine Wf.sIl tkJ0_checkIndex_df160 rfl rfl ?_
  have n1 : nref [.int n, .int i] := by
    intro v hv a e
    rcases List.mem_cons.mp hv with z | z
    · rw [z] at e; cases e
    · rw [List.mem_singleton.mp z] at e; cases e
  refine Wf.stp1 tkJ0_checkIndex_df160 (o := oGq 2) rfl ⟨⟨n1, ?_⟩, ?_, ?_⟩
  · intro x hx a e
    rcases List.mem_cons.mp hx with z | z
    · rw [z] at e; cases e
    · rw [List.mem_singleton.mp z] at e; cases e
  · refine Wf.sCs tkJ0_checkIndex_df160 rfl rfl rfl ?_
    refine k_ck3 hi hn rfl ?_
    refine Wf.sPop tkJ0_checkIndex_df160 rfl rfl ?_
    exact Wf.sVr tkJ0_checkIndex_df160 rfl ⟨rfl, rfl, h⟩
  · refine Wf.sCs tkJ0_checkIndex_df160 rfl rfl rfl ?_
    refine k_ck3 hi hn rfl ?_
    refine Wf.sPop tkJ0_checkIndex_df160 rfl rfl ?_
    exact Wf.sVr tkJ0_checkIndex_df160 rfl ⟨rfl, rfl, h⟩
theorem i2c_b : ∀ k : Fin 256, ((nI k.val).toUInt32 % 65536).toInt32 = nI k.val := by decide +kernel
theorem nar_c : ∀ k : Fin 256, narrow .char (.int (nI k.val)) = .int (nI k.val) := by decide +kernel
theorem and255 (x : Int32) : ∃ k : Fin 256, x &&& 255 = nI k.val := by
  have h := and_b (x := x) (y := 255) (by decide)
  have e : (255 : Int32).toInt = 255 := by decide
  rw [e] at h
  exact ⟨⟨(x &&& 255).toInt.toNat, by omega⟩, nI_at (by omega) (by omega)⟩
theorem len7 : ∀ i : Fin 42, (tB i.val).length ≤ 7 ∧ 2 ≤ (tB i.val).length := by decide +kernel
set_option maxRecDepth 20000 in
theorem k_ch1 {j : Nat} (ha : 5100 ≤ a ∧ a < 5142) (hj : j < (tB (a - 5100)).length) (h : ∀ k : Fin 256, kr (some (.int (nI k.val))) M) : Ev l X uJ1_charAt_3b067 (d + 2) true 0 0 [.ref a, .int (nI j)] M kr := by
  refine Ev.ofF (by decide +kernel) (Nat.le_of_ble_eq_true rfl) ?_
  have p0 : Nat.blt 0 a = true := Nat.ble_eq_true_of_le (by omega)
  have hl := len7 ⟨a - 5100, by omega⟩
  have hl1 : (tB (a - 5100)).length ≤ 7 := hl.1
  refine Wf.sIl tkJ1_charAt_3b067 rfl rfl ?_
  refine Wf.sAl tkJ1_charAt_3b067 rfl rfl p0 ?_
  refine Wf.stp1 tkJ1_charAt_3b067 (o := oSln 2) rfl ⟨ha, ?_⟩
  refine Wf.sCs tkJ1_charAt_3b067 rfl rfl rfl ?_
  refine k_ck0 (nI_pos (by omega)) (Int32.not_le.mp (nI_ge hj (by omega))) ?_
  refine Wf.sAl tkJ1_charAt_3b067 rfl rfl p0 ?_
  refine Wf.sIl tkJ1_charAt_3b067 rfl rfl ?_
  refine Wf.stp1 tkJ1_charAt_3b067 (o := oSbl 8) rfl ⟨ha, ?_, ?_⟩
  · intro z
    rcases z with z | z
    · exact nI_pos (by omega) z
    · rw [nI_clamp (by omega)] at z; omega
  refine Wf.sIc tkJ1_charAt_3b067 rfl ?_
  refine Wf.s2 tkJ1_charAt_3b067 rfl ?_
  obtain ⟨k, hk⟩ := and255 ((tB (a - 5100)).getD (nI j).toNatClampNeg 0)
  refine Wf.stp1 tkJ1_charAt_3b067 (o := o1 13 (fun x => (x.toUInt32 % 65536).toInt32)) rfl ?_
  have e : ((((tB (a - 5100)).getD (nI j).toNatClampNeg 0 &&& 255) : Int32).toUInt32 % 65536).toInt32 = nI k.val := by rw [hk]; exact i2c_b k
  show Wf l X uJ1_charAt_3b067 (d + 2) true _ (13 + 1) _ [.int ((((tB (a - 5100)).getD (nI j).toNatClampNeg 0 &&& 255) : Int32).toUInt32 % 65536).toInt32] M kr
  rw [e]
  exact Wf.stp1 tkJ1_charAt_3b067 (o := oTr .char) rfl ⟨nar_c k, h k⟩
set_option maxRecDepth 20000 in
theorem k_char {j : Nat} (ha : 5000 ≤ a ∧ a < 5042) (hj : j < (tB (a - 5000)).length) (h : ∀ k : Fin 256, kr (some (.int (nI k.val))) M) : Ev l X uJ0_charAt_5068e (d + 3) true 0 0 [.ref a, .int (nI j)] M kr := by
  refine Ev.ofF (by decide +kernel) (Nat.le_of_ble_eq_true rfl) ?_
  have p0 : Nat.blt 0 a = true := Nat.ble_eq_true_of_le (by omega)
  refine Wf.sAl tkJ0_charAt_5068e rfl rfl p0 ?_
  refine Wf.sCq tkJ0_charAt_5068e rfl rfl ha rfl ?_
  refine k_latin ha ?_
  refine Wf.sIf tkJ0_charAt_5068e rfl (fun w => absurd w (by decide)) (fun _ => ?_)
  refine Wf.sAl tkJ0_charAt_5068e rfl rfl p0 ?_
  refine Wf.stp1 tkJ0_charAt_5068e (o := oGsv 8) rfl ⟨ha, ?_⟩
  refine Wf.sIl tkJ0_charAt_5068e rfl rfl ?_
  refine Wf.sCs tkJ0_charAt_5068e rfl rfl rfl ?_
  refine k_ch1 ⟨by omega, by omega⟩ (by rw [show a + 100 - 5100 = a - 5000 by omega]; exact hj) (fun k => ?_)
  exact Wf.stp1 tkJ0_charAt_5068e (o := oTr .char) rfl ⟨nar_c k, h k⟩

theorem vh_len {P : Pk} {e : Int} (d : Nat) (w : List Nat) (lo hi : Int) (hw : w.all (fun n => Nat.ble 5000 n && (Nat.blt n 5042 && (decide (lo ≤ ((tB (n - 5000)).length : Int)) && decide (((tB (n - 5000)).length : Int) ≤ hi)))) = true) : Vc l X U0 P e (d + 4) ((280, [(2, 0, 0, w)], []), [], [(some (0, lo, hi, []), [], [])]) := by
  intro av M kr hI he hb hf hr
  obtain ⟨v, t, rfl, hv, ht⟩ := gbs_1 hb
  obtain rfl := gbs_0 ht
  obtain ⟨a, rfl, hm⟩ := gb_r hv
  obtain ⟨h1, h2⟩ := andT (List.all_eq_true.mp hw a hm)
  obtain ⟨h2, h3⟩ := andT h2
  obtain ⟨h3, h4⟩ := andT h3
  have h1 : 5000 ≤ a := Nat.le_of_ble_eq_true h1
  have h2 : a < 5042 := Nat.le_of_ble_eq_true h2
  have h3 := of_decide_eq_true h3
  have h4 := of_decide_eq_true h4
  show Ev l X uJ0_length_8abf5 (d + 4) true 0 0 _ M kr
  have hl := (len7 ⟨a - 5000, by omega⟩).1
  have hl : (tB (a - 5000)).length ≤ 7 := hl
  exact k_len (d := d + 3) ⟨h1, h2⟩ (hr _ M (Jv.rf hI he) (gps_i (by rw [nI_toInt (by omega)]; exact h3) (by rw [nI_toInt (by omega)]; exact h4)))
theorem vh_char {P : Pk} {e : Int} (d : Nat) (w : List Nat) (lo hi : Int) (hw : w.all (fun n => Nat.ble 5000 n && (Nat.blt n 5042 && (decide (0 ≤ lo) && decide (hi < ((tB (n - 5000)).length : Int))))) = true) : Vc l X U0 P e (d + 4) ((281, [(2, 0, 0, w), (0, lo, hi, [])], []), [], [(some (0, 0, 65535, []), [], [])]) := by
  intro av M kr hI he hb hf hr
  obtain ⟨v, t, rfl, hv, ht⟩ := gbs_1 hb
  obtain ⟨v2, t, rfl, hv2, ht2⟩ := gbs_1 ht
  obtain rfl := gbs_0 ht2
  obtain ⟨a, rfl, hm⟩ := gb_r hv
  obtain ⟨x, rfl, h5, h6⟩ := gb_i hv2
  obtain ⟨h1, h2⟩ := andT (List.all_eq_true.mp hw a hm)
  obtain ⟨h2, h3⟩ := andT h2
  obtain ⟨h3, h4⟩ := andT h3
  have h1 : 5000 ≤ a := Nat.le_of_ble_eq_true h1
  have h2 : a < 5042 := Nat.le_of_ble_eq_true h2
  have h3 := of_decide_eq_true h3
  have h4 := of_decide_eq_true h4
  have hl := (len7 ⟨a - 5000, by omega⟩).1
  have hl : (tB (a - 5000)).length ≤ 7 := hl
  have ex : x = nI x.toInt.toNat := nI_at (by omega) (by omega)
  have hk : Ev l X uJ0_charAt_5068e (d + 4) true 0 0 [.ref a, .int (nI x.toInt.toNat)] M kr := by
    refine k_char (d := d + 1) ⟨h1, h2⟩ (by omega) (fun k => ?_)
    refine hr _ M (Jv.rf hI he) (gps_i ?_ ?_)
    · rw [nI_toInt (by have := k.isLt; omega)]; show (0 : Int) ≤ _; omega
    · rw [nI_toInt (by have := k.isLt; omega)]; show _ ≤ (65535 : Int); have := k.isLt; omega
  rw [← ex] at hk
  exact hk
end STR2
