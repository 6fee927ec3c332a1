def ilX6_led : List (Nat × Instr × Nat) := [(0, .iconst 0, 1), (1, .istore_n 2, 1), (2, .iconst 0, 1), (3, .istore_n 3, 1), (4, .iload_n 3, 1), (5, .aload_n 0, 1), (6, .getfield 19, 3), (9, .getfield 97, 3), (12, .if_icmp .ge 43, 3), (15, .aload_n 0, 1), (16, .getfield 29, 3), (19, .iload_n 3, 1), (20, .invokevirtual 122, 3), (23, .ifCond .ne 26, 3), (26, .aload_n 0, 1), (27, .iload_n 3, 1), (28, .invokevirtual 128, 3), (31, .bipush (-2), 2), (33, .if_icmp .eq 6, 3), (36, .goto 13, 3), (39, .iload_n 2, 1), (40, .iload_n 1, 1), (41, .if_icmp .ne 5, 3), (44, .iload_n 3, 1), (45, .ireturn, 1), (46, .iinc 2 1, 3), (49, .iinc 3 1, 3), (52, .goto (-48), 3), (55, .new 327, 3), (58, .dup, 1), (59, .invokespecial 329, 3), (62, .athrow, 1)]
theorem idX6_led : ∀ x ∈ ilX6_led, decode cX6_led x.1 = .ok x.2 := by decide +kernel
theorem clX6_327 : Cond.classLink RX6 327 NSE ∈ wB := wB_of 1179 (by decide +kernel) (by decide +kernel)
theorem nsI : Cond.initialized NSE ∈ wB := wB_of 145 (by decide +kernel) (by decide +kernel)
theorem nsN : Cond.instantiable NSE 6 ∈ wB := wB_of 1180 (by decide +kernel) (by decide +kernel)
def thA : List Cond := Bundle.ownAtoms0 RX6 329 NSE ["java/lang/RuntimeException", "java/lang/Exception"]
theorem thA_g : ∀ w ∈ thA.filter goodWord, w ∈ wB := wB_all [142, 1201, 1210, 1212, 1215, 1217, 1202, 1203, 152, 153, 1204, 1209, 1213, 1229, 1191, 1230, 1193, 1231, 1195, 1205, 1207, 1197, 1219, 1220, 1221, 1222, 1222, 1223, 1224, 1225, 1225, 1226, 1227, 1202, 1218, 1180, 1188, 1189, 1190, 1192, 1194, 1196, 1200, 1199, 1198] (by decide +kernel) (by decide +kernel)
theorem thA_b : thA.filter (fun w => !goodWord w) = [.laysStatic "java/lang/Throwable" "UNASSIGNED_STACK" "[Ljava/lang/StackTraceElement;", .laysStatic "java/lang/Throwable" "SUPPRESSED_SENTINEL" "Ljava/util/List;", .declares ⟨"java/lang/RuntimeException", "<init>", "()V"⟩, .declares ⟨"java/lang/Exception", "<init>", "()V"⟩, .declares ⟨"java/lang/Throwable", "<init>", "()V"⟩, .castable NSE NSE, .isRef (.static "java/lang/Throwable" "UNASSIGNED_STACK" "[Ljava/lang/StackTraceElement;"), .isRef (.static "java/lang/Throwable" "SUPPRESSED_SENTINEL" "Ljava/util/List;")] := by decide +kernel
theorem thA_h {args : Array Value} {s : State} {A : Nat → Prop} {g : Nat → ClassId} (hts : ∀ w ∈ wB, w.before args s = true) (ho : ao g A s s.heap) : ∀ a ∈ thA, a.before args s = true := by
  intro a ha
  cases hg : goodWord a with
  | true => exact hts _ (thA_g a (List.mem_filter.mpr ⟨ha, hg⟩))
  | false =>
    have hb : a ∈ thA.filter (fun w => !goodWord w) := List.mem_filter.mpr ⟨ha, by rw [hg]; rfl⟩
    rw [thA_b] at hb
    obtain ⟨-, -, ⟨o1, o2⟩, o3, o4⟩ := ho
    simp only [List.mem_cons, List.not_mem_nil, or_false] at hb
    rcases hb with rfl | rfl | rfl | rfl | rfl | rfl | rfl | rfl
    · exact o1.lays
    · exact o2.lays
    · exact va_Nw.use rfl (o4 _ (List.mem_of_getElem? (i := 0) rfl))
    · exact va_Nw.use rfl (o4 _ (List.mem_of_getElem? (i := 1) rfl))
    · exact va_Nw.use rfl (o4 _ (List.mem_of_getElem? (i := 2) rfl))
    · exact va_Nw.use rfl o3
    · exact o1.isRef
    · exact o2.isRef
