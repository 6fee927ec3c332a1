section
theorem oiI : Cond.instanceMethod Lib.objectInit ∈ wB := wT1 26 rfl (by decide +kernel)
theorem oiC : Cond.code Lib.objectInit ⟨#[0xb1]⟩ 1 none ∈ wB := wT1 27 rfl (by decide +kernel)
theorem moX6_1 : Cond.methodLink RX6 1 Lib.objectInit ∈ wB := wT1 25 rfl (by decide +kernel)
theorem moX0_3 : Cond.methodLink RX0 3 Lib.objectInit ∈ wB := wT1 233 rfl (by decide +kernel)
theorem moX1_3 : Cond.methodLink RX1 3 Lib.objectInit ∈ wB := wT2 42 rfl (by decide +kernel)
theorem moX2_3 : Cond.methodLink RX2 3 Lib.objectInit ∈ wB := wT1 201 rfl (by decide +kernel)
theorem moX3_3 : Cond.methodLink RX3 3 Lib.objectInit ∈ wB := wT1 91 rfl (by decide +kernel)
theorem moX4_3 : Cond.methodLink RX4 3 Lib.objectInit ∈ wB := wT1 33 rfl (by decide +kernel)
theorem moX5_3 : Cond.methodLink RX5 3 Lib.objectInit ∈ wB := wT2 28 rfl (by decide +kernel)
theorem moX7_1 : Cond.methodLink RX7 1 Lib.objectInit ∈ wB := wT5 159 rfl (by decide +kernel)
theorem clX6_7 : Cond.classLink RX6 7 RX4 ∈ wB := wT1 28 rfl (by decide +kernel)
theorem clX6_16 : Cond.classLink RX6 16 RX3 ∈ wB := wT1 86 rfl (by decide +kernel)
theorem clX6_26 : Cond.classLink RX6 26 RX2 ∈ wB := wT1 196 rfl (by decide +kernel)
theorem clX6_50 : Cond.classLink RX6 50 RX0 ∈ wB := wT1 228 rfl (by decide +kernel)
theorem clX6_57 : Cond.classLink RX6 57 RX5 ∈ wB := wT2 23 rfl (by decide +kernel)
theorem clX6_64 : Cond.classLink RX6 64 RX1 ∈ wB := wT2 37 rfl (by decide +kernel)
theorem clX1_9 : Cond.classLink RX1 9 "[[I" ∈ wB := wT2 43 rfl (by decide +kernel)
theorem nwi_0 : Cond.instantiable RX0 8 ∈ wB := wT1 229 rfl (by decide +kernel)
theorem nwj_0 : Cond.initialized RX0 ∈ wB := wT1 5 rfl (by decide +kernel)
theorem df_0 : ∀ j, j < 8 → defaultValue (tyX0 j) = vp_V (z0 0) j := by
  intro j hj
  rcases (show j = 0 ∨ j = 1 ∨ j = 2 ∨ j = 3 ∨ j = 4 ∨ j = 5 ∨ j = 6 ∨ j = 7 by omega) with rfl | rfl | rfl | rfl | rfl | rfl | rfl | rfl <;> rfl
theorem nwi_1 : Cond.instantiable RX1 9 ∈ wB := wT2 38 rfl (by decide +kernel)
theorem nwj_1 : Cond.initialized RX1 ∈ wB := wT1 7 rfl (by decide +kernel)
theorem df_1 : ∀ j, j < 9 → defaultValue (tyX1 j) = vp_V (z0 1) j := by
  intro j hj
  rcases (show j = 0 ∨ j = 1 ∨ j = 2 ∨ j = 3 ∨ j = 4 ∨ j = 5 ∨ j = 6 ∨ j = 7 ∨ j = 8 by omega) with rfl | rfl | rfl | rfl | rfl | rfl | rfl | rfl | rfl <;> rfl
theorem nwi_2 : Cond.instantiable RX2 6 ∈ wB := wT1 197 rfl (by decide +kernel)
theorem nwj_2 : Cond.initialized RX2 ∈ wB := wT1 4 rfl (by decide +kernel)
theorem df_2 : ∀ j, j < 6 → defaultValue (tyX2 j) = vp_V (z0 2) j := by
  intro j hj
  rcases (show j = 0 ∨ j = 1 ∨ j = 2 ∨ j = 3 ∨ j = 4 ∨ j = 5 by omega) with rfl | rfl | rfl | rfl | rfl | rfl <;> rfl
theorem nwi_3 : Cond.instantiable RX3 20 ∈ wB := wT1 87 rfl (by decide +kernel)
theorem nwj_3 : Cond.initialized RX3 ∈ wB := wT1 3 rfl (by decide +kernel)
theorem df_3 : ∀ j, j < 20 → defaultValue (tyX3 j) = vp_V (z0 3) j := by
  intro j hj
  rcases (show j = 0 ∨ j = 1 ∨ j = 2 ∨ j = 3 ∨ j = 4 ∨ j = 5 ∨ j = 6 ∨ j = 7 ∨ j = 8 ∨ j = 9 ∨ j = 10 ∨ j = 11 ∨ j = 12 ∨ j = 13 ∨ j = 14 ∨ j = 15 ∨ j = 16 ∨ j = 17 ∨ j = 18 ∨ j = 19 by omega) with rfl | rfl | rfl | rfl | rfl | rfl | rfl | rfl | rfl | rfl | rfl | rfl | rfl | rfl | rfl | rfl | rfl | rfl | rfl | rfl <;> rfl
theorem nwi_4 : Cond.instantiable RX4 15 ∈ wB := wT1 29 rfl (by decide +kernel)
theorem nwj_4 : Cond.initialized RX4 ∈ wB := wT1 2 rfl (by decide +kernel)
theorem df_4 : ∀ j, j < 15 → defaultValue (tyX4 j) = vp_V (z0 4) j := by
  intro j hj
  rcases (show j = 0 ∨ j = 1 ∨ j = 2 ∨ j = 3 ∨ j = 4 ∨ j = 5 ∨ j = 6 ∨ j = 7 ∨ j = 8 ∨ j = 9 ∨ j = 10 ∨ j = 11 ∨ j = 12 ∨ j = 13 ∨ j = 14 by omega) with rfl | rfl | rfl | rfl | rfl | rfl | rfl | rfl | rfl | rfl | rfl | rfl | rfl | rfl | rfl <;> rfl
theorem nwi_5 : Cond.instantiable RX5 2 ∈ wB := wT2 24 rfl (by decide +kernel)
theorem nwj_5 : Cond.initialized RX5 ∈ wB := wT1 6 rfl (by decide +kernel)
theorem df_5 : ∀ j, j < 2 → defaultValue (tyX5 j) = vp_V (z0 5) j := by
  intro j hj
  rcases (show j = 0 ∨ j = 1 by omega) with rfl | rfl <;> rfl
theorem nwi_6 : Cond.instantiable RX6 14 ∈ wB := wT1 21 rfl (by decide +kernel)
theorem nwj_6 : Cond.initialized RX6 ∈ wB := wT1 1 rfl (by decide +kernel)
theorem df_6 : ∀ j, j < 14 → defaultValue (tyX6 j) = vp_V (z0 6) j := by
  intro j hj
  rcases (show j = 0 ∨ j = 1 ∨ j = 2 ∨ j = 3 ∨ j = 4 ∨ j = 5 ∨ j = 6 ∨ j = 7 ∨ j = 8 ∨ j = 9 ∨ j = 10 ∨ j = 11 ∨ j = 12 ∨ j = 13 by omega) with rfl | rfl | rfl | rfl | rfl | rfl | rfl | rfl | rfl | rfl | rfl | rfl | rfl | rfl <;> rfl
theorem nwi_7 : Cond.instantiable RX7 44 ∈ wB := wT5 155 rfl (by decide +kernel)
theorem nwj_7 : Cond.initialized RX7 ∈ wB := wT1 8 rfl (by decide +kernel)
theorem df_7 : ∀ j, j < 44 → defaultValue (tyX7 j) = vp_V (z0 7) j := by
  intro j hj
  rcases (show j = 0 ∨ j = 1 ∨ j = 2 ∨ j = 3 ∨ j = 4 ∨ j = 5 ∨ j = 6 ∨ j = 7 ∨ j = 8 ∨ j = 9 ∨ j = 10 ∨ j = 11 ∨ j = 12 ∨ j = 13 ∨ j = 14 ∨ j = 15 ∨ j = 16 ∨ j = 17 ∨ j = 18 ∨ j = 19 ∨ j = 20 ∨ j = 21 ∨ j = 22 ∨ j = 23 ∨ j = 24 ∨ j = 25 ∨ j = 26 ∨ j = 27 ∨ j = 28 ∨ j = 29 ∨ j = 30 ∨ j = 31 ∨ j = 32 ∨ j = 33 ∨ j = 34 ∨ j = 35 ∨ j = 36 ∨ j = 37 ∨ j = 38 ∨ j = 39 ∨ j = 40 ∨ j = 41 ∨ j = 42 ∨ j = 43 by omega) with rfl | rfl | rfl | rfl | rfl | rfl | rfl | rfl | rfl | rfl | rfl | rfl | rfl | rfl | rfl | rfl | rfl | rfl | rfl | rfl | rfl | rfl | rfl | rfl | rfl | rfl | rfl | rfl | rfl | rfl | rfl | rfl | rfl | rfl | rfl | rfl | rfl | rfl | rfl | rfl | rfl | rfl | rfl | rfl <;> rfl
theorem ar_byte : Cond.arrayClass (newarray.typeOf .byte) ∈ wB := wT1 83 rfl (by decide +kernel)
theorem ar_int : Cond.arrayClass (newarray.typeOf .int) ∈ wB := wT1 85 rfl (by decide +kernel)
theorem ar_long : Cond.arrayClass (newarray.typeOf .long) ∈ wB := wT1 84 rfl (by decide +kernel)
theorem ci_X0 : cI uX0_init := ⟨⟨wT1 232 rfl (by decide +kernel), wT1 5 rfl (by decide +kernel), by decide +kernel, by decide⟩, rfl, wT1 231 rfl (by decide +kernel), rfl⟩
theorem ci_X1 : cI uX1_init := ⟨⟨wT2 41 rfl (by decide +kernel), wT1 7 rfl (by decide +kernel), by decide +kernel, by decide⟩, rfl, wT2 40 rfl (by decide +kernel), rfl⟩
theorem ci_X2 : cI uX2_init := ⟨⟨wT1 200 rfl (by decide +kernel), wT1 4 rfl (by decide +kernel), by decide +kernel, by decide⟩, rfl, wT1 199 rfl (by decide +kernel), rfl⟩
theorem ci_X3 : cI uX3_init := ⟨⟨wT1 90 rfl (by decide +kernel), wT1 3 rfl (by decide +kernel), by decide +kernel, by decide⟩, rfl, wT1 89 rfl (by decide +kernel), rfl⟩
theorem ci_X4 : cI uX4_init := ⟨⟨wT1 32 rfl (by decide +kernel), wT1 2 rfl (by decide +kernel), by decide +kernel, by decide⟩, rfl, wT1 31 rfl (by decide +kernel), rfl⟩
theorem ci_X5 : cI uX5_init := ⟨⟨wT2 27 rfl (by decide +kernel), wT1 6 rfl (by decide +kernel), by decide +kernel, by decide⟩, rfl, wT2 26 rfl (by decide +kernel), rfl⟩
theorem ci_X6 : cI uX6_init := ⟨⟨wT1 24 rfl (by decide +kernel), wT1 1 rfl (by decide +kernel), by decide +kernel, by decide⟩, rfl, wT1 23 rfl (by decide +kernel), rfl⟩
theorem ci_X7 : cI uX7_init := ⟨⟨wT5 158 rfl (by decide +kernel), wT1 8 rfl (by decide +kernel), by decide +kernel, by decide⟩, rfl, wT5 157 rfl (by decide +kernel), rfl⟩
noncomputable def ilX0_init : List (Nat × Instr × Nat) := [(0, .aload_n 0, 1), (1, .invokespecial 3, 3), (4, .return_, 1)]
theorem idX0_init : ∀ x ∈ ilX0_init, decode cX0_init x.1 = .ok x.2 := sq_ok (B := 0) List.drop_zero (by decide +kernel : sqI cX0_init 0 cX0_init.data.toList ilX0_init = true)
noncomputable def tbX0_init (l : Launch) (X : Nat × (Nat → Int32)) (d : Nat) (b : Nat × Nat) : List (Nat × OP) := [(0, oAl 0 1 0), (1, oOi 1), (4, oVr)]
set_option maxRecDepth 20000 in
theorem tkX0_init {l : Launch} {X : Nat × (Nat → Int32)} {d : Nat} {b : Nat × Nat} : ∀ x ∈ tbX0_init l X d b, OK l X uX0_init (d + 1) false b x.1 x.2 :=
  List.forall_mem_cons.mpr ⟨ok_aload_n (i := 0) (k := 0) rfl (idX0_init (0, .aload_n 0, 1) (List.mem_of_getElem? (i := 0) rfl)), List.forall_mem_cons.mpr ⟨ok_oi oiI oiC moX0_3 (idX0_init (1, .invokespecial 3, 3) (List.mem_of_getElem? (i := 1) rfl)), List.forall_mem_cons.mpr ⟨ok_vr rfl (idX0_init (4, .return_, 1) (List.mem_of_getElem? (i := 2) rfl)), fun _ h => absurd h List.not_mem_nil⟩⟩⟩
noncomputable def ilX1_init : List (Nat × Instr × Nat) := [(0, .aload_n 0, 1), (1, .invokespecial 3, 3), (4, .aload_n 0, 1), (5, .bipush 6, 2), (7, .iconst 5, 1), (8, .multianewarray 9 2, 4), (12, .putfield 11, 3), (15, .aload_n 0, 1), (16, .bipush 6, 2), (18, .newarray .int, 2), (20, .putfield 16, 3), (23, .aload_n 0, 1), (24, .iconst 5, 1), (25, .newarray .int, 2), (27, .putfield 20, 3), (30, .aload_n 0, 1), (31, .iconst 5, 1), (32, .newarray .int, 2), (34, .putfield 23, 3), (37, .return_, 1)]
theorem idX1_init : ∀ x ∈ ilX1_init, decode cX1_init x.1 = .ok x.2 := sq_ok (B := 0) List.drop_zero (by decide +kernel : sqI cX1_init 0 cX1_init.data.toList ilX1_init = true)
noncomputable def tbX1_init (l : Launch) (X : Nat × (Nat → Int32)) (d : Nat) (b : Nat × Nat) : List (Nat × OP) := [(0, oAl 0 1 0), (1, oOi 1), (4, oAl 4 1 0), (5, oIc 5 2 6), (7, oIc 7 1 5), (8, oN2 b 8), (12, oPR 12 1 0), (15, oAl 15 1 0), (16, oIc 16 2 6), (18, oNa b 18 9 6 6), (20, oPR 20 1 1), (23, oAl 23 1 0), (24, oIc 24 1 5), (25, oNa b 25 9 5 5), (27, oPR 27 1 2), (30, oAl 30 1 0), (31, oIc 31 1 5), (32, oNa b 32 9 5 5), (34, oPR 34 1 3), (37, oVr)]
set_option maxRecDepth 20000 in
theorem tkX1_init {l : Launch} {X : Nat × (Nat → Int32)} {d : Nat} {b : Nat × Nat} : ∀ x ∈ tbX1_init l X d b, OK l X uX1_init (d + 1) false b x.1 x.2 :=
  List.forall_mem_cons.mpr ⟨ok_aload_n (i := 0) (k := 0) rfl (idX1_init (0, .aload_n 0, 1) (List.mem_of_getElem? (i := 0) rfl)), List.forall_mem_cons.mpr ⟨ok_oi oiI oiC moX1_3 (idX1_init (1, .invokespecial 3, 3) (List.mem_of_getElem? (i := 1) rfl)), List.forall_mem_cons.mpr ⟨ok_aload_n (i := 0) (k := 0) rfl (idX1_init (4, .aload_n 0, 1) (List.mem_of_getElem? (i := 2) rfl)), List.forall_mem_cons.mpr ⟨ok_bipush (n := 6) (v := 6) (by decide) (idX1_init (5, .bipush 6, 2) (List.mem_of_getElem? (i := 3) rfl)), List.forall_mem_cons.mpr ⟨ok_iconst (n := 5) (v := 5) (by decide) (idX1_init (7, .iconst 5, 1) (List.mem_of_getElem? (i := 4) rfl)), List.forall_mem_cons.mpr ⟨ok_n2 clX1_9 (idX1_init (8, .multianewarray 9 2, 4) (List.mem_of_getElem? (i := 5) rfl)), List.forall_mem_cons.mpr ⟨ok_putRFA (c := 1) (k := 0) (T := TX1) (N := 9) tyX1 tyX1_ok nmX1 rfl inB1 (by decide) rfl rfl rfl (tyX1_ok 0 (by decide)) flX1_11 (idX1_init (12, .putfield 11, 3) (List.mem_of_getElem? (i := 6) rfl)), List.forall_mem_cons.mpr ⟨ok_aload_n (i := 0) (k := 0) rfl (idX1_init (15, .aload_n 0, 1) (List.mem_of_getElem? (i := 7) rfl)), List.forall_mem_cons.mpr ⟨ok_bipush (n := 6) (v := 6) (by decide) (idX1_init (16, .bipush 6, 2) (List.mem_of_getElem? (i := 8) rfl)), List.forall_mem_cons.mpr ⟨ok_na (k := 9) (n := 6) (v0 := 6) rfl (Or.inr (Or.inl ⟨rfl, rfl, rfl⟩)) ⟨by decide, by decide, by decide⟩ ar_int (idX1_init (18, .newarray .int, 2) (List.mem_of_getElem? (i := 9) rfl)), List.forall_mem_cons.mpr ⟨ok_putRFA (c := 1) (k := 1) (T := TX1) (N := 9) tyX1 tyX1_ok nmX1 rfl inB1 (by decide) rfl rfl rfl (tyX1_ok 1 (by decide)) flX1_16 (idX1_init (20, .putfield 16, 3) (List.mem_of_getElem? (i := 10) rfl)), List.forall_mem_cons.mpr ⟨ok_aload_n (i := 0) (k := 0) rfl (idX1_init (23, .aload_n 0, 1) (List.mem_of_getElem? (i := 11) rfl)), List.forall_mem_cons.mpr ⟨ok_iconst (n := 5) (v := 5) (by decide) (idX1_init (24, .iconst 5, 1) (List.mem_of_getElem? (i := 12) rfl)), List.forall_mem_cons.mpr ⟨ok_na (k := 9) (n := 5) (v0 := 5) rfl (Or.inr (Or.inl ⟨rfl, rfl, rfl⟩)) ⟨by decide, by decide, by decide⟩ ar_int (idX1_init (25, .newarray .int, 2) (List.mem_of_getElem? (i := 13) rfl)), List.forall_mem_cons.mpr ⟨ok_putRFA (c := 1) (k := 2) (T := TX1) (N := 9) tyX1 tyX1_ok nmX1 rfl inB1 (by decide) rfl rfl rfl (tyX1_ok 2 (by decide)) flX1_20 (idX1_init (27, .putfield 20, 3) (List.mem_of_getElem? (i := 14) rfl)), List.forall_mem_cons.mpr ⟨ok_aload_n (i := 0) (k := 0) rfl (idX1_init (30, .aload_n 0, 1) (List.mem_of_getElem? (i := 15) rfl)), List.forall_mem_cons.mpr ⟨ok_iconst (n := 5) (v := 5) (by decide) (idX1_init (31, .iconst 5, 1) (List.mem_of_getElem? (i := 16) rfl)), List.forall_mem_cons.mpr ⟨ok_na (k := 9) (n := 5) (v0 := 5) rfl (Or.inr (Or.inl ⟨rfl, rfl, rfl⟩)) ⟨by decide, by decide, by decide⟩ ar_int (idX1_init (32, .newarray .int, 2) (List.mem_of_getElem? (i := 17) rfl)), List.forall_mem_cons.mpr ⟨ok_putRFA (c := 1) (k := 3) (T := TX1) (N := 9) tyX1 tyX1_ok nmX1 rfl inB1 (by decide) rfl rfl rfl (tyX1_ok 3 (by decide)) flX1_23 (idX1_init (34, .putfield 23, 3) (List.mem_of_getElem? (i := 18) rfl)), List.forall_mem_cons.mpr ⟨ok_vr rfl (idX1_init (37, .return_, 1) (List.mem_of_getElem? (i := 19) rfl)), fun _ h => absurd h List.not_mem_nil⟩⟩⟩⟩⟩⟩⟩⟩⟩⟩⟩⟩⟩⟩⟩⟩⟩⟩⟩⟩
noncomputable def ilX2_init : List (Nat × Instr × Nat) := [(0, .aload_n 0, 1), (1, .invokespecial 3, 3), (4, .aload_n 0, 1), (5, .bipush 6, 2), (7, .newarray .int, 2), (9, .putfield 9, 3), (12, .aload_n 0, 1), (13, .bipush 6, 2), (15, .newarray .int, 2), (17, .putfield 15, 3), (20, .aload_n 0, 1), (21, .bipush 6, 2), (23, .newarray .int, 2), (25, .putfield 18, 3), (28, .aload_n 0, 1), (29, .iconst 5, 1), (30, .newarray .int, 2), (32, .putfield 21, 3), (35, .return_, 1)]
theorem idX2_init : ∀ x ∈ ilX2_init, decode cX2_init x.1 = .ok x.2 := sq_ok (B := 0) List.drop_zero (by decide +kernel : sqI cX2_init 0 cX2_init.data.toList ilX2_init = true)
noncomputable def tbX2_init (l : Launch) (X : Nat × (Nat → Int32)) (d : Nat) (b : Nat × Nat) : List (Nat × OP) := [(0, oAl 0 1 0), (1, oOi 1), (4, oAl 4 1 0), (5, oIc 5 2 6), (7, oNa b 7 9 6 6), (9, oPR 9 2 0), (12, oAl 12 1 0), (13, oIc 13 2 6), (15, oNa b 15 9 6 6), (17, oPR 17 2 1), (20, oAl 20 1 0), (21, oIc 21 2 6), (23, oNa b 23 9 6 6), (25, oPR 25 2 2), (28, oAl 28 1 0), (29, oIc 29 1 5), (30, oNa b 30 9 5 5), (32, oPR 32 2 3), (35, oVr)]
set_option maxRecDepth 20000 in
theorem tkX2_init {l : Launch} {X : Nat × (Nat → Int32)} {d : Nat} {b : Nat × Nat} : ∀ x ∈ tbX2_init l X d b, OK l X uX2_init (d + 1) false b x.1 x.2 :=
  List.forall_mem_cons.mpr ⟨ok_aload_n (i := 0) (k := 0) rfl (idX2_init (0, .aload_n 0, 1) (List.mem_of_getElem? (i := 0) rfl)), List.forall_mem_cons.mpr ⟨ok_oi oiI oiC moX2_3 (idX2_init (1, .invokespecial 3, 3) (List.mem_of_getElem? (i := 1) rfl)), List.forall_mem_cons.mpr ⟨ok_aload_n (i := 0) (k := 0) rfl (idX2_init (4, .aload_n 0, 1) (List.mem_of_getElem? (i := 2) rfl)), List.forall_mem_cons.mpr ⟨ok_bipush (n := 6) (v := 6) (by decide) (idX2_init (5, .bipush 6, 2) (List.mem_of_getElem? (i := 3) rfl)), List.forall_mem_cons.mpr ⟨ok_na (k := 9) (n := 6) (v0 := 6) rfl (Or.inr (Or.inl ⟨rfl, rfl, rfl⟩)) ⟨by decide, by decide, by decide⟩ ar_int (idX2_init (7, .newarray .int, 2) (List.mem_of_getElem? (i := 4) rfl)), List.forall_mem_cons.mpr ⟨ok_putRFA (c := 2) (k := 0) (T := TX2) (N := 6) tyX2 tyX2_ok nmX2 rfl inB2 (by decide) rfl rfl rfl (tyX2_ok 0 (by decide)) flX2_9 (idX2_init (9, .putfield 9, 3) (List.mem_of_getElem? (i := 5) rfl)), List.forall_mem_cons.mpr ⟨ok_aload_n (i := 0) (k := 0) rfl (idX2_init (12, .aload_n 0, 1) (List.mem_of_getElem? (i := 6) rfl)), List.forall_mem_cons.mpr ⟨ok_bipush (n := 6) (v := 6) (by decide) (idX2_init (13, .bipush 6, 2) (List.mem_of_getElem? (i := 7) rfl)), List.forall_mem_cons.mpr ⟨ok_na (k := 9) (n := 6) (v0 := 6) rfl (Or.inr (Or.inl ⟨rfl, rfl, rfl⟩)) ⟨by decide, by decide, by decide⟩ ar_int (idX2_init (15, .newarray .int, 2) (List.mem_of_getElem? (i := 8) rfl)), List.forall_mem_cons.mpr ⟨ok_putRFA (c := 2) (k := 1) (T := TX2) (N := 6) tyX2 tyX2_ok nmX2 rfl inB2 (by decide) rfl rfl rfl (tyX2_ok 1 (by decide)) flX2_15 (idX2_init (17, .putfield 15, 3) (List.mem_of_getElem? (i := 9) rfl)), List.forall_mem_cons.mpr ⟨ok_aload_n (i := 0) (k := 0) rfl (idX2_init (20, .aload_n 0, 1) (List.mem_of_getElem? (i := 10) rfl)), List.forall_mem_cons.mpr ⟨ok_bipush (n := 6) (v := 6) (by decide) (idX2_init (21, .bipush 6, 2) (List.mem_of_getElem? (i := 11) rfl)), List.forall_mem_cons.mpr ⟨ok_na (k := 9) (n := 6) (v0 := 6) rfl (Or.inr (Or.inl ⟨rfl, rfl, rfl⟩)) ⟨by decide, by decide, by decide⟩ ar_int (idX2_init (23, .newarray .int, 2) (List.mem_of_getElem? (i := 12) rfl)), List.forall_mem_cons.mpr ⟨ok_putRFA (c := 2) (k := 2) (T := TX2) (N := 6) tyX2 tyX2_ok nmX2 rfl inB2 (by decide) rfl rfl rfl (tyX2_ok 2 (by decide)) flX2_18 (idX2_init (25, .putfield 18, 3) (List.mem_of_getElem? (i := 13) rfl)), List.forall_mem_cons.mpr ⟨ok_aload_n (i := 0) (k := 0) rfl (idX2_init (28, .aload_n 0, 1) (List.mem_of_getElem? (i := 14) rfl)), List.forall_mem_cons.mpr ⟨ok_iconst (n := 5) (v := 5) (by decide) (idX2_init (29, .iconst 5, 1) (List.mem_of_getElem? (i := 15) rfl)), List.forall_mem_cons.mpr ⟨ok_na (k := 9) (n := 5) (v0 := 5) rfl (Or.inr (Or.inl ⟨rfl, rfl, rfl⟩)) ⟨by decide, by decide, by decide⟩ ar_int (idX2_init (30, .newarray .int, 2) (List.mem_of_getElem? (i := 16) rfl)), List.forall_mem_cons.mpr ⟨ok_putRFA (c := 2) (k := 3) (T := TX2) (N := 6) tyX2 tyX2_ok nmX2 rfl inB2 (by decide) rfl rfl rfl (tyX2_ok 3 (by decide)) flX2_21 (idX2_init (32, .putfield 21, 3) (List.mem_of_getElem? (i := 17) rfl)), List.forall_mem_cons.mpr ⟨ok_vr rfl (idX2_init (35, .return_, 1) (List.mem_of_getElem? (i := 18) rfl)), fun _ h => absurd h List.not_mem_nil⟩⟩⟩⟩⟩⟩⟩⟩⟩⟩⟩⟩⟩⟩⟩⟩⟩⟩⟩
noncomputable def ilX3_init : List (Nat × Instr × Nat) := [(0, .aload_n 0, 1), (1, .invokespecial 3, 3), (4, .aload_n 0, 1), (5, .bipush 6, 2), (7, .newarray .int, 2), (9, .putfield 9, 3), (12, .aload_n 0, 1), (13, .bipush 6, 2), (15, .newarray .int, 2), (17, .putfield 15, 3), (20, .aload_n 0, 1), (21, .bipush 6, 2), (23, .newarray .int, 2), (25, .putfield 18, 3), (28, .aload_n 0, 1), (29, .bipush 6, 2), (31, .newarray .int, 2), (33, .putfield 21, 3), (36, .aload_n 0, 1), (37, .bipush 6, 2), (39, .newarray .int, 2), (41, .putfield 24, 3), (44, .aload_n 0, 1), (45, .iconst 5, 1), (46, .newarray .int, 2), (48, .putfield 27, 3), (51, .aload_n 0, 1), (52, .iconst 5, 1), (53, .newarray .int, 2), (55, .putfield 30, 3), (58, .aload_n 0, 1), (59, .iconst 5, 1), (60, .newarray .int, 2), (62, .putfield 33, 3), (65, .aload_n 0, 1), (66, .iconst 4, 1), (67, .newarray .int, 2), (69, .putfield 36, 3), (72, .aload_n 0, 1), (73, .iconst 4, 1), (74, .newarray .int, 2), (76, .putfield 39, 3), (79, .aload_n 0, 1), (80, .iconst 4, 1), (81, .newarray .int, 2), (83, .putfield 42, 3), (86, .aload_n 0, 1), (87, .iconst 4, 1), (88, .newarray .int, 2), (90, .putfield 45, 3), (93, .return_, 1)]
theorem idX3_init : ∀ x ∈ ilX3_init, decode cX3_init x.1 = .ok x.2 := sq_ok (B := 0) List.drop_zero (by decide +kernel : sqI cX3_init 0 cX3_init.data.toList ilX3_init = true)
noncomputable def tbX3_init (l : Launch) (X : Nat × (Nat → Int32)) (d : Nat) (b : Nat × Nat) : List (Nat × OP) := [(0, oAl 0 1 0), (1, oOi 1), (4, oAl 4 1 0), (5, oIc 5 2 6), (7, oNa b 7 9 6 6), (9, oPR 9 3 5), (12, oAl 12 1 0), (13, oIc 13 2 6), (15, oNa b 15 9 6 6), (17, oPR 17 3 6), (20, oAl 20 1 0), (21, oIc 21 2 6), (23, oNa b 23 9 6 6), (25, oPR 25 3 7), (28, oAl 28 1 0), (29, oIc 29 2 6), (31, oNa b 31 9 6 6), (33, oPR 33 3 8), (36, oAl 36 1 0), (37, oIc 37 2 6), (39, oNa b 39 9 6 6), (41, oPR 41 3 9), (44, oAl 44 1 0), (45, oIc 45 1 5), (46, oNa b 46 9 5 5), (48, oPR 48 3 11), (51, oAl 51 1 0), (52, oIc 52 1 5), (53, oNa b 53 9 5 5), (55, oPR 55 3 12), (58, oAl 58 1 0), (59, oIc 59 1 5), (60, oNa b 60 9 5 5), (62, oPR 62 3 13), (65, oAl 65 1 0), (66, oIc 66 1 4), (67, oNa b 67 9 4 4), (69, oPR 69 3 15), (72, oAl 72 1 0), (73, oIc 73 1 4), (74, oNa b 74 9 4 4), (76, oPR 76 3 16), (79, oAl 79 1 0), (80, oIc 80 1 4), (81, oNa b 81 9 4 4), (83, oPR 83 3 18), (86, oAl 86 1 0), (87, oIc 87 1 4), (88, oNa b 88 9 4 4), (90, oPR 90 3 19), (93, oVr)]
set_option maxRecDepth 20000 in
theorem tkX3_init {l : Launch} {X : Nat × (Nat → Int32)} {d : Nat} {b : Nat × Nat} : ∀ x ∈ tbX3_init l X d b, OK l X uX3_init (d + 1) false b x.1 x.2 :=
  List.forall_mem_cons.mpr ⟨ok_aload_n (i := 0) (k := 0) rfl (idX3_init (0, .aload_n 0, 1) (List.mem_of_getElem? (i := 0) rfl)), List.forall_mem_cons.mpr ⟨ok_oi oiI oiC moX3_3 (idX3_init (1, .invokespecial 3, 3) (List.mem_of_getElem? (i := 1) rfl)), List.forall_mem_cons.mpr ⟨ok_aload_n (i := 0) (k := 0) rfl (idX3_init (4, .aload_n 0, 1) (List.mem_of_getElem? (i := 2) rfl)), List.forall_mem_cons.mpr ⟨ok_bipush (n := 6) (v := 6) (by decide) (idX3_init (5, .bipush 6, 2) (List.mem_of_getElem? (i := 3) rfl)), List.forall_mem_cons.mpr ⟨ok_na (k := 9) (n := 6) (v0 := 6) rfl (Or.inr (Or.inl ⟨rfl, rfl, rfl⟩)) ⟨by decide, by decide, by decide⟩ ar_int (idX3_init (7, .newarray .int, 2) (List.mem_of_getElem? (i := 4) rfl)), List.forall_mem_cons.mpr ⟨ok_putRFA (c := 3) (k := 5) (T := TX3) (N := 20) tyX3 tyX3_ok nmX3 rfl inB3 (by decide) rfl rfl rfl (tyX3_ok 5 (by decide)) flX3_9 (idX3_init (9, .putfield 9, 3) (List.mem_of_getElem? (i := 5) rfl)), List.forall_mem_cons.mpr ⟨ok_aload_n (i := 0) (k := 0) rfl (idX3_init (12, .aload_n 0, 1) (List.mem_of_getElem? (i := 6) rfl)), List.forall_mem_cons.mpr ⟨ok_bipush (n := 6) (v := 6) (by decide) (idX3_init (13, .bipush 6, 2) (List.mem_of_getElem? (i := 7) rfl)), List.forall_mem_cons.mpr ⟨ok_na (k := 9) (n := 6) (v0 := 6) rfl (Or.inr (Or.inl ⟨rfl, rfl, rfl⟩)) ⟨by decide, by decide, by decide⟩ ar_int (idX3_init (15, .newarray .int, 2) (List.mem_of_getElem? (i := 8) rfl)), List.forall_mem_cons.mpr ⟨ok_putRFA (c := 3) (k := 6) (T := TX3) (N := 20) tyX3 tyX3_ok nmX3 rfl inB3 (by decide) rfl rfl rfl (tyX3_ok 6 (by decide)) flX3_15 (idX3_init (17, .putfield 15, 3) (List.mem_of_getElem? (i := 9) rfl)), List.forall_mem_cons.mpr ⟨ok_aload_n (i := 0) (k := 0) rfl (idX3_init (20, .aload_n 0, 1) (List.mem_of_getElem? (i := 10) rfl)), List.forall_mem_cons.mpr ⟨ok_bipush (n := 6) (v := 6) (by decide) (idX3_init (21, .bipush 6, 2) (List.mem_of_getElem? (i := 11) rfl)), List.forall_mem_cons.mpr ⟨ok_na (k := 9) (n := 6) (v0 := 6) rfl (Or.inr (Or.inl ⟨rfl, rfl, rfl⟩)) ⟨by decide, by decide, by decide⟩ ar_int (idX3_init (23, .newarray .int, 2) (List.mem_of_getElem? (i := 12) rfl)), List.forall_mem_cons.mpr ⟨ok_putRFA (c := 3) (k := 7) (T := TX3) (N := 20) tyX3 tyX3_ok nmX3 rfl inB3 (by decide) rfl rfl rfl (tyX3_ok 7 (by decide)) flX3_18 (idX3_init (25, .putfield 18, 3) (List.mem_of_getElem? (i := 13) rfl)), List.forall_mem_cons.mpr ⟨ok_aload_n (i := 0) (k := 0) rfl (idX3_init (28, .aload_n 0, 1) (List.mem_of_getElem? (i := 14) rfl)), List.forall_mem_cons.mpr ⟨ok_bipush (n := 6) (v := 6) (by decide) (idX3_init (29, .bipush 6, 2) (List.mem_of_getElem? (i := 15) rfl)), List.forall_mem_cons.mpr ⟨ok_na (k := 9) (n := 6) (v0 := 6) rfl (Or.inr (Or.inl ⟨rfl, rfl, rfl⟩)) ⟨by decide, by decide, by decide⟩ ar_int (idX3_init (31, .newarray .int, 2) (List.mem_of_getElem? (i := 16) rfl)), List.forall_mem_cons.mpr ⟨ok_putRFA (c := 3) (k := 8) (T := TX3) (N := 20) tyX3 tyX3_ok nmX3 rfl inB3 (by decide) rfl rfl rfl (tyX3_ok 8 (by decide)) flX3_21 (idX3_init (33, .putfield 21, 3) (List.mem_of_getElem? (i := 17) rfl)), List.forall_mem_cons.mpr ⟨ok_aload_n (i := 0) (k := 0) rfl (idX3_init (36, .aload_n 0, 1) (List.mem_of_getElem? (i := 18) rfl)), List.forall_mem_cons.mpr ⟨ok_bipush (n := 6) (v := 6) (by decide) (idX3_init (37, .bipush 6, 2) (List.mem_of_getElem? (i := 19) rfl)), List.forall_mem_cons.mpr ⟨ok_na (k := 9) (n := 6) (v0 := 6) rfl (Or.inr (Or.inl ⟨rfl, rfl, rfl⟩)) ⟨by decide, by decide, by decide⟩ ar_int (idX3_init (39, .newarray .int, 2) (List.mem_of_getElem? (i := 20) rfl)), List.forall_mem_cons.mpr ⟨ok_putRFA (c := 3) (k := 9) (T := TX3) (N := 20) tyX3 tyX3_ok nmX3 rfl inB3 (by decide) rfl rfl rfl (tyX3_ok 9 (by decide)) flX3_24 (idX3_init (41, .putfield 24, 3) (List.mem_of_getElem? (i := 21) rfl)), List.forall_mem_cons.mpr ⟨ok_aload_n (i := 0) (k := 0) rfl (idX3_init (44, .aload_n 0, 1) (List.mem_of_getElem? (i := 22) rfl)), List.forall_mem_cons.mpr ⟨ok_iconst (n := 5) (v := 5) (by decide) (idX3_init (45, .iconst 5, 1) (List.mem_of_getElem? (i := 23) rfl)), List.forall_mem_cons.mpr ⟨ok_na (k := 9) (n := 5) (v0 := 5) rfl (Or.inr (Or.inl ⟨rfl, rfl, rfl⟩)) ⟨by decide, by decide, by decide⟩ ar_int (idX3_init (46, .newarray .int, 2) (List.mem_of_getElem? (i := 24) rfl)), List.forall_mem_cons.mpr ⟨ok_putRFA (c := 3) (k := 11) (T := TX3) (N := 20) tyX3 tyX3_ok nmX3 rfl inB3 (by decide) rfl rfl rfl (tyX3_ok 11 (by decide)) flX3_27 (idX3_init (48, .putfield 27, 3) (List.mem_of_getElem? (i := 25) rfl)), List.forall_mem_cons.mpr ⟨ok_aload_n (i := 0) (k := 0) rfl (idX3_init (51, .aload_n 0, 1) (List.mem_of_getElem? (i := 26) rfl)), List.forall_mem_cons.mpr ⟨ok_iconst (n := 5) (v := 5) (by decide) (idX3_init (52, .iconst 5, 1) (List.mem_of_getElem? (i := 27) rfl)), List.forall_mem_cons.mpr ⟨ok_na (k := 9) (n := 5) (v0 := 5) rfl (Or.inr (Or.inl ⟨rfl, rfl, rfl⟩)) ⟨by decide, by decide, by decide⟩ ar_int (idX3_init (53, .newarray .int, 2) (List.mem_of_getElem? (i := 28) rfl)), List.forall_mem_cons.mpr ⟨ok_putRFA (c := 3) (k := 12) (T := TX3) (N := 20) tyX3 tyX3_ok nmX3 rfl inB3 (by decide) rfl rfl rfl (tyX3_ok 12 (by decide)) flX3_30 (idX3_init (55, .putfield 30, 3) (List.mem_of_getElem? (i := 29) rfl)), List.forall_mem_cons.mpr ⟨ok_aload_n (i := 0) (k := 0) rfl (idX3_init (58, .aload_n 0, 1) (List.mem_of_getElem? (i := 30) rfl)), List.forall_mem_cons.mpr ⟨ok_iconst (n := 5) (v := 5) (by decide) (idX3_init (59, .iconst 5, 1) (List.mem_of_getElem? (i := 31) rfl)), List.forall_mem_cons.mpr ⟨ok_na (k := 9) (n := 5) (v0 := 5) rfl (Or.inr (Or.inl ⟨rfl, rfl, rfl⟩)) ⟨by decide, by decide, by decide⟩ ar_int (idX3_init (60, .newarray .int, 2) (List.mem_of_getElem? (i := 32) rfl)), List.forall_mem_cons.mpr ⟨ok_putRFA (c := 3) (k := 13) (T := TX3) (N := 20) tyX3 tyX3_ok nmX3 rfl inB3 (by decide) rfl rfl rfl (tyX3_ok 13 (by decide)) flX3_33 (idX3_init (62, .putfield 33, 3) (List.mem_of_getElem? (i := 33) rfl)), List.forall_mem_cons.mpr ⟨ok_aload_n (i := 0) (k := 0) rfl (idX3_init (65, .aload_n 0, 1) (List.mem_of_getElem? (i := 34) rfl)), List.forall_mem_cons.mpr ⟨ok_iconst (n := 4) (v := 4) (by decide) (idX3_init (66, .iconst 4, 1) (List.mem_of_getElem? (i := 35) rfl)), List.forall_mem_cons.mpr ⟨ok_na (k := 9) (n := 4) (v0 := 4) rfl (Or.inr (Or.inl ⟨rfl, rfl, rfl⟩)) ⟨by decide, by decide, by decide⟩ ar_int (idX3_init (67, .newarray .int, 2) (List.mem_of_getElem? (i := 36) rfl)), List.forall_mem_cons.mpr ⟨ok_putRFA (c := 3) (k := 15) (T := TX3) (N := 20) tyX3 tyX3_ok nmX3 rfl inB3 (by decide) rfl rfl rfl (tyX3_ok 15 (by decide)) flX3_36 (idX3_init (69, .putfield 36, 3) (List.mem_of_getElem? (i := 37) rfl)), List.forall_mem_cons.mpr ⟨ok_aload_n (i := 0) (k := 0) rfl (idX3_init (72, .aload_n 0, 1) (List.mem_of_getElem? (i := 38) rfl)), List.forall_mem_cons.mpr ⟨ok_iconst (n := 4) (v := 4) (by decide) (idX3_init (73, .iconst 4, 1) (List.mem_of_getElem? (i := 39) rfl)), List.forall_mem_cons.mpr ⟨ok_na (k := 9) (n := 4) (v0 := 4) rfl (Or.inr (Or.inl ⟨rfl, rfl, rfl⟩)) ⟨by decide, by decide, by decide⟩ ar_int (idX3_init (74, .newarray .int, 2) (List.mem_of_getElem? (i := 40) rfl)), List.forall_mem_cons.mpr ⟨ok_putRFA (c := 3) (k := 16) (T := TX3) (N := 20) tyX3 tyX3_ok nmX3 rfl inB3 (by decide) rfl rfl rfl (tyX3_ok 16 (by decide)) flX3_39 (idX3_init (76, .putfield 39, 3) (List.mem_of_getElem? (i := 41) rfl)), List.forall_mem_cons.mpr ⟨ok_aload_n (i := 0) (k := 0) rfl (idX3_init (79, .aload_n 0, 1) (List.mem_of_getElem? (i := 42) rfl)), List.forall_mem_cons.mpr ⟨ok_iconst (n := 4) (v := 4) (by decide) (idX3_init (80, .iconst 4, 1) (List.mem_of_getElem? (i := 43) rfl)), List.forall_mem_cons.mpr ⟨ok_na (k := 9) (n := 4) (v0 := 4) rfl (Or.inr (Or.inl ⟨rfl, rfl, rfl⟩)) ⟨by decide, by decide, by decide⟩ ar_int (idX3_init (81, .newarray .int, 2) (List.mem_of_getElem? (i := 44) rfl)), List.forall_mem_cons.mpr ⟨ok_putRFA (c := 3) (k := 18) (T := TX3) (N := 20) tyX3 tyX3_ok nmX3 rfl inB3 (by decide) rfl rfl rfl (tyX3_ok 18 (by decide)) flX3_42 (idX3_init (83, .putfield 42, 3) (List.mem_of_getElem? (i := 45) rfl)), List.forall_mem_cons.mpr ⟨ok_aload_n (i := 0) (k := 0) rfl (idX3_init (86, .aload_n 0, 1) (List.mem_of_getElem? (i := 46) rfl)), List.forall_mem_cons.mpr ⟨ok_iconst (n := 4) (v := 4) (by decide) (idX3_init (87, .iconst 4, 1) (List.mem_of_getElem? (i := 47) rfl)), List.forall_mem_cons.mpr ⟨ok_na (k := 9) (n := 4) (v0 := 4) rfl (Or.inr (Or.inl ⟨rfl, rfl, rfl⟩)) ⟨by decide, by decide, by decide⟩ ar_int (idX3_init (88, .newarray .int, 2) (List.mem_of_getElem? (i := 48) rfl)), List.forall_mem_cons.mpr ⟨ok_putRFA (c := 3) (k := 19) (T := TX3) (N := 20) tyX3 tyX3_ok nmX3 rfl inB3 (by decide) rfl rfl rfl (tyX3_ok 19 (by decide)) flX3_45 (idX3_init (90, .putfield 45, 3) (List.mem_of_getElem? (i := 49) rfl)), List.forall_mem_cons.mpr ⟨ok_vr rfl (idX3_init (93, .return_, 1) (List.mem_of_getElem? (i := 50) rfl)), fun _ h => absurd h List.not_mem_nil⟩⟩⟩⟩⟩⟩⟩⟩⟩⟩⟩⟩⟩⟩⟩⟩⟩⟩⟩⟩⟩⟩⟩⟩⟩⟩⟩⟩⟩⟩⟩⟩⟩⟩⟩⟩⟩⟩⟩⟩⟩⟩⟩⟩⟩⟩⟩⟩⟩⟩⟩
noncomputable def ilX4_init : List (Nat × Instr × Nat) := [(0, .aload_n 0, 1), (1, .invokespecial 3, 3), (4, .aload_n 0, 1), (5, .sipush 900, 3), (8, .newarray .byte, 2), (10, .putfield 9, 3), (13, .aload_n 0, 1), (14, .bipush 15, 2), (16, .newarray .long, 2), (18, .putfield 15, 3), (21, .aload_n 0, 1), (22, .bipush 15, 2), (24, .newarray .int, 2), (26, .putfield 19, 3), (29, .aload_n 0, 1), (30, .bipush 15, 2), (32, .newarray .int, 2), (34, .putfield 23, 3), (37, .return_, 1)]
theorem idX4_init : ∀ x ∈ ilX4_init, decode cX4_init x.1 = .ok x.2 := sq_ok (B := 0) List.drop_zero (by decide +kernel : sqI cX4_init 0 cX4_init.data.toList ilX4_init = true)
noncomputable def tbX4_init (l : Launch) (X : Nat × (Nat → Int32)) (d : Nat) (b : Nat × Nat) : List (Nat × OP) := [(0, oAl 0 1 0), (1, oOi 1), (4, oAl 4 1 0), (5, oIc 5 3 900), (8, oNa b 8 8 900 900), (10, oPR 10 4 0), (13, oAl 13 1 0), (14, oIc 14 2 15), (16, oNa b 16 10 15 15), (18, oPR 18 4 9), (21, oAl 21 1 0), (22, oIc 22 2 15), (24, oNa b 24 9 15 15), (26, oPR 26 4 10), (29, oAl 29 1 0), (30, oIc 30 2 15), (32, oNa b 32 9 15 15), (34, oPR 34 4 11), (37, oVr)]
set_option maxRecDepth 20000 in
theorem tkX4_init {l : Launch} {X : Nat × (Nat → Int32)} {d : Nat} {b : Nat × Nat} : ∀ x ∈ tbX4_init l X d b, OK l X uX4_init (d + 1) false b x.1 x.2 :=
  List.forall_mem_cons.mpr ⟨ok_aload_n (i := 0) (k := 0) rfl (idX4_init (0, .aload_n 0, 1) (List.mem_of_getElem? (i := 0) rfl)), List.forall_mem_cons.mpr ⟨ok_oi oiI oiC moX4_3 (idX4_init (1, .invokespecial 3, 3) (List.mem_of_getElem? (i := 1) rfl)), List.forall_mem_cons.mpr ⟨ok_aload_n (i := 0) (k := 0) rfl (idX4_init (4, .aload_n 0, 1) (List.mem_of_getElem? (i := 2) rfl)), List.forall_mem_cons.mpr ⟨ok_sipush (n := 900) (v := 900) (by decide) (idX4_init (5, .sipush 900, 3) (List.mem_of_getElem? (i := 3) rfl)), List.forall_mem_cons.mpr ⟨ok_na (k := 8) (n := 900) (v0 := 900) rfl (Or.inl ⟨rfl, rfl, rfl⟩) ⟨by decide, by decide, by decide⟩ ar_byte (idX4_init (8, .newarray .byte, 2) (List.mem_of_getElem? (i := 4) rfl)), List.forall_mem_cons.mpr ⟨ok_putRFA (c := 4) (k := 0) (T := TX4) (N := 15) tyX4 tyX4_ok nmX4 rfl inB4 (by decide) rfl rfl rfl (tyX4_ok 0 (by decide)) flX4_9 (idX4_init (10, .putfield 9, 3) (List.mem_of_getElem? (i := 5) rfl)), List.forall_mem_cons.mpr ⟨ok_aload_n (i := 0) (k := 0) rfl (idX4_init (13, .aload_n 0, 1) (List.mem_of_getElem? (i := 6) rfl)), List.forall_mem_cons.mpr ⟨ok_bipush (n := 15) (v := 15) (by decide) (idX4_init (14, .bipush 15, 2) (List.mem_of_getElem? (i := 7) rfl)), List.forall_mem_cons.mpr ⟨ok_na (k := 10) (n := 15) (v0 := 15) rfl (Or.inr (Or.inr ⟨rfl, rfl, rfl⟩)) ⟨by decide, by decide, by decide⟩ ar_long (idX4_init (16, .newarray .long, 2) (List.mem_of_getElem? (i := 8) rfl)), List.forall_mem_cons.mpr ⟨ok_putRFA (c := 4) (k := 9) (T := TX4) (N := 15) tyX4 tyX4_ok nmX4 rfl inB4 (by decide) rfl rfl rfl (tyX4_ok 9 (by decide)) flX4_15 (idX4_init (18, .putfield 15, 3) (List.mem_of_getElem? (i := 9) rfl)), List.forall_mem_cons.mpr ⟨ok_aload_n (i := 0) (k := 0) rfl (idX4_init (21, .aload_n 0, 1) (List.mem_of_getElem? (i := 10) rfl)), List.forall_mem_cons.mpr ⟨ok_bipush (n := 15) (v := 15) (by decide) (idX4_init (22, .bipush 15, 2) (List.mem_of_getElem? (i := 11) rfl)), List.forall_mem_cons.mpr ⟨ok_na (k := 9) (n := 15) (v0 := 15) rfl (Or.inr (Or.inl ⟨rfl, rfl, rfl⟩)) ⟨by decide, by decide, by decide⟩ ar_int (idX4_init (24, .newarray .int, 2) (List.mem_of_getElem? (i := 12) rfl)), List.forall_mem_cons.mpr ⟨ok_putRFA (c := 4) (k := 10) (T := TX4) (N := 15) tyX4 tyX4_ok nmX4 rfl inB4 (by decide) rfl rfl rfl (tyX4_ok 10 (by decide)) flX4_19 (idX4_init (26, .putfield 19, 3) (List.mem_of_getElem? (i := 13) rfl)), List.forall_mem_cons.mpr ⟨ok_aload_n (i := 0) (k := 0) rfl (idX4_init (29, .aload_n 0, 1) (List.mem_of_getElem? (i := 14) rfl)), List.forall_mem_cons.mpr ⟨ok_bipush (n := 15) (v := 15) (by decide) (idX4_init (30, .bipush 15, 2) (List.mem_of_getElem? (i := 15) rfl)), List.forall_mem_cons.mpr ⟨ok_na (k := 9) (n := 15) (v0 := 15) rfl (Or.inr (Or.inl ⟨rfl, rfl, rfl⟩)) ⟨by decide, by decide, by decide⟩ ar_int (idX4_init (32, .newarray .int, 2) (List.mem_of_getElem? (i := 16) rfl)), List.forall_mem_cons.mpr ⟨ok_putRFA (c := 4) (k := 11) (T := TX4) (N := 15) tyX4 tyX4_ok nmX4 rfl inB4 (by decide) rfl rfl rfl (tyX4_ok 11 (by decide)) flX4_23 (idX4_init (34, .putfield 23, 3) (List.mem_of_getElem? (i := 17) rfl)), List.forall_mem_cons.mpr ⟨ok_vr rfl (idX4_init (37, .return_, 1) (List.mem_of_getElem? (i := 18) rfl)), fun _ h => absurd h List.not_mem_nil⟩⟩⟩⟩⟩⟩⟩⟩⟩⟩⟩⟩⟩⟩⟩⟩⟩⟩⟩
noncomputable def ilX5_init : List (Nat × Instr × Nat) := [(0, .aload_n 0, 1), (1, .invokespecial 3, 3), (4, .aload_n 0, 1), (5, .bipush 20, 2), (7, .newarray .int, 2), (9, .putfield 9, 3), (12, .return_, 1)]
theorem idX5_init : ∀ x ∈ ilX5_init, decode cX5_init x.1 = .ok x.2 := sq_ok (B := 0) List.drop_zero (by decide +kernel : sqI cX5_init 0 cX5_init.data.toList ilX5_init = true)
noncomputable def tbX5_init (l : Launch) (X : Nat × (Nat → Int32)) (d : Nat) (b : Nat × Nat) : List (Nat × OP) := [(0, oAl 0 1 0), (1, oOi 1), (4, oAl 4 1 0), (5, oIc 5 2 20), (7, oNa b 7 9 20 20), (9, oPR 9 5 0), (12, oVr)]
set_option maxRecDepth 20000 in
theorem tkX5_init {l : Launch} {X : Nat × (Nat → Int32)} {d : Nat} {b : Nat × Nat} : ∀ x ∈ tbX5_init l X d b, OK l X uX5_init (d + 1) false b x.1 x.2 :=
  List.forall_mem_cons.mpr ⟨ok_aload_n (i := 0) (k := 0) rfl (idX5_init (0, .aload_n 0, 1) (List.mem_of_getElem? (i := 0) rfl)), List.forall_mem_cons.mpr ⟨ok_oi oiI oiC moX5_3 (idX5_init (1, .invokespecial 3, 3) (List.mem_of_getElem? (i := 1) rfl)), List.forall_mem_cons.mpr ⟨ok_aload_n (i := 0) (k := 0) rfl (idX5_init (4, .aload_n 0, 1) (List.mem_of_getElem? (i := 2) rfl)), List.forall_mem_cons.mpr ⟨ok_bipush (n := 20) (v := 20) (by decide) (idX5_init (5, .bipush 20, 2) (List.mem_of_getElem? (i := 3) rfl)), List.forall_mem_cons.mpr ⟨ok_na (k := 9) (n := 20) (v0 := 20) rfl (Or.inr (Or.inl ⟨rfl, rfl, rfl⟩)) ⟨by decide, by decide, by decide⟩ ar_int (idX5_init (7, .newarray .int, 2) (List.mem_of_getElem? (i := 4) rfl)), List.forall_mem_cons.mpr ⟨ok_putRFA (c := 5) (k := 0) (T := TX5) (N := 2) tyX5 tyX5_ok nmX5 rfl inB5 (by decide) rfl rfl rfl (tyX5_ok 0 (by decide)) flX5_9 (idX5_init (9, .putfield 9, 3) (List.mem_of_getElem? (i := 5) rfl)), List.forall_mem_cons.mpr ⟨ok_vr rfl (idX5_init (12, .return_, 1) (List.mem_of_getElem? (i := 6) rfl)), fun _ h => absurd h List.not_mem_nil⟩⟩⟩⟩⟩⟩⟩
noncomputable def ilX6_init : List (Nat × Instr × Nat) := [(0, .aload_n 0, 1), (1, .invokespecial 1, 3), (4, .aload_n 0, 1), (5, .new 7, 3), (8, .dup, 1), (9, .invokespecial 9, 3), (12, .putfield 10, 3), (15, .aload_n 0, 1), (16, .new 16, 3), (19, .dup, 1), (20, .invokespecial 18, 3), (23, .putfield 19, 3), (26, .aload_n 0, 1), (27, .new 16, 3), (30, .dup, 1), (31, .invokespecial 18, 3), (34, .putfield 23, 3), (37, .aload_n 0, 1), (38, .new 26, 3), (41, .dup, 1), (42, .invokespecial 28, 3), (45, .putfield 29, 3), (48, .aload_n 0, 1), (49, .bipush 16, 2), (51, .anewarray 26, 3), (54, .putfield 33, 3), (57, .aload_n 0, 1), (58, .iconst 0, 1), (59, .putfield 37, 3), (62, .aload_n 0, 1), (63, .iconst 0, 1), (64, .putfield 41, 3), (67, .aload_n 0, 1), (68, .iconst 3, 1), (69, .anewarray 26, 3), (72, .putfield 44, 3), (75, .aload_n 0, 1), (76, .iconst 0, 1), (77, .putfield 47, 3), (80, .aload_n 0, 1), (81, .new 50, 3), (84, .dup, 1), (85, .invokespecial 52, 3), (88, .putfield 53, 3), (91, .aload_n 0, 1), (92, .new 57, 3), (95, .dup, 1), (96, .invokespecial 59, 3), (99, .putfield 60, 3), (102, .aload_n 0, 1), (103, .new 64, 3), (106, .dup, 1), (107, .invokespecial 66, 3), (110, .putfield 67, 3), (113, .aload_n 0, 1), (114, .bipush 61, 2), (116, .newarray .int, 2), (118, .putfield 71, 3), (121, .aload_n 0, 1), (122, .iconst 0, 1), (123, .putfield 75, 3), (126, .iconst 0, 1), (127, .istore_n 1, 1), (128, .iload_n 1, 1), (129, .bipush 16, 2), (131, .if_icmp .ge 22, 3), (134, .aload_n 0, 1), (135, .getfield 33, 3), (138, .iload_n 1, 1), (139, .new 26, 3), (142, .dup, 1), (143, .invokespecial 28, 3), (146, .aastore, 1), (147, .iinc 1 1, 3), (150, .goto (-22), 3), (153, .iconst 0, 1), (154, .istore_n 1, 1), (155, .iload_n 1, 1), (156, .iconst 3, 1), (157, .if_icmp .ge 22, 3), (160, .aload_n 0, 1), (161, .getfield 44, 3), (164, .iload_n 1, 1), (165, .new 26, 3), (168, .dup, 1), (169, .invokespecial 28, 3), (172, .aastore, 1), (173, .iinc 1 1, 3), (176, .goto (-21), 3), (179, .return_, 1)]
theorem idX6_init : ∀ x ∈ ilX6_init, decode cX6_init x.1 = .ok x.2 := sq_ok (B := 0) List.drop_zero (by decide +kernel : sqI cX6_init 0 cX6_init.data.toList ilX6_init = true)
noncomputable def tbX6_init (l : Launch) (X : Nat × (Nat → Int32)) (d : Nat) (b : Nat × Nat) : List (Nat × OP) := [(0, oAl 0 1 0), (1, oOi 1), (4, oAl 4 1 0), (5, oNew b 5 4 15), (8, oDup 8), (9, oCi l X d b 9 uX4_init 4 4 945), (12, oPR 12 6 0), (15, oAl 15 1 0), (16, oNew b 16 3 20), (19, oDup 19), (20, oCi l X d b 20 uX3_init 3 12 61), (23, oPR 23 6 1), (26, oAl 26 1 0), (27, oNew b 27 3 20), (30, oDup 30), (31, oCi l X d b 31 uX3_init 3 12 61), (34, oPR 34 6 2), (37, oAl 37 1 0), (38, oNew b 38 2 6), (41, oDup 41), (42, oCi l X d b 42 uX2_init 2 4 23), (45, oPR 45 6 3), (48, oAl 48 1 0), (49, oIc 49 2 16), (51, oNq b 51 16 16), (54, oPR 54 6 4), (57, oAl 57 1 0), (58, oIc 58 1 0), (59, oPI 59 6 5), (62, oAl 62 1 0), (63, oIc 63 1 0), (64, oPI 64 6 6), (67, oAl 67 1 0), (68, oIc 68 1 3), (69, oNq b 69 3 3), (72, oPR 72 6 7), (75, oAl 75 1 0), (76, oIc 76 1 0), (77, oPI 77 6 8), (80, oAl 80 1 0), (81, oNew b 81 0 8), (84, oDup 84), (85, oCi l X d b 85 uX0_init 0 0 0), (88, oPR 88 6 9), (91, oAl 91 1 0), (92, oNew b 92 5 2), (95, oDup 95), (96, oCi l X d b 96 uX5_init 5 1 20), (99, oPR 99 6 10), (102, oAl 102 1 0), (103, oNew b 103 1 9), (106, oDup 106), (107, oCi l X d b 107 uX1_init 1 10 52), (110, oPR 110 6 11), (113, oAl 113 1 0), (114, oIc 114 2 61), (116, oNa b 116 9 61 61), (118, oPR 118 6 12), (121, oAl 121 1 0), (122, oIc 122 1 0), (123, oPI 123 6 13), (126, oIc 126 1 0), (127, oIs 127 1 1), (128, oIl 128 1 1), (129, oIc 129 2 16), (131, oCm 131 153 (fun x y => y ≤ x) (fun x y => ¬ y ≤ x)), (134, oAl 134 1 0), (135, oG 135 6 4 2), (138, oIl 138 1 1), (139, oNew b 139 2 6), (142, oDup 142), (143, oCi l X d b 143 uX2_init 2 4 23), (146, oAas 146), (147, oInc 147 1 1), (150, oGo 128), (153, oIc 153 1 0), (154, oIs 154 1 1), (155, oIl 155 1 1), (156, oIc 156 1 3), (157, oCm 157 179 (fun x y => y ≤ x) (fun x y => ¬ y ≤ x)), (160, oAl 160 1 0), (161, oG 161 6 7 2), (164, oIl 164 1 1), (165, oNew b 165 2 6), (168, oDup 168), (169, oCi l X d b 169 uX2_init 2 4 23), (172, oAas 172), (173, oInc 173 1 1), (176, oGo 155), (179, oVr)]
set_option maxRecDepth 20000 in
theorem tkX6_init {l : Launch} {X : Nat × (Nat → Int32)} {d : Nat} {b : Nat × Nat} : ∀ x ∈ tbX6_init l X d b, OK l X uX6_init (d + 1) false b x.1 x.2 :=
  List.forall_mem_cons.mpr ⟨ok_aload_n (i := 0) (k := 0) rfl (idX6_init (0, .aload_n 0, 1) (List.mem_of_getElem? (i := 0) rfl)), List.forall_mem_cons.mpr ⟨ok_oi oiI oiC moX6_1 (idX6_init (1, .invokespecial 1, 3) (List.mem_of_getElem? (i := 1) rfl)), List.forall_mem_cons.mpr ⟨ok_aload_n (i := 0) (k := 0) rfl (idX6_init (4, .aload_n 0, 1) (List.mem_of_getElem? (i := 2) rfl)), List.forall_mem_cons.mpr ⟨ok_new (c := 4) tyX4 tyX4_ok rfl inB4 (by decide) df_4 clX6_7 nwi_4 nwj_4 (idX6_init (5, .new 7, 3) (List.mem_of_getElem? (i := 3) rfl)), List.forall_mem_cons.mpr ⟨ok_dup (idX6_init (8, .dup, 1) (List.mem_of_getElem? (i := 4) rfl)), List.forall_mem_cons.mpr ⟨ok_ciN ci_X4 (by decide +kernel) (idX6_init (9, .invokespecial 9, 3) (List.mem_of_getElem? (i := 5) rfl)), List.forall_mem_cons.mpr ⟨ok_putRFO (c := 6) (k := 0) (T := TX6) (N := 14) tyX6 tyX6_ok nmX6 rfl inB6 (by decide) rfl rfl rfl (tyX6_ok 0 (by decide)) flX6_10 (idX6_init (12, .putfield 10, 3) (List.mem_of_getElem? (i := 6) rfl)), List.forall_mem_cons.mpr ⟨ok_aload_n (i := 0) (k := 0) rfl (idX6_init (15, .aload_n 0, 1) (List.mem_of_getElem? (i := 7) rfl)), List.forall_mem_cons.mpr ⟨ok_new (c := 3) tyX3 tyX3_ok rfl inB3 (by decide) df_3 clX6_16 nwi_3 nwj_3 (idX6_init (16, .new 16, 3) (List.mem_of_getElem? (i := 8) rfl)), List.forall_mem_cons.mpr ⟨ok_dup (idX6_init (19, .dup, 1) (List.mem_of_getElem? (i := 9) rfl)), List.forall_mem_cons.mpr ⟨ok_ciN ci_X3 (by decide +kernel) (idX6_init (20, .invokespecial 18, 3) (List.mem_of_getElem? (i := 10) rfl)), List.forall_mem_cons.mpr ⟨ok_putRO (c := 6) (k := 1) (T := TX6) (N := 14) tyX6 tyX6_ok nmX6 rfl inB6 (by decide) rfl (tyX6_ok 1 (by decide)) flX6_19 (idX6_init (23, .putfield 19, 3) (List.mem_of_getElem? (i := 11) rfl)), List.forall_mem_cons.mpr ⟨ok_aload_n (i := 0) (k := 0) rfl (idX6_init (26, .aload_n 0, 1) (List.mem_of_getElem? (i := 12) rfl)), List.forall_mem_cons.mpr ⟨ok_new (c := 3) tyX3 tyX3_ok rfl inB3 (by decide) df_3 clX6_16 nwi_3 nwj_3 (idX6_init (27, .new 16, 3) (List.mem_of_getElem? (i := 13) rfl)), List.forall_mem_cons.mpr ⟨ok_dup (idX6_init (30, .dup, 1) (List.mem_of_getElem? (i := 14) rfl)), List.forall_mem_cons.mpr ⟨ok_ciN ci_X3 (by decide +kernel) (idX6_init (31, .invokespecial 18, 3) (List.mem_of_getElem? (i := 15) rfl)), List.forall_mem_cons.mpr ⟨ok_putRO (c := 6) (k := 2) (T := TX6) (N := 14) tyX6 tyX6_ok nmX6 rfl inB6 (by decide) rfl (tyX6_ok 2 (by decide)) flX6_23 (idX6_init (34, .putfield 23, 3) (List.mem_of_getElem? (i := 16) rfl)), List.forall_mem_cons.mpr ⟨ok_aload_n (i := 0) (k := 0) rfl (idX6_init (37, .aload_n 0, 1) (List.mem_of_getElem? (i := 17) rfl)), List.forall_mem_cons.mpr ⟨ok_new (c := 2) tyX2 tyX2_ok rfl inB2 (by decide) df_2 clX6_26 nwi_2 nwj_2 (idX6_init (38, .new 26, 3) (List.mem_of_getElem? (i := 18) rfl)), List.forall_mem_cons.mpr ⟨ok_dup (idX6_init (41, .dup, 1) (List.mem_of_getElem? (i := 19) rfl)), List.forall_mem_cons.mpr ⟨ok_ciN ci_X2 (by decide +kernel) (idX6_init (42, .invokespecial 28, 3) (List.mem_of_getElem? (i := 20) rfl)), List.forall_mem_cons.mpr ⟨ok_putRFO (c := 6) (k := 3) (T := TX6) (N := 14) tyX6 tyX6_ok nmX6 rfl inB6 (by decide) rfl rfl rfl (tyX6_ok 3 (by decide)) flX6_29 (idX6_init (45, .putfield 29, 3) (List.mem_of_getElem? (i := 21) rfl)), List.forall_mem_cons.mpr ⟨ok_aload_n (i := 0) (k := 0) rfl (idX6_init (48, .aload_n 0, 1) (List.mem_of_getElem? (i := 22) rfl)), List.forall_mem_cons.mpr ⟨ok_bipush (n := 16) (v := 16) (by decide) (idX6_init (49, .bipush 16, 2) (List.mem_of_getElem? (i := 23) rfl)), List.forall_mem_cons.mpr ⟨ok_nq ⟨by decide, by decide, by decide⟩ clX6_26 (idX6_init (51, .anewarray 26, 3) (List.mem_of_getElem? (i := 24) rfl)), List.forall_mem_cons.mpr ⟨ok_putRFA (c := 6) (k := 4) (T := TX6) (N := 14) tyX6 tyX6_ok nmX6 rfl inB6 (by decide) rfl rfl rfl (tyX6_ok 4 (by decide)) flX6_33 (idX6_init (54, .putfield 33, 3) (List.mem_of_getElem? (i := 25) rfl)), List.forall_mem_cons.mpr ⟨ok_aload_n (i := 0) (k := 0) rfl (idX6_init (57, .aload_n 0, 1) (List.mem_of_getElem? (i := 26) rfl)), List.forall_mem_cons.mpr ⟨ok_iconst (n := 0) (v := 0) (by decide) (idX6_init (58, .iconst 0, 1) (List.mem_of_getElem? (i := 27) rfl)), List.forall_mem_cons.mpr ⟨ok_putI (c := 6) (k := 5) (T := TX6) (N := 14) tyX6 tyX6_ok nmX6 rfl inB6 (by decide) rfl (tyX6_ok 5 (by decide)) flX6_37 (idX6_init (59, .putfield 37, 3) (List.mem_of_getElem? (i := 28) rfl)), List.forall_mem_cons.mpr ⟨ok_aload_n (i := 0) (k := 0) rfl (idX6_init (62, .aload_n 0, 1) (List.mem_of_getElem? (i := 29) rfl)), List.forall_mem_cons.mpr ⟨ok_iconst (n := 0) (v := 0) (by decide) (idX6_init (63, .iconst 0, 1) (List.mem_of_getElem? (i := 30) rfl)), List.forall_mem_cons.mpr ⟨ok_putI (c := 6) (k := 6) (T := TX6) (N := 14) tyX6 tyX6_ok nmX6 rfl inB6 (by decide) rfl (tyX6_ok 6 (by decide)) flX6_41 (idX6_init (64, .putfield 41, 3) (List.mem_of_getElem? (i := 31) rfl)), List.forall_mem_cons.mpr ⟨ok_aload_n (i := 0) (k := 0) rfl (idX6_init (67, .aload_n 0, 1) (List.mem_of_getElem? (i := 32) rfl)), List.forall_mem_cons.mpr ⟨ok_iconst (n := 3) (v := 3) (by decide) (idX6_init (68, .iconst 3, 1) (List.mem_of_getElem? (i := 33) rfl)), List.forall_mem_cons.mpr ⟨ok_nq ⟨by decide, by decide, by decide⟩ clX6_26 (idX6_init (69, .anewarray 26, 3) (List.mem_of_getElem? (i := 34) rfl)), List.forall_mem_cons.mpr ⟨ok_putRFA (c := 6) (k := 7) (T := TX6) (N := 14) tyX6 tyX6_ok nmX6 rfl inB6 (by decide) rfl rfl rfl (tyX6_ok 7 (by decide)) flX6_44 (idX6_init (72, .putfield 44, 3) (List.mem_of_getElem? (i := 35) rfl)), List.forall_mem_cons.mpr ⟨ok_aload_n (i := 0) (k := 0) rfl (idX6_init (75, .aload_n 0, 1) (List.mem_of_getElem? (i := 36) rfl)), List.forall_mem_cons.mpr ⟨ok_iconst (n := 0) (v := 0) (by decide) (idX6_init (76, .iconst 0, 1) (List.mem_of_getElem? (i := 37) rfl)), List.forall_mem_cons.mpr ⟨ok_putI (c := 6) (k := 8) (T := TX6) (N := 14) tyX6 tyX6_ok nmX6 rfl inB6 (by decide) rfl (tyX6_ok 8 (by decide)) flX6_47 (idX6_init (77, .putfield 47, 3) (List.mem_of_getElem? (i := 38) rfl)), List.forall_mem_cons.mpr ⟨ok_aload_n (i := 0) (k := 0) rfl (idX6_init (80, .aload_n 0, 1) (List.mem_of_getElem? (i := 39) rfl)), List.forall_mem_cons.mpr ⟨ok_new (c := 0) tyX0 tyX0_ok rfl inB0 (by decide) df_0 clX6_50 nwi_0 nwj_0 (idX6_init (81, .new 50, 3) (List.mem_of_getElem? (i := 40) rfl)), List.forall_mem_cons.mpr ⟨ok_dup (idX6_init (84, .dup, 1) (List.mem_of_getElem? (i := 41) rfl)), List.forall_mem_cons.mpr ⟨ok_ciN ci_X0 (by decide +kernel) (idX6_init (85, .invokespecial 52, 3) (List.mem_of_getElem? (i := 42) rfl)), List.forall_mem_cons.mpr ⟨ok_putRFO (c := 6) (k := 9) (T := TX6) (N := 14) tyX6 tyX6_ok nmX6 rfl inB6 (by decide) rfl rfl rfl (tyX6_ok 9 (by decide)) flX6_53 (idX6_init (88, .putfield 53, 3) (List.mem_of_getElem? (i := 43) rfl)), List.forall_mem_cons.mpr ⟨ok_aload_n (i := 0) (k := 0) rfl (idX6_init (91, .aload_n 0, 1) (List.mem_of_getElem? (i := 44) rfl)), List.forall_mem_cons.mpr ⟨ok_new (c := 5) tyX5 tyX5_ok rfl inB5 (by decide) df_5 clX6_57 nwi_5 nwj_5 (idX6_init (92, .new 57, 3) (List.mem_of_getElem? (i := 45) rfl)), List.forall_mem_cons.mpr ⟨ok_dup (idX6_init (95, .dup, 1) (List.mem_of_getElem? (i := 46) rfl)), List.forall_mem_cons.mpr ⟨ok_ciN ci_X5 (by decide +kernel) (idX6_init (96, .invokespecial 59, 3) (List.mem_of_getElem? (i := 47) rfl)), List.forall_mem_cons.mpr ⟨ok_putRFO (c := 6) (k := 10) (T := TX6) (N := 14) tyX6 tyX6_ok nmX6 rfl inB6 (by decide) rfl rfl rfl (tyX6_ok 10 (by decide)) flX6_60 (idX6_init (99, .putfield 60, 3) (List.mem_of_getElem? (i := 48) rfl)), List.forall_mem_cons.mpr ⟨ok_aload_n (i := 0) (k := 0) rfl (idX6_init (102, .aload_n 0, 1) (List.mem_of_getElem? (i := 49) rfl)), List.forall_mem_cons.mpr ⟨ok_new (c := 1) tyX1 tyX1_ok rfl inB1 (by decide) df_1 clX6_64 nwi_1 nwj_1 (idX6_init (103, .new 64, 3) (List.mem_of_getElem? (i := 50) rfl)), List.forall_mem_cons.mpr ⟨ok_dup (idX6_init (106, .dup, 1) (List.mem_of_getElem? (i := 51) rfl)), List.forall_mem_cons.mpr ⟨ok_ciN ci_X1 (by decide +kernel) (idX6_init (107, .invokespecial 66, 3) (List.mem_of_getElem? (i := 52) rfl)), List.forall_mem_cons.mpr ⟨ok_putRFO (c := 6) (k := 11) (T := TX6) (N := 14) tyX6 tyX6_ok nmX6 rfl inB6 (by decide) rfl rfl rfl (tyX6_ok 11 (by decide)) flX6_67 (idX6_init (110, .putfield 67, 3) (List.mem_of_getElem? (i := 53) rfl)), List.forall_mem_cons.mpr ⟨ok_aload_n (i := 0) (k := 0) rfl (idX6_init (113, .aload_n 0, 1) (List.mem_of_getElem? (i := 54) rfl)), List.forall_mem_cons.mpr ⟨ok_bipush (n := 61) (v := 61) (by decide) (idX6_init (114, .bipush 61, 2) (List.mem_of_getElem? (i := 55) rfl)), List.forall_mem_cons.mpr ⟨ok_na (k := 9) (n := 61) (v0 := 61) rfl (Or.inr (Or.inl ⟨rfl, rfl, rfl⟩)) ⟨by decide, by decide, by decide⟩ ar_int (idX6_init (116, .newarray .int, 2) (List.mem_of_getElem? (i := 56) rfl)), List.forall_mem_cons.mpr ⟨ok_putRFA (c := 6) (k := 12) (T := TX6) (N := 14) tyX6 tyX6_ok nmX6 rfl inB6 (by decide) rfl rfl rfl (tyX6_ok 12 (by decide)) flX6_71 (idX6_init (118, .putfield 71, 3) (List.mem_of_getElem? (i := 57) rfl)), List.forall_mem_cons.mpr ⟨ok_aload_n (i := 0) (k := 0) rfl (idX6_init (121, .aload_n 0, 1) (List.mem_of_getElem? (i := 58) rfl)), List.forall_mem_cons.mpr ⟨ok_iconst (n := 0) (v := 0) (by decide) (idX6_init (122, .iconst 0, 1) (List.mem_of_getElem? (i := 59) rfl)), List.forall_mem_cons.mpr ⟨ok_putI (c := 6) (k := 13) (T := TX6) (N := 14) tyX6 tyX6_ok nmX6 rfl inB6 (by decide) rfl (tyX6_ok 13 (by decide)) flX6_75 (idX6_init (123, .putfield 75, 3) (List.mem_of_getElem? (i := 60) rfl)), List.forall_mem_cons.mpr ⟨ok_iconst (n := 0) (v := 0) (by decide) (idX6_init (126, .iconst 0, 1) (List.mem_of_getElem? (i := 61) rfl)), List.forall_mem_cons.mpr ⟨ok_istore_n (i := 1) (k := 1) rfl (by decide) (idX6_init (127, .istore_n 1, 1) (List.mem_of_getElem? (i := 62) rfl)), List.forall_mem_cons.mpr ⟨ok_iload_n (i := 1) (k := 1) rfl (idX6_init (128, .iload_n 1, 1) (List.mem_of_getElem? (i := 63) rfl)), List.forall_mem_cons.mpr ⟨ok_bipush (n := 16) (v := 16) (by decide) (idX6_init (129, .bipush 16, 2) (List.mem_of_getElem? (i := 64) rfl)), List.forall_mem_cons.mpr ⟨ok_icmpge (t := 153) (by decide) (idX6_init (131, .if_icmp .ge 22, 3) (List.mem_of_getElem? (i := 65) rfl)), List.forall_mem_cons.mpr ⟨ok_aload_n (i := 0) (k := 0) rfl (idX6_init (134, .aload_n 0, 1) (List.mem_of_getElem? (i := 66) rfl)), List.forall_mem_cons.mpr ⟨ok_get (c := 6) (k := 4) (t := 2) (T := TX6) (N := 14) rfl inB6 (by decide) flX6_33 (idX6_init (135, .getfield 33, 3) (List.mem_of_getElem? (i := 67) rfl)), List.forall_mem_cons.mpr ⟨ok_iload_n (i := 1) (k := 1) rfl (idX6_init (138, .iload_n 1, 1) (List.mem_of_getElem? (i := 68) rfl)), List.forall_mem_cons.mpr ⟨ok_new (c := 2) tyX2 tyX2_ok rfl inB2 (by decide) df_2 clX6_26 nwi_2 nwj_2 (idX6_init (139, .new 26, 3) (List.mem_of_getElem? (i := 69) rfl)), List.forall_mem_cons.mpr ⟨ok_dup (idX6_init (142, .dup, 1) (List.mem_of_getElem? (i := 70) rfl)), List.forall_mem_cons.mpr ⟨ok_ciN ci_X2 (by decide +kernel) (idX6_init (143, .invokespecial 28, 3) (List.mem_of_getElem? (i := 71) rfl)), List.forall_mem_cons.mpr ⟨ok_aastore (idX6_init (146, .aastore, 1) (List.mem_of_getElem? (i := 72) rfl)), List.forall_mem_cons.mpr ⟨ok_iinc (n := 1) (v := 1) (by decide) (by decide) (idX6_init (147, .iinc 1 1, 3) (List.mem_of_getElem? (i := 73) rfl)), List.forall_mem_cons.mpr ⟨ok_goto (t := 128) (by decide) (idX6_init (150, .goto (-22), 3) (List.mem_of_getElem? (i := 74) rfl)), List.forall_mem_cons.mpr ⟨ok_iconst (n := 0) (v := 0) (by decide) (idX6_init (153, .iconst 0, 1) (List.mem_of_getElem? (i := 75) rfl)), List.forall_mem_cons.mpr ⟨ok_istore_n (i := 1) (k := 1) rfl (by decide) (idX6_init (154, .istore_n 1, 1) (List.mem_of_getElem? (i := 76) rfl)), List.forall_mem_cons.mpr ⟨ok_iload_n (i := 1) (k := 1) rfl (idX6_init (155, .iload_n 1, 1) (List.mem_of_getElem? (i := 77) rfl)), List.forall_mem_cons.mpr ⟨ok_iconst (n := 3) (v := 3) (by decide) (idX6_init (156, .iconst 3, 1) (List.mem_of_getElem? (i := 78) rfl)), List.forall_mem_cons.mpr ⟨ok_icmpge (t := 179) (by decide) (idX6_init (157, .if_icmp .ge 22, 3) (List.mem_of_getElem? (i := 79) rfl)), List.forall_mem_cons.mpr ⟨ok_aload_n (i := 0) (k := 0) rfl (idX6_init (160, .aload_n 0, 1) (List.mem_of_getElem? (i := 80) rfl)), List.forall_mem_cons.mpr ⟨ok_get (c := 6) (k := 7) (t := 2) (T := TX6) (N := 14) rfl inB6 (by decide) flX6_44 (idX6_init (161, .getfield 44, 3) (List.mem_of_getElem? (i := 81) rfl)), List.forall_mem_cons.mpr ⟨ok_iload_n (i := 1) (k := 1) rfl (idX6_init (164, .iload_n 1, 1) (List.mem_of_getElem? (i := 82) rfl)), List.forall_mem_cons.mpr ⟨ok_new (c := 2) tyX2 tyX2_ok rfl inB2 (by decide) df_2 clX6_26 nwi_2 nwj_2 (idX6_init (165, .new 26, 3) (List.mem_of_getElem? (i := 83) rfl)), List.forall_mem_cons.mpr ⟨ok_dup (idX6_init (168, .dup, 1) (List.mem_of_getElem? (i := 84) rfl)), List.forall_mem_cons.mpr ⟨ok_ciN ci_X2 (by decide +kernel) (idX6_init (169, .invokespecial 28, 3) (List.mem_of_getElem? (i := 85) rfl)), List.forall_mem_cons.mpr ⟨ok_aastore (idX6_init (172, .aastore, 1) (List.mem_of_getElem? (i := 86) rfl)), List.forall_mem_cons.mpr ⟨ok_iinc (n := 1) (v := 1) (by decide) (by decide) (idX6_init (173, .iinc 1 1, 3) (List.mem_of_getElem? (i := 87) rfl)), List.forall_mem_cons.mpr ⟨ok_goto (t := 155) (by decide) (idX6_init (176, .goto (-21), 3) (List.mem_of_getElem? (i := 88) rfl)), List.forall_mem_cons.mpr ⟨ok_vr rfl (idX6_init (179, .return_, 1) (List.mem_of_getElem? (i := 89) rfl)), fun _ h => absurd h List.not_mem_nil⟩⟩⟩⟩⟩⟩⟩⟩⟩⟩⟩⟩⟩⟩⟩⟩⟩⟩⟩⟩⟩⟩⟩⟩⟩⟩⟩⟩⟩⟩⟩⟩⟩⟩⟩⟩⟩⟩⟩⟩⟩⟩⟩⟩⟩⟩⟩⟩⟩⟩⟩⟩⟩⟩⟩⟩⟩⟩⟩⟩⟩⟩⟩⟩⟩⟩⟩⟩⟩⟩⟩⟩⟩⟩⟩⟩⟩⟩⟩⟩⟩⟩⟩⟩⟩⟩⟩⟩⟩⟩
noncomputable def ilX7_init : List (Nat × Instr × Nat) := [(0, .aload_n 0, 1), (1, .invokespecial 1, 3), (4, .aload_n 0, 1), (5, .sipush 900, 3), (8, .newarray .int, 2), (10, .putfield 7, 3), (13, .aload_n 0, 1), (14, .iconst (-1), 1), (15, .putfield 13, 3), (18, .aload_n 0, 1), (19, .bipush 8, 2), (21, .newarray .int, 2), (23, .putfield 17, 3), (26, .aload_n 0, 1), (27, .sipush 202, 3), (30, .newarray .int, 2), (32, .putfield 20, 3), (35, .aload_n 0, 1), (36, .sipush 202, 3), (39, .newarray .int, 2), (41, .putfield 23, 3), (44, .aload_n 0, 1), (45, .bipush 25, 2), (47, .newarray .int, 2), (49, .putfield 26, 3), (52, .aload_n 0, 1), (53, .bipush 25, 2), (55, .newarray .int, 2), (57, .putfield 29, 3), (60, .aload_n 0, 1), (61, .bipush 25, 2), (63, .newarray .int, 2), (65, .putfield 32, 3), (68, .aload_n 0, 1), (69, .sipush 400, 3), (72, .newarray .int, 2), (74, .putfield 35, 3), (77, .aload_n 0, 1), (78, .bipush 75, 2), (80, .newarray .int, 2), (82, .putfield 38, 3), (85, .aload_n 0, 1), (86, .iconst 5, 1), (87, .newarray .int, 2), (89, .putfield 41, 3), (92, .aload_n 0, 1), (93, .bipush 25, 2), (95, .newarray .int, 2), (97, .putfield 44, 3), (100, .aload_n 0, 1), (101, .iconst 5, 1), (102, .newarray .int, 2), (104, .putfield 47, 3), (107, .aload_n 0, 1), (108, .iconst 5, 1), (109, .newarray .int, 2), (111, .putfield 50, 3), (114, .aload_n 0, 1), (115, .bipush 20, 2), (117, .newarray .int, 2), (119, .putfield 53, 3), (122, .aload_n 0, 1), (123, .bipush 6, 2), (125, .newarray .int, 2), (127, .putfield 56, 3), (130, .aload_n 0, 1), (131, .iconst 4, 1), (132, .newarray .int, 2), (134, .putfield 59, 3), (137, .return_, 1)]
theorem idX7_init : ∀ x ∈ ilX7_init, decode cX7_init x.1 = .ok x.2 := sq_ok (B := 0) List.drop_zero (by decide +kernel : sqI cX7_init 0 cX7_init.data.toList ilX7_init = true)
noncomputable def tbX7_init (l : Launch) (X : Nat × (Nat → Int32)) (d : Nat) (b : Nat × Nat) : List (Nat × OP) := [(0, oAl 0 1 0), (1, oOi 1), (4, oAl 4 1 0), (5, oIc 5 3 900), (8, oNa b 8 9 900 900), (10, oPR 10 7 1), (13, oAl 13 1 0), (14, oIc 14 1 (-1)), (15, oPI 15 7 10), (18, oAl 18 1 0), (19, oIc 19 2 8), (21, oNa b 21 9 8 8), (23, oPR 23 7 12), (26, oAl 26 1 0), (27, oIc 27 3 202), (30, oNa b 30 9 202 202), (32, oPR 32 7 15), (35, oAl 35 1 0), (36, oIc 36 3 202), (39, oNa b 39 9 202 202), (41, oPR 41 7 16), (44, oAl 44 1 0), (45, oIc 45 2 25), (47, oNa b 47 9 25 25), (49, oPR 49 7 17), (52, oAl 52 1 0), (53, oIc 53 2 25), (55, oNa b 55 9 25 25), (57, oPR 57 7 18), (60, oAl 60 1 0), (61, oIc 61 2 25), (63, oNa b 63 9 25 25), (65, oPR 65 7 19), (68, oAl 68 1 0), (69, oIc 69 3 400), (72, oNa b 72 9 400 400), (74, oPR 74 7 20), (77, oAl 77 1 0), (78, oIc 78 2 75), (80, oNa b 80 9 75 75), (82, oPR 82 7 21), (85, oAl 85 1 0), (86, oIc 86 1 5), (87, oNa b 87 9 5 5), (89, oPR 89 7 24), (92, oAl 92 1 0), (93, oIc 93 2 25), (95, oNa b 95 9 25 25), (97, oPR 97 7 25), (100, oAl 100 1 0), (101, oIc 101 1 5), (102, oNa b 102 9 5 5), (104, oPR 104 7 27), (107, oAl 107 1 0), (108, oIc 108 1 5), (109, oNa b 109 9 5 5), (111, oPR 111 7 28), (114, oAl 114 1 0), (115, oIc 115 2 20), (117, oNa b 117 9 20 20), (119, oPR 119 7 33), (122, oAl 122 1 0), (123, oIc 123 2 6), (125, oNa b 125 9 6 6), (127, oPR 127 7 34), (130, oAl 130 1 0), (131, oIc 131 1 4), (132, oNa b 132 9 4 4), (134, oPR 134 7 35), (137, oVr)]
set_option maxRecDepth 20000 in
theorem tkX7_init {l : Launch} {X : Nat × (Nat → Int32)} {d : Nat} {b : Nat × Nat} : ∀ x ∈ tbX7_init l X d b, OK l X uX7_init (d + 1) false b x.1 x.2 :=
  List.forall_mem_cons.mpr ⟨ok_aload_n (i := 0) (k := 0) rfl (idX7_init (0, .aload_n 0, 1) (List.mem_of_getElem? (i := 0) rfl)), List.forall_mem_cons.mpr ⟨ok_oi oiI oiC moX7_1 (idX7_init (1, .invokespecial 1, 3) (List.mem_of_getElem? (i := 1) rfl)), List.forall_mem_cons.mpr ⟨ok_aload_n (i := 0) (k := 0) rfl (idX7_init (4, .aload_n 0, 1) (List.mem_of_getElem? (i := 2) rfl)), List.forall_mem_cons.mpr ⟨ok_sipush (n := 900) (v := 900) (by decide) (idX7_init (5, .sipush 900, 3) (List.mem_of_getElem? (i := 3) rfl)), List.forall_mem_cons.mpr ⟨ok_na (k := 9) (n := 900) (v0 := 900) rfl (Or.inr (Or.inl ⟨rfl, rfl, rfl⟩)) ⟨by decide, by decide, by decide⟩ ar_int (idX7_init (8, .newarray .int, 2) (List.mem_of_getElem? (i := 4) rfl)), List.forall_mem_cons.mpr ⟨ok_putRFA (c := 7) (k := 1) (T := TX7) (N := 44) tyX7 tyX7_ok nmX7 rfl inB7 (by decide) rfl rfl rfl (tyX7_ok 1 (by decide)) flX7_7 (idX7_init (10, .putfield 7, 3) (List.mem_of_getElem? (i := 5) rfl)), List.forall_mem_cons.mpr ⟨ok_aload_n (i := 0) (k := 0) rfl (idX7_init (13, .aload_n 0, 1) (List.mem_of_getElem? (i := 6) rfl)), List.forall_mem_cons.mpr ⟨ok_iconst (n := -1) (v := (-1)) (by decide) (idX7_init (14, .iconst (-1), 1) (List.mem_of_getElem? (i := 7) rfl)), List.forall_mem_cons.mpr ⟨ok_putI (c := 7) (k := 10) (T := TX7) (N := 44) tyX7 tyX7_ok nmX7 rfl inB7 (by decide) rfl (tyX7_ok 10 (by decide)) flX7_13 (idX7_init (15, .putfield 13, 3) (List.mem_of_getElem? (i := 8) rfl)), List.forall_mem_cons.mpr ⟨ok_aload_n (i := 0) (k := 0) rfl (idX7_init (18, .aload_n 0, 1) (List.mem_of_getElem? (i := 9) rfl)), List.forall_mem_cons.mpr ⟨ok_bipush (n := 8) (v := 8) (by decide) (idX7_init (19, .bipush 8, 2) (List.mem_of_getElem? (i := 10) rfl)), List.forall_mem_cons.mpr ⟨ok_na (k := 9) (n := 8) (v0 := 8) rfl (Or.inr (Or.inl ⟨rfl, rfl, rfl⟩)) ⟨by decide, by decide, by decide⟩ ar_int (idX7_init (21, .newarray .int, 2) (List.mem_of_getElem? (i := 11) rfl)), List.forall_mem_cons.mpr ⟨ok_putRFA (c := 7) (k := 12) (T := TX7) (N := 44) tyX7 tyX7_ok nmX7 rfl inB7 (by decide) rfl rfl rfl (tyX7_ok 12 (by decide)) flX7_17 (idX7_init (23, .putfield 17, 3) (List.mem_of_getElem? (i := 12) rfl)), List.forall_mem_cons.mpr ⟨ok_aload_n (i := 0) (k := 0) rfl (idX7_init (26, .aload_n 0, 1) (List.mem_of_getElem? (i := 13) rfl)), List.forall_mem_cons.mpr ⟨ok_sipush (n := 202) (v := 202) (by decide) (idX7_init (27, .sipush 202, 3) (List.mem_of_getElem? (i := 14) rfl)), List.forall_mem_cons.mpr ⟨ok_na (k := 9) (n := 202) (v0 := 202) rfl (Or.inr (Or.inl ⟨rfl, rfl, rfl⟩)) ⟨by decide, by decide, by decide⟩ ar_int (idX7_init (30, .newarray .int, 2) (List.mem_of_getElem? (i := 15) rfl)), List.forall_mem_cons.mpr ⟨ok_putRFA (c := 7) (k := 15) (T := TX7) (N := 44) tyX7 tyX7_ok nmX7 rfl inB7 (by decide) rfl rfl rfl (tyX7_ok 15 (by decide)) flX7_20 (idX7_init (32, .putfield 20, 3) (List.mem_of_getElem? (i := 16) rfl)), List.forall_mem_cons.mpr ⟨ok_aload_n (i := 0) (k := 0) rfl (idX7_init (35, .aload_n 0, 1) (List.mem_of_getElem? (i := 17) rfl)), List.forall_mem_cons.mpr ⟨ok_sipush (n := 202) (v := 202) (by decide) (idX7_init (36, .sipush 202, 3) (List.mem_of_getElem? (i := 18) rfl)), List.forall_mem_cons.mpr ⟨ok_na (k := 9) (n := 202) (v0 := 202) rfl (Or.inr (Or.inl ⟨rfl, rfl, rfl⟩)) ⟨by decide, by decide, by decide⟩ ar_int (idX7_init (39, .newarray .int, 2) (List.mem_of_getElem? (i := 19) rfl)), List.forall_mem_cons.mpr ⟨ok_putRFA (c := 7) (k := 16) (T := TX7) (N := 44) tyX7 tyX7_ok nmX7 rfl inB7 (by decide) rfl rfl rfl (tyX7_ok 16 (by decide)) flX7_23 (idX7_init (41, .putfield 23, 3) (List.mem_of_getElem? (i := 20) rfl)), List.forall_mem_cons.mpr ⟨ok_aload_n (i := 0) (k := 0) rfl (idX7_init (44, .aload_n 0, 1) (List.mem_of_getElem? (i := 21) rfl)), List.forall_mem_cons.mpr ⟨ok_bipush (n := 25) (v := 25) (by decide) (idX7_init (45, .bipush 25, 2) (List.mem_of_getElem? (i := 22) rfl)), List.forall_mem_cons.mpr ⟨ok_na (k := 9) (n := 25) (v0 := 25) rfl (Or.inr (Or.inl ⟨rfl, rfl, rfl⟩)) ⟨by decide, by decide, by decide⟩ ar_int (idX7_init (47, .newarray .int, 2) (List.mem_of_getElem? (i := 23) rfl)), List.forall_mem_cons.mpr ⟨ok_putRFA (c := 7) (k := 17) (T := TX7) (N := 44) tyX7 tyX7_ok nmX7 rfl inB7 (by decide) rfl rfl rfl (tyX7_ok 17 (by decide)) flX7_26 (idX7_init (49, .putfield 26, 3) (List.mem_of_getElem? (i := 24) rfl)), List.forall_mem_cons.mpr ⟨ok_aload_n (i := 0) (k := 0) rfl (idX7_init (52, .aload_n 0, 1) (List.mem_of_getElem? (i := 25) rfl)), List.forall_mem_cons.mpr ⟨ok_bipush (n := 25) (v := 25) (by decide) (idX7_init (53, .bipush 25, 2) (List.mem_of_getElem? (i := 26) rfl)), List.forall_mem_cons.mpr ⟨ok_na (k := 9) (n := 25) (v0 := 25) rfl (Or.inr (Or.inl ⟨rfl, rfl, rfl⟩)) ⟨by decide, by decide, by decide⟩ ar_int (idX7_init (55, .newarray .int, 2) (List.mem_of_getElem? (i := 27) rfl)), List.forall_mem_cons.mpr ⟨ok_putRFA (c := 7) (k := 18) (T := TX7) (N := 44) tyX7 tyX7_ok nmX7 rfl inB7 (by decide) rfl rfl rfl (tyX7_ok 18 (by decide)) flX7_29 (idX7_init (57, .putfield 29, 3) (List.mem_of_getElem? (i := 28) rfl)), List.forall_mem_cons.mpr ⟨ok_aload_n (i := 0) (k := 0) rfl (idX7_init (60, .aload_n 0, 1) (List.mem_of_getElem? (i := 29) rfl)), List.forall_mem_cons.mpr ⟨ok_bipush (n := 25) (v := 25) (by decide) (idX7_init (61, .bipush 25, 2) (List.mem_of_getElem? (i := 30) rfl)), List.forall_mem_cons.mpr ⟨ok_na (k := 9) (n := 25) (v0 := 25) rfl (Or.inr (Or.inl ⟨rfl, rfl, rfl⟩)) ⟨by decide, by decide, by decide⟩ ar_int (idX7_init (63, .newarray .int, 2) (List.mem_of_getElem? (i := 31) rfl)), List.forall_mem_cons.mpr ⟨ok_putRFA (c := 7) (k := 19) (T := TX7) (N := 44) tyX7 tyX7_ok nmX7 rfl inB7 (by decide) rfl rfl rfl (tyX7_ok 19 (by decide)) flX7_32 (idX7_init (65, .putfield 32, 3) (List.mem_of_getElem? (i := 32) rfl)), List.forall_mem_cons.mpr ⟨ok_aload_n (i := 0) (k := 0) rfl (idX7_init (68, .aload_n 0, 1) (List.mem_of_getElem? (i := 33) rfl)), List.forall_mem_cons.mpr ⟨ok_sipush (n := 400) (v := 400) (by decide) (idX7_init (69, .sipush 400, 3) (List.mem_of_getElem? (i := 34) rfl)), List.forall_mem_cons.mpr ⟨ok_na (k := 9) (n := 400) (v0 := 400) rfl (Or.inr (Or.inl ⟨rfl, rfl, rfl⟩)) ⟨by decide, by decide, by decide⟩ ar_int (idX7_init (72, .newarray .int, 2) (List.mem_of_getElem? (i := 35) rfl)), List.forall_mem_cons.mpr ⟨ok_putRFA (c := 7) (k := 20) (T := TX7) (N := 44) tyX7 tyX7_ok nmX7 rfl inB7 (by decide) rfl rfl rfl (tyX7_ok 20 (by decide)) flX7_35 (idX7_init (74, .putfield 35, 3) (List.mem_of_getElem? (i := 36) rfl)), List.forall_mem_cons.mpr ⟨ok_aload_n (i := 0) (k := 0) rfl (idX7_init (77, .aload_n 0, 1) (List.mem_of_getElem? (i := 37) rfl)), List.forall_mem_cons.mpr ⟨ok_bipush (n := 75) (v := 75) (by decide) (idX7_init (78, .bipush 75, 2) (List.mem_of_getElem? (i := 38) rfl)), List.forall_mem_cons.mpr ⟨ok_na (k := 9) (n := 75) (v0 := 75) rfl (Or.inr (Or.inl ⟨rfl, rfl, rfl⟩)) ⟨by decide, by decide, by decide⟩ ar_int (idX7_init (80, .newarray .int, 2) (List.mem_of_getElem? (i := 39) rfl)), List.forall_mem_cons.mpr ⟨ok_putRFA (c := 7) (k := 21) (T := TX7) (N := 44) tyX7 tyX7_ok nmX7 rfl inB7 (by decide) rfl rfl rfl (tyX7_ok 21 (by decide)) flX7_38 (idX7_init (82, .putfield 38, 3) (List.mem_of_getElem? (i := 40) rfl)), List.forall_mem_cons.mpr ⟨ok_aload_n (i := 0) (k := 0) rfl (idX7_init (85, .aload_n 0, 1) (List.mem_of_getElem? (i := 41) rfl)), List.forall_mem_cons.mpr ⟨ok_iconst (n := 5) (v := 5) (by decide) (idX7_init (86, .iconst 5, 1) (List.mem_of_getElem? (i := 42) rfl)), List.forall_mem_cons.mpr ⟨ok_na (k := 9) (n := 5) (v0 := 5) rfl (Or.inr (Or.inl ⟨rfl, rfl, rfl⟩)) ⟨by decide, by decide, by decide⟩ ar_int (idX7_init (87, .newarray .int, 2) (List.mem_of_getElem? (i := 43) rfl)), List.forall_mem_cons.mpr ⟨ok_putRFA (c := 7) (k := 24) (T := TX7) (N := 44) tyX7 tyX7_ok nmX7 rfl inB7 (by decide) rfl rfl rfl (tyX7_ok 24 (by decide)) flX7_41 (idX7_init (89, .putfield 41, 3) (List.mem_of_getElem? (i := 44) rfl)), List.forall_mem_cons.mpr ⟨ok_aload_n (i := 0) (k := 0) rfl (idX7_init (92, .aload_n 0, 1) (List.mem_of_getElem? (i := 45) rfl)), List.forall_mem_cons.mpr ⟨ok_bipush (n := 25) (v := 25) (by decide) (idX7_init (93, .bipush 25, 2) (List.mem_of_getElem? (i := 46) rfl)), List.forall_mem_cons.mpr ⟨ok_na (k := 9) (n := 25) (v0 := 25) rfl (Or.inr (Or.inl ⟨rfl, rfl, rfl⟩)) ⟨by decide, by decide, by decide⟩ ar_int (idX7_init (95, .newarray .int, 2) (List.mem_of_getElem? (i := 47) rfl)), List.forall_mem_cons.mpr ⟨ok_putRFA (c := 7) (k := 25) (T := TX7) (N := 44) tyX7 tyX7_ok nmX7 rfl inB7 (by decide) rfl rfl rfl (tyX7_ok 25 (by decide)) flX7_44 (idX7_init (97, .putfield 44, 3) (List.mem_of_getElem? (i := 48) rfl)), List.forall_mem_cons.mpr ⟨ok_aload_n (i := 0) (k := 0) rfl (idX7_init (100, .aload_n 0, 1) (List.mem_of_getElem? (i := 49) rfl)), List.forall_mem_cons.mpr ⟨ok_iconst (n := 5) (v := 5) (by decide) (idX7_init (101, .iconst 5, 1) (List.mem_of_getElem? (i := 50) rfl)), List.forall_mem_cons.mpr ⟨ok_na (k := 9) (n := 5) (v0 := 5) rfl (Or.inr (Or.inl ⟨rfl, rfl, rfl⟩)) ⟨by decide, by decide, by decide⟩ ar_int (idX7_init (102, .newarray .int, 2) (List.mem_of_getElem? (i := 51) rfl)), List.forall_mem_cons.mpr ⟨ok_putRFA (c := 7) (k := 27) (T := TX7) (N := 44) tyX7 tyX7_ok nmX7 rfl inB7 (by decide) rfl rfl rfl (tyX7_ok 27 (by decide)) flX7_47 (idX7_init (104, .putfield 47, 3) (List.mem_of_getElem? (i := 52) rfl)), List.forall_mem_cons.mpr ⟨ok_aload_n (i := 0) (k := 0) rfl (idX7_init (107, .aload_n 0, 1) (List.mem_of_getElem? (i := 53) rfl)), List.forall_mem_cons.mpr ⟨ok_iconst (n := 5) (v := 5) (by decide) (idX7_init (108, .iconst 5, 1) (List.mem_of_getElem? (i := 54) rfl)), List.forall_mem_cons.mpr ⟨ok_na (k := 9) (n := 5) (v0 := 5) rfl (Or.inr (Or.inl ⟨rfl, rfl, rfl⟩)) ⟨by decide, by decide, by decide⟩ ar_int (idX7_init (109, .newarray .int, 2) (List.mem_of_getElem? (i := 55) rfl)), List.forall_mem_cons.mpr ⟨ok_putRFA (c := 7) (k := 28) (T := TX7) (N := 44) tyX7 tyX7_ok nmX7 rfl inB7 (by decide) rfl rfl rfl (tyX7_ok 28 (by decide)) flX7_50 (idX7_init (111, .putfield 50, 3) (List.mem_of_getElem? (i := 56) rfl)), List.forall_mem_cons.mpr ⟨ok_aload_n (i := 0) (k := 0) rfl (idX7_init (114, .aload_n 0, 1) (List.mem_of_getElem? (i := 57) rfl)), List.forall_mem_cons.mpr ⟨ok_bipush (n := 20) (v := 20) (by decide) (idX7_init (115, .bipush 20, 2) (List.mem_of_getElem? (i := 58) rfl)), List.forall_mem_cons.mpr ⟨ok_na (k := 9) (n := 20) (v0 := 20) rfl (Or.inr (Or.inl ⟨rfl, rfl, rfl⟩)) ⟨by decide, by decide, by decide⟩ ar_int (idX7_init (117, .newarray .int, 2) (List.mem_of_getElem? (i := 59) rfl)), List.forall_mem_cons.mpr ⟨ok_putRFA (c := 7) (k := 33) (T := TX7) (N := 44) tyX7 tyX7_ok nmX7 rfl inB7 (by decide) rfl rfl rfl (tyX7_ok 33 (by decide)) flX7_53 (idX7_init (119, .putfield 53, 3) (List.mem_of_getElem? (i := 60) rfl)), List.forall_mem_cons.mpr ⟨ok_aload_n (i := 0) (k := 0) rfl (idX7_init (122, .aload_n 0, 1) (List.mem_of_getElem? (i := 61) rfl)), List.forall_mem_cons.mpr ⟨ok_bipush (n := 6) (v := 6) (by decide) (idX7_init (123, .bipush 6, 2) (List.mem_of_getElem? (i := 62) rfl)), List.forall_mem_cons.mpr ⟨ok_na (k := 9) (n := 6) (v0 := 6) rfl (Or.inr (Or.inl ⟨rfl, rfl, rfl⟩)) ⟨by decide, by decide, by decide⟩ ar_int (idX7_init (125, .newarray .int, 2) (List.mem_of_getElem? (i := 63) rfl)), List.forall_mem_cons.mpr ⟨ok_putRFA (c := 7) (k := 34) (T := TX7) (N := 44) tyX7 tyX7_ok nmX7 rfl inB7 (by decide) rfl rfl rfl (tyX7_ok 34 (by decide)) flX7_56 (idX7_init (127, .putfield 56, 3) (List.mem_of_getElem? (i := 64) rfl)), List.forall_mem_cons.mpr ⟨ok_aload_n (i := 0) (k := 0) rfl (idX7_init (130, .aload_n 0, 1) (List.mem_of_getElem? (i := 65) rfl)), List.forall_mem_cons.mpr ⟨ok_iconst (n := 4) (v := 4) (by decide) (idX7_init (131, .iconst 4, 1) (List.mem_of_getElem? (i := 66) rfl)), List.forall_mem_cons.mpr ⟨ok_na (k := 9) (n := 4) (v0 := 4) rfl (Or.inr (Or.inl ⟨rfl, rfl, rfl⟩)) ⟨by decide, by decide, by decide⟩ ar_int (idX7_init (132, .newarray .int, 2) (List.mem_of_getElem? (i := 67) rfl)), List.forall_mem_cons.mpr ⟨ok_putRFA (c := 7) (k := 35) (T := TX7) (N := 44) tyX7 tyX7_ok nmX7 rfl inB7 (by decide) rfl rfl rfl (tyX7_ok 35 (by decide)) flX7_59 (idX7_init (134, .putfield 59, 3) (List.mem_of_getElem? (i := 68) rfl)), List.forall_mem_cons.mpr ⟨ok_vr rfl (idX7_init (137, .return_, 1) (List.mem_of_getElem? (i := 69) rfl)), fun _ h => absurd h List.not_mem_nil⟩⟩⟩⟩⟩⟩⟩⟩⟩⟩⟩⟩⟩⟩⟩⟩⟩⟩⟩⟩⟩⟩⟩⟩⟩⟩⟩⟩⟩⟩⟩⟩⟩⟩⟩⟩⟩⟩⟩⟩⟩⟩⟩⟩⟩⟩⟩⟩⟩⟩⟩⟩⟩⟩⟩⟩⟩⟩⟩⟩⟩⟩⟩⟩⟩⟩⟩⟩⟩⟩
end
section
noncomputable def cX0 (D : Dl) (a : Nat) : Dl := D
noncomputable def cX2 (D : Dl) (a : Nat) : Dl := fa (fa (fa (fa D a 9 6 0) a 9 6 1) a 9 6 2) a 9 5 3
noncomputable def cX3 (D : Dl) (a : Nat) : Dl := fa (fa (fa (fa (fa (fa (fa (fa (fa (fa (fa (fa D a 9 6 5) a 9 6 6) a 9 6 7) a 9 6 8) a 9 6 9) a 9 5 11) a 9 5 12) a 9 5 13) a 9 4 15) a 9 4 16) a 9 4 18) a 9 4 19
noncomputable def cX4 (D : Dl) (a : Nat) : Dl := fa (fa (fa (fa D a 8 900 0) a 10 15 9) a 9 15 10) a 9 15 11
noncomputable def cX5 (D : Dl) (a : Nat) : Dl := fa D a 9 20 0
noncomputable def cX7 (D : Dl) (a : Nat) : Dl := fa (fa (fa (fa (fa (fa (fa (fa (fa (fa (fa (fa (fa (fa (fa (fa D a 9 900 1) a 9 8 12) a 9 202 15) a 9 202 16) a 9 25 17) a 9 25 18) a 9 25 19) a 9 400 20) a 9 75 21) a 9 5 24) a 9 25 25) a 9 5 27) a 9 5 28) a 9 20 33) a 9 6 34) a 9 4 35
section CSPEC
variable {l : Launch} {X : Nat × (Nat → Int32)} {d : Nat} {kr : KR}
set_option maxRecDepth 20000 in
theorem sX0_init {D : Dl} {s a : Nat} (hs : slf D a 0 8) (hn : D.length + 0 ≤ 4000) (h : kr none (mkD (cX0 D a) (s) I00)) : Ev l X uX0_init (d + 1) false 0 0 [.ref a] (mkD D s I00) kr := by
  have ha := hs.2.1
  refine Ev.of (by decide) (Nat.le_of_ble_eq_true rfl) ?_
  show Wf l X uX0_init (d + 1) false (D.length + 0, s + 0) 0 [(0, .ref a)] [] (mkD D s I00) kr
  refine ch_oi (tkX0_init (0, oAl 0 1 0) (List.mem_of_getElem? (i := 0) rfl)) (tkX0_init (1, oOi 1) (List.mem_of_getElem? (i := 1) rfl)) rfl rfl hs rfl ?_
  refine OK.go (tkX0_init (4, oVr) (List.mem_of_getElem? (i := 2) rfl)) ?_
  exact h
set_option maxRecDepth 20000 in
theorem sX2_init {D : Dl} {s a : Nat} (hs : slf D a 2 6) (hn : D.length + 4 ≤ 4000) (h : kr none (mkD (cX2 D a) (s + 6 + 6 + 6 + 5) I00)) : Ev l X uX2_init (d + 1) false 4 23 [.ref a] (mkD D s I00) kr := by
  have ha := hs.2.1
  refine Ev.of (by decide) (Nat.le_of_ble_eq_true rfl) ?_
  show Wf l X uX2_init (d + 1) false (D.length + 4, s + 23) 0 [(0, .ref a)] [] (mkD D s I00) kr
  refine ch_oi (tkX2_init (0, oAl 0 1 0) (List.mem_of_getElem? (i := 0) rfl)) (tkX2_init (1, oOi 1) (List.mem_of_getElem? (i := 1) rfl)) rfl rfl hs rfl ?_
  refine ch_arr (tkX2_init (4, oAl 4 1 0) (List.mem_of_getElem? (i := 2) rfl)) (tkX2_init (5, oIc 5 2 6) (List.mem_of_getElem? (i := 3) rfl)) (tkX2_init (7, oNa (D.length + 4, s + 23) 7 9 6 6) (List.mem_of_getElem? (i := 4) rfl)) (tkX2_init (9, oPR 9 2 0) (List.mem_of_getElem? (i := 5) rfl)) rfl rfl rfl rfl (fun _ => rfl) (hs) (by decide) rfl (als (by first | omega | (simp only [fa_len]; omega))) (by first | omega | (simp only [fa_len]; omega)) (by first | omega | (simp only [fa_len]; omega)) ?_
  refine ch_arr (tkX2_init (12, oAl 12 1 0) (List.mem_of_getElem? (i := 6) rfl)) (tkX2_init (13, oIc 13 2 6) (List.mem_of_getElem? (i := 7) rfl)) (tkX2_init (15, oNa (D.length + 4, s + 23) 15 9 6 6) (List.mem_of_getElem? (i := 8) rfl)) (tkX2_init (17, oPR 17 2 1) (List.mem_of_getElem? (i := 9) rfl)) rfl rfl rfl rfl (fun _ => rfl) (slf_fa (hs)) (by decide) rfl (als (by first | omega | (simp only [fa_len]; omega))) (by first | omega | (simp only [fa_len]; omega)) (by first | omega | (simp only [fa_len]; omega)) ?_
  refine ch_arr (tkX2_init (20, oAl 20 1 0) (List.mem_of_getElem? (i := 10) rfl)) (tkX2_init (21, oIc 21 2 6) (List.mem_of_getElem? (i := 11) rfl)) (tkX2_init (23, oNa (D.length + 4, s + 23) 23 9 6 6) (List.mem_of_getElem? (i := 12) rfl)) (tkX2_init (25, oPR 25 2 2) (List.mem_of_getElem? (i := 13) rfl)) rfl rfl rfl rfl (fun _ => rfl) (slf_fa (slf_fa (hs))) (by decide) rfl (als (by first | omega | (simp only [fa_len]; omega))) (by first | omega | (simp only [fa_len]; omega)) (by first | omega | (simp only [fa_len]; omega)) ?_
  refine ch_arr (tkX2_init (28, oAl 28 1 0) (List.mem_of_getElem? (i := 14) rfl)) (tkX2_init (29, oIc 29 1 5) (List.mem_of_getElem? (i := 15) rfl)) (tkX2_init (30, oNa (D.length + 4, s + 23) 30 9 5 5) (List.mem_of_getElem? (i := 16) rfl)) (tkX2_init (32, oPR 32 2 3) (List.mem_of_getElem? (i := 17) rfl)) rfl rfl rfl rfl (fun _ => rfl) (slf_fa (slf_fa (slf_fa (hs)))) (by decide) rfl (als (by first | omega | (simp only [fa_len]; omega))) (by first | omega | (simp only [fa_len]; omega)) (by first | omega | (simp only [fa_len]; omega)) ?_
  refine OK.go (tkX2_init (35, oVr) (List.mem_of_getElem? (i := 18) rfl)) ?_
  exact h
set_option maxRecDepth 20000 in
theorem sX3_init {D : Dl} {s a : Nat} (hs : slf D a 3 20) (hn : D.length + 12 ≤ 4000) (h : kr none (mkD (cX3 D a) (s + 6 + 6 + 6 + 6 + 6 + 5 + 5 + 5 + 4 + 4 + 4 + 4) I00)) : Ev l X uX3_init (d + 1) false 12 61 [.ref a] (mkD D s I00) kr := by
  have ha := hs.2.1
  refine Ev.of (by decide) (Nat.le_of_ble_eq_true rfl) ?_
  show Wf l X uX3_init (d + 1) false (D.length + 12, s + 61) 0 [(0, .ref a)] [] (mkD D s I00) kr
  refine ch_oi (tkX3_init (0, oAl 0 1 0) (List.mem_of_getElem? (i := 0) rfl)) (tkX3_init (1, oOi 1) (List.mem_of_getElem? (i := 1) rfl)) rfl rfl hs rfl ?_
  refine ch_arr (tkX3_init (4, oAl 4 1 0) (List.mem_of_getElem? (i := 2) rfl)) (tkX3_init (5, oIc 5 2 6) (List.mem_of_getElem? (i := 3) rfl)) (tkX3_init (7, oNa (D.length + 12, s + 61) 7 9 6 6) (List.mem_of_getElem? (i := 4) rfl)) (tkX3_init (9, oPR 9 3 5) (List.mem_of_getElem? (i := 5) rfl)) rfl rfl rfl rfl (fun _ => rfl) (hs) (by decide) rfl (als (by first | omega | (simp only [fa_len]; omega))) (by first | omega | (simp only [fa_len]; omega)) (by first | omega | (simp only [fa_len]; omega)) ?_
  refine ch_arr (tkX3_init (12, oAl 12 1 0) (List.mem_of_getElem? (i := 6) rfl)) (tkX3_init (13, oIc 13 2 6) (List.mem_of_getElem? (i := 7) rfl)) (tkX3_init (15, oNa (D.length + 12, s + 61) 15 9 6 6) (List.mem_of_getElem? (i := 8) rfl)) (tkX3_init (17, oPR 17 3 6) (List.mem_of_getElem? (i := 9) rfl)) rfl rfl rfl rfl (fun _ => rfl) (slf_fa (hs)) (by decide) rfl (als (by first | omega | (simp only [fa_len]; omega))) (by first | omega | (simp only [fa_len]; omega)) (by first | omega | (simp only [fa_len]; omega)) ?_
  refine ch_arr (tkX3_init (20, oAl 20 1 0) (List.mem_of_getElem? (i := 10) rfl)) (tkX3_init (21, oIc 21 2 6) (List.mem_of_getElem? (i := 11) rfl)) (tkX3_init (23, oNa (D.length + 12, s + 61) 23 9 6 6) (List.mem_of_getElem? (i := 12) rfl)) (tkX3_init (25, oPR 25 3 7) (List.mem_of_getElem? (i := 13) rfl)) rfl rfl rfl rfl (fun _ => rfl) (slf_fa (slf_fa (hs))) (by decide) rfl (als (by first | omega | (simp only [fa_len]; omega))) (by first | omega | (simp only [fa_len]; omega)) (by first | omega | (simp only [fa_len]; omega)) ?_
  refine ch_arr (tkX3_init (28, oAl 28 1 0) (List.mem_of_getElem? (i := 14) rfl)) (tkX3_init (29, oIc 29 2 6) (List.mem_of_getElem? (i := 15) rfl)) (tkX3_init (31, oNa (D.length + 12, s + 61) 31 9 6 6) (List.mem_of_getElem? (i := 16) rfl)) (tkX3_init (33, oPR 33 3 8) (List.mem_of_getElem? (i := 17) rfl)) rfl rfl rfl rfl (fun _ => rfl) (slf_fa (slf_fa (slf_fa (hs)))) (by decide) rfl (als (by first | omega | (simp only [fa_len]; omega))) (by first | omega | (simp only [fa_len]; omega)) (by first | omega | (simp only [fa_len]; omega)) ?_
  refine ch_arr (tkX3_init (36, oAl 36 1 0) (List.mem_of_getElem? (i := 18) rfl)) (tkX3_init (37, oIc 37 2 6) (List.mem_of_getElem? (i := 19) rfl)) (tkX3_init (39, oNa (D.length + 12, s + 61) 39 9 6 6) (List.mem_of_getElem? (i := 20) rfl)) (tkX3_init (41, oPR 41 3 9) (List.mem_of_getElem? (i := 21) rfl)) rfl rfl rfl rfl (fun _ => rfl) (slf_fa (slf_fa (slf_fa (slf_fa (hs))))) (by decide) rfl (als (by first | omega | (simp only [fa_len]; omega))) (by first | omega | (simp only [fa_len]; omega)) (by first | omega | (simp only [fa_len]; omega)) ?_
  refine ch_arr (tkX3_init (44, oAl 44 1 0) (List.mem_of_getElem? (i := 22) rfl)) (tkX3_init (45, oIc 45 1 5) (List.mem_of_getElem? (i := 23) rfl)) (tkX3_init (46, oNa (D.length + 12, s + 61) 46 9 5 5) (List.mem_of_getElem? (i := 24) rfl)) (tkX3_init (48, oPR 48 3 11) (List.mem_of_getElem? (i := 25) rfl)) rfl rfl rfl rfl (fun _ => rfl) (slf_fa (slf_fa (slf_fa (slf_fa (slf_fa (hs)))))) (by decide) rfl (als (by first | omega | (simp only [fa_len]; omega))) (by first | omega | (simp only [fa_len]; omega)) (by first | omega | (simp only [fa_len]; omega)) ?_
  refine ch_arr (tkX3_init (51, oAl 51 1 0) (List.mem_of_getElem? (i := 26) rfl)) (tkX3_init (52, oIc 52 1 5) (List.mem_of_getElem? (i := 27) rfl)) (tkX3_init (53, oNa (D.length + 12, s + 61) 53 9 5 5) (List.mem_of_getElem? (i := 28) rfl)) (tkX3_init (55, oPR 55 3 12) (List.mem_of_getElem? (i := 29) rfl)) rfl rfl rfl rfl (fun _ => rfl) (slf_fa (slf_fa (slf_fa (slf_fa (slf_fa (slf_fa (hs))))))) (by decide) rfl (als (by first | omega | (simp only [fa_len]; omega))) (by first | omega | (simp only [fa_len]; omega)) (by first | omega | (simp only [fa_len]; omega)) ?_
  refine ch_arr (tkX3_init (58, oAl 58 1 0) (List.mem_of_getElem? (i := 30) rfl)) (tkX3_init (59, oIc 59 1 5) (List.mem_of_getElem? (i := 31) rfl)) (tkX3_init (60, oNa (D.length + 12, s + 61) 60 9 5 5) (List.mem_of_getElem? (i := 32) rfl)) (tkX3_init (62, oPR 62 3 13) (List.mem_of_getElem? (i := 33) rfl)) rfl rfl rfl rfl (fun _ => rfl) (slf_fa (slf_fa (slf_fa (slf_fa (slf_fa (slf_fa (slf_fa (hs)))))))) (by decide) rfl (als (by first | omega | (simp only [fa_len]; omega))) (by first | omega | (simp only [fa_len]; omega)) (by first | omega | (simp only [fa_len]; omega)) ?_
  refine ch_arr (tkX3_init (65, oAl 65 1 0) (List.mem_of_getElem? (i := 34) rfl)) (tkX3_init (66, oIc 66 1 4) (List.mem_of_getElem? (i := 35) rfl)) (tkX3_init (67, oNa (D.length + 12, s + 61) 67 9 4 4) (List.mem_of_getElem? (i := 36) rfl)) (tkX3_init (69, oPR 69 3 15) (List.mem_of_getElem? (i := 37) rfl)) rfl rfl rfl rfl (fun _ => rfl) (slf_fa (slf_fa (slf_fa (slf_fa (slf_fa (slf_fa (slf_fa (slf_fa (hs))))))))) (by decide) rfl (als (by first | omega | (simp only [fa_len]; omega))) (by first | omega | (simp only [fa_len]; omega)) (by first | omega | (simp only [fa_len]; omega)) ?_
  refine ch_arr (tkX3_init (72, oAl 72 1 0) (List.mem_of_getElem? (i := 38) rfl)) (tkX3_init (73, oIc 73 1 4) (List.mem_of_getElem? (i := 39) rfl)) (tkX3_init (74, oNa (D.length + 12, s + 61) 74 9 4 4) (List.mem_of_getElem? (i := 40) rfl)) (tkX3_init (76, oPR 76 3 16) (List.mem_of_getElem? (i := 41) rfl)) rfl rfl rfl rfl (fun _ => rfl) (slf_fa (slf_fa (slf_fa (slf_fa (slf_fa (slf_fa (slf_fa (slf_fa (slf_fa (hs)))))))))) (by decide) rfl (als (by first | omega | (simp only [fa_len]; omega))) (by first | omega | (simp only [fa_len]; omega)) (by first | omega | (simp only [fa_len]; omega)) ?_
  refine ch_arr (tkX3_init (79, oAl 79 1 0) (List.mem_of_getElem? (i := 42) rfl)) (tkX3_init (80, oIc 80 1 4) (List.mem_of_getElem? (i := 43) rfl)) (tkX3_init (81, oNa (D.length + 12, s + 61) 81 9 4 4) (List.mem_of_getElem? (i := 44) rfl)) (tkX3_init (83, oPR 83 3 18) (List.mem_of_getElem? (i := 45) rfl)) rfl rfl rfl rfl (fun _ => rfl) (slf_fa (slf_fa (slf_fa (slf_fa (slf_fa (slf_fa (slf_fa (slf_fa (slf_fa (slf_fa (hs))))))))))) (by decide) rfl (als (by first | omega | (simp only [fa_len]; omega))) (by first | omega | (simp only [fa_len]; omega)) (by first | omega | (simp only [fa_len]; omega)) ?_
  refine ch_arr (tkX3_init (86, oAl 86 1 0) (List.mem_of_getElem? (i := 46) rfl)) (tkX3_init (87, oIc 87 1 4) (List.mem_of_getElem? (i := 47) rfl)) (tkX3_init (88, oNa (D.length + 12, s + 61) 88 9 4 4) (List.mem_of_getElem? (i := 48) rfl)) (tkX3_init (90, oPR 90 3 19) (List.mem_of_getElem? (i := 49) rfl)) rfl rfl rfl rfl (fun _ => rfl) (slf_fa (slf_fa (slf_fa (slf_fa (slf_fa (slf_fa (slf_fa (slf_fa (slf_fa (slf_fa (slf_fa (hs)))))))))))) (by decide) rfl (als (by first | omega | (simp only [fa_len]; omega))) (by first | omega | (simp only [fa_len]; omega)) (by first | omega | (simp only [fa_len]; omega)) ?_
  refine OK.go (tkX3_init (93, oVr) (List.mem_of_getElem? (i := 50) rfl)) ?_
  exact h
set_option maxRecDepth 20000 in
theorem sX4_init {D : Dl} {s a : Nat} (hs : slf D a 4 15) (hn : D.length + 4 ≤ 4000) (h : kr none (mkD (cX4 D a) (s + 900 + 15 + 15 + 15) I00)) : Ev l X uX4_init (d + 1) false 4 945 [.ref a] (mkD D s I00) kr := by
  have ha := hs.2.1
  refine Ev.of (by decide) (Nat.le_of_ble_eq_true rfl) ?_
  show Wf l X uX4_init (d + 1) false (D.length + 4, s + 945) 0 [(0, .ref a)] [] (mkD D s I00) kr
  refine ch_oi (tkX4_init (0, oAl 0 1 0) (List.mem_of_getElem? (i := 0) rfl)) (tkX4_init (1, oOi 1) (List.mem_of_getElem? (i := 1) rfl)) rfl rfl hs rfl ?_
  refine ch_arr (tkX4_init (4, oAl 4 1 0) (List.mem_of_getElem? (i := 2) rfl)) (tkX4_init (5, oIc 5 3 900) (List.mem_of_getElem? (i := 3) rfl)) (tkX4_init (8, oNa (D.length + 4, s + 945) 8 8 900 900) (List.mem_of_getElem? (i := 4) rfl)) (tkX4_init (10, oPR 10 4 0) (List.mem_of_getElem? (i := 5) rfl)) rfl rfl rfl rfl (fun _ => rfl) (hs) (by decide) rfl (als (by first | omega | (simp only [fa_len]; omega))) (by first | omega | (simp only [fa_len]; omega)) (by first | omega | (simp only [fa_len]; omega)) ?_
  refine ch_arr (tkX4_init (13, oAl 13 1 0) (List.mem_of_getElem? (i := 6) rfl)) (tkX4_init (14, oIc 14 2 15) (List.mem_of_getElem? (i := 7) rfl)) (tkX4_init (16, oNa (D.length + 4, s + 945) 16 10 15 15) (List.mem_of_getElem? (i := 8) rfl)) (tkX4_init (18, oPR 18 4 9) (List.mem_of_getElem? (i := 9) rfl)) rfl rfl rfl rfl (fun _ => rfl) (slf_fa (hs)) (by decide) rfl (als (by first | omega | (simp only [fa_len]; omega))) (by first | omega | (simp only [fa_len]; omega)) (by first | omega | (simp only [fa_len]; omega)) ?_
  refine ch_arr (tkX4_init (21, oAl 21 1 0) (List.mem_of_getElem? (i := 10) rfl)) (tkX4_init (22, oIc 22 2 15) (List.mem_of_getElem? (i := 11) rfl)) (tkX4_init (24, oNa (D.length + 4, s + 945) 24 9 15 15) (List.mem_of_getElem? (i := 12) rfl)) (tkX4_init (26, oPR 26 4 10) (List.mem_of_getElem? (i := 13) rfl)) rfl rfl rfl rfl (fun _ => rfl) (slf_fa (slf_fa (hs))) (by decide) rfl (als (by first | omega | (simp only [fa_len]; omega))) (by first | omega | (simp only [fa_len]; omega)) (by first | omega | (simp only [fa_len]; omega)) ?_
  refine ch_arr (tkX4_init (29, oAl 29 1 0) (List.mem_of_getElem? (i := 14) rfl)) (tkX4_init (30, oIc 30 2 15) (List.mem_of_getElem? (i := 15) rfl)) (tkX4_init (32, oNa (D.length + 4, s + 945) 32 9 15 15) (List.mem_of_getElem? (i := 16) rfl)) (tkX4_init (34, oPR 34 4 11) (List.mem_of_getElem? (i := 17) rfl)) rfl rfl rfl rfl (fun _ => rfl) (slf_fa (slf_fa (slf_fa (hs)))) (by decide) rfl (als (by first | omega | (simp only [fa_len]; omega))) (by first | omega | (simp only [fa_len]; omega)) (by first | omega | (simp only [fa_len]; omega)) ?_
  refine OK.go (tkX4_init (37, oVr) (List.mem_of_getElem? (i := 18) rfl)) ?_
  exact h
set_option maxRecDepth 20000 in
theorem sX5_init {D : Dl} {s a : Nat} (hs : slf D a 5 2) (hn : D.length + 1 ≤ 4000) (h : kr none (mkD (cX5 D a) (s + 20) I00)) : Ev l X uX5_init (d + 1) false 1 20 [.ref a] (mkD D s I00) kr := by
  have ha := hs.2.1
  refine Ev.of (by decide) (Nat.le_of_ble_eq_true rfl) ?_
  show Wf l X uX5_init (d + 1) false (D.length + 1, s + 20) 0 [(0, .ref a)] [] (mkD D s I00) kr
  refine ch_oi (tkX5_init (0, oAl 0 1 0) (List.mem_of_getElem? (i := 0) rfl)) (tkX5_init (1, oOi 1) (List.mem_of_getElem? (i := 1) rfl)) rfl rfl hs rfl ?_
  refine ch_arr (tkX5_init (4, oAl 4 1 0) (List.mem_of_getElem? (i := 2) rfl)) (tkX5_init (5, oIc 5 2 20) (List.mem_of_getElem? (i := 3) rfl)) (tkX5_init (7, oNa (D.length + 1, s + 20) 7 9 20 20) (List.mem_of_getElem? (i := 4) rfl)) (tkX5_init (9, oPR 9 5 0) (List.mem_of_getElem? (i := 5) rfl)) rfl rfl rfl rfl (fun _ => rfl) (hs) (by decide) rfl (als (by first | omega | (simp only [fa_len]; omega))) (by first | omega | (simp only [fa_len]; omega)) (by first | omega | (simp only [fa_len]; omega)) ?_
  refine OK.go (tkX5_init (12, oVr) (List.mem_of_getElem? (i := 6) rfl)) ?_
  exact h
set_option maxRecDepth 20000 in
theorem sX7_init {D : Dl} {s a : Nat} (hs : slf D a 7 44) (hn : D.length + 16 ≤ 4000) (h : kr none (mkD (cX7 D a) (s + 900 + 8 + 202 + 202 + 25 + 25 + 25 + 400 + 75 + 5 + 25 + 5 + 5 + 20 + 6 + 4) (u2 I00 a 10 (-1)))) : Ev l X uX7_init (d + 1) false 16 1932 [.ref a] (mkD D s I00) kr := by
  have ha := hs.2.1
  refine Ev.of (by decide) (Nat.le_of_ble_eq_true rfl) ?_
  show Wf l X uX7_init (d + 1) false (D.length + 16, s + 1932) 0 [(0, .ref a)] [] (mkD D s I00) kr
  refine ch_oi (tkX7_init (0, oAl 0 1 0) (List.mem_of_getElem? (i := 0) rfl)) (tkX7_init (1, oOi 1) (List.mem_of_getElem? (i := 1) rfl)) rfl rfl hs rfl ?_
  refine ch_arr (tkX7_init (4, oAl 4 1 0) (List.mem_of_getElem? (i := 2) rfl)) (tkX7_init (5, oIc 5 3 900) (List.mem_of_getElem? (i := 3) rfl)) (tkX7_init (8, oNa (D.length + 16, s + 1932) 8 9 900 900) (List.mem_of_getElem? (i := 4) rfl)) (tkX7_init (10, oPR 10 7 1) (List.mem_of_getElem? (i := 5) rfl)) rfl rfl rfl rfl (fun _ => rfl) (hs) (by decide) rfl (als (by first | omega | (simp only [fa_len]; omega))) (by first | omega | (simp only [fa_len]; omega)) (by first | omega | (simp only [fa_len]; omega)) ?_
  refine go_a0 (tkX7_init (13, oAl 13 1 0) (List.mem_of_getElem? (i := 6) rfl)) rfl hs.1 ?_
  refine OK.go (tkX7_init (14, oIc 14 1 (-1)) (List.mem_of_getElem? (i := 7) rfl)) ?_
  refine OK.go (tkX7_init (15, oPI 15 7 10) (List.mem_of_getElem? (i := 8) rfl)) ?_
  have hs1 : slf (fa (D) a 9 900 1) a 7 44 := slf_fa (hs)
  show cond (kk (mkD (fa (D) a 9 900 1) (s + 900) I00) a 7) (Wf l X uX7_init (d + 1) false (D.length + 16, s + 1932) 18 [(0, .ref a)] [] (mkD (fa (D) a 9 900 1) (s + 900) (u2 I00 a 10 (-1))) kr) False
  rw [kk_D ⟨hs1.1, hs1.2.1, hs1.2.2.1⟩]
  have hI : ∀ m, a ≤ m → ∀ j, u2 I00 a 10 (-1) (m + 1) j = 0 := fun m hm j => (u2_o (by omega)).trans rfl
  show Wf l X uX7_init (d + 1) false (D.length + 16, s + 1932) 18 [(0, .ref a)] [] (mkD (fa (D) a 9 900 1) (s + 900) (u2 I00 a 10 (-1))) kr
  refine ch_arr (tkX7_init (18, oAl 18 1 0) (List.mem_of_getElem? (i := 9) rfl)) (tkX7_init (19, oIc 19 2 8) (List.mem_of_getElem? (i := 10) rfl)) (tkX7_init (21, oNa (D.length + 16, s + 1932) 21 9 8 8) (List.mem_of_getElem? (i := 11) rfl)) (tkX7_init (23, oPR 23 7 12) (List.mem_of_getElem? (i := 12) rfl)) rfl rfl rfl rfl (hI _ (by first | omega | (simp only [fa_len]; omega))) (slf_fa (hs)) (by decide) rfl (als (by first | omega | (simp only [fa_len]; omega))) (by first | omega | (simp only [fa_len]; omega)) (by first | omega | (simp only [fa_len]; omega)) ?_
  refine ch_arr (tkX7_init (26, oAl 26 1 0) (List.mem_of_getElem? (i := 13) rfl)) (tkX7_init (27, oIc 27 3 202) (List.mem_of_getElem? (i := 14) rfl)) (tkX7_init (30, oNa (D.length + 16, s + 1932) 30 9 202 202) (List.mem_of_getElem? (i := 15) rfl)) (tkX7_init (32, oPR 32 7 15) (List.mem_of_getElem? (i := 16) rfl)) rfl rfl rfl rfl (hI _ (by first | omega | (simp only [fa_len]; omega))) (slf_fa (slf_fa (hs))) (by decide) rfl (als (by first | omega | (simp only [fa_len]; omega))) (by first | omega | (simp only [fa_len]; omega)) (by first | omega | (simp only [fa_len]; omega)) ?_
  refine ch_arr (tkX7_init (35, oAl 35 1 0) (List.mem_of_getElem? (i := 17) rfl)) (tkX7_init (36, oIc 36 3 202) (List.mem_of_getElem? (i := 18) rfl)) (tkX7_init (39, oNa (D.length + 16, s + 1932) 39 9 202 202) (List.mem_of_getElem? (i := 19) rfl)) (tkX7_init (41, oPR 41 7 16) (List.mem_of_getElem? (i := 20) rfl)) rfl rfl rfl rfl (hI _ (by first | omega | (simp only [fa_len]; omega))) (slf_fa (slf_fa (slf_fa (hs)))) (by decide) rfl (als (by first | omega | (simp only [fa_len]; omega))) (by first | omega | (simp only [fa_len]; omega)) (by first | omega | (simp only [fa_len]; omega)) ?_
  refine ch_arr (tkX7_init (44, oAl 44 1 0) (List.mem_of_getElem? (i := 21) rfl)) (tkX7_init (45, oIc 45 2 25) (List.mem_of_getElem? (i := 22) rfl)) (tkX7_init (47, oNa (D.length + 16, s + 1932) 47 9 25 25) (List.mem_of_getElem? (i := 23) rfl)) (tkX7_init (49, oPR 49 7 17) (List.mem_of_getElem? (i := 24) rfl)) rfl rfl rfl rfl (hI _ (by first | omega | (simp only [fa_len]; omega))) (slf_fa (slf_fa (slf_fa (slf_fa (hs))))) (by decide) rfl (als (by first | omega | (simp only [fa_len]; omega))) (by first | omega | (simp only [fa_len]; omega)) (by first | omega | (simp only [fa_len]; omega)) ?_
  refine ch_arr (tkX7_init (52, oAl 52 1 0) (List.mem_of_getElem? (i := 25) rfl)) (tkX7_init (53, oIc 53 2 25) (List.mem_of_getElem? (i := 26) rfl)) (tkX7_init (55, oNa (D.length + 16, s + 1932) 55 9 25 25) (List.mem_of_getElem? (i := 27) rfl)) (tkX7_init (57, oPR 57 7 18) (List.mem_of_getElem? (i := 28) rfl)) rfl rfl rfl rfl (hI _ (by first | omega | (simp only [fa_len]; omega))) (slf_fa (slf_fa (slf_fa (slf_fa (slf_fa (hs)))))) (by decide) rfl (als (by first | omega | (simp only [fa_len]; omega))) (by first | omega | (simp only [fa_len]; omega)) (by first | omega | (simp only [fa_len]; omega)) ?_
  refine ch_arr (tkX7_init (60, oAl 60 1 0) (List.mem_of_getElem? (i := 29) rfl)) (tkX7_init (61, oIc 61 2 25) (List.mem_of_getElem? (i := 30) rfl)) (tkX7_init (63, oNa (D.length + 16, s + 1932) 63 9 25 25) (List.mem_of_getElem? (i := 31) rfl)) (tkX7_init (65, oPR 65 7 19) (List.mem_of_getElem? (i := 32) rfl)) rfl rfl rfl rfl (hI _ (by first | omega | (simp only [fa_len]; omega))) (slf_fa (slf_fa (slf_fa (slf_fa (slf_fa (slf_fa (hs))))))) (by decide) rfl (als (by first | omega | (simp only [fa_len]; omega))) (by first | omega | (simp only [fa_len]; omega)) (by first | omega | (simp only [fa_len]; omega)) ?_
  refine ch_arr (tkX7_init (68, oAl 68 1 0) (List.mem_of_getElem? (i := 33) rfl)) (tkX7_init (69, oIc 69 3 400) (List.mem_of_getElem? (i := 34) rfl)) (tkX7_init (72, oNa (D.length + 16, s + 1932) 72 9 400 400) (List.mem_of_getElem? (i := 35) rfl)) (tkX7_init (74, oPR 74 7 20) (List.mem_of_getElem? (i := 36) rfl)) rfl rfl rfl rfl (hI _ (by first | omega | (simp only [fa_len]; omega))) (slf_fa (slf_fa (slf_fa (slf_fa (slf_fa (slf_fa (slf_fa (hs)))))))) (by decide) rfl (als (by first | omega | (simp only [fa_len]; omega))) (by first | omega | (simp only [fa_len]; omega)) (by first | omega | (simp only [fa_len]; omega)) ?_
  refine ch_arr (tkX7_init (77, oAl 77 1 0) (List.mem_of_getElem? (i := 37) rfl)) (tkX7_init (78, oIc 78 2 75) (List.mem_of_getElem? (i := 38) rfl)) (tkX7_init (80, oNa (D.length + 16, s + 1932) 80 9 75 75) (List.mem_of_getElem? (i := 39) rfl)) (tkX7_init (82, oPR 82 7 21) (List.mem_of_getElem? (i := 40) rfl)) rfl rfl rfl rfl (hI _ (by first | omega | (simp only [fa_len]; omega))) (slf_fa (slf_fa (slf_fa (slf_fa (slf_fa (slf_fa (slf_fa (slf_fa (hs))))))))) (by decide) rfl (als (by first | omega | (simp only [fa_len]; omega))) (by first | omega | (simp only [fa_len]; omega)) (by first | omega | (simp only [fa_len]; omega)) ?_
  refine ch_arr (tkX7_init (85, oAl 85 1 0) (List.mem_of_getElem? (i := 41) rfl)) (tkX7_init (86, oIc 86 1 5) (List.mem_of_getElem? (i := 42) rfl)) (tkX7_init (87, oNa (D.length + 16, s + 1932) 87 9 5 5) (List.mem_of_getElem? (i := 43) rfl)) (tkX7_init (89, oPR 89 7 24) (List.mem_of_getElem? (i := 44) rfl)) rfl rfl rfl rfl (hI _ (by first | omega | (simp only [fa_len]; omega))) (slf_fa (slf_fa (slf_fa (slf_fa (slf_fa (slf_fa (slf_fa (slf_fa (slf_fa (hs)))))))))) (by decide) rfl (als (by first | omega | (simp only [fa_len]; omega))) (by first | omega | (simp only [fa_len]; omega)) (by first | omega | (simp only [fa_len]; omega)) ?_
  refine ch_arr (tkX7_init (92, oAl 92 1 0) (List.mem_of_getElem? (i := 45) rfl)) (tkX7_init (93, oIc 93 2 25) (List.mem_of_getElem? (i := 46) rfl)) (tkX7_init (95, oNa (D.length + 16, s + 1932) 95 9 25 25) (List.mem_of_getElem? (i := 47) rfl)) (tkX7_init (97, oPR 97 7 25) (List.mem_of_getElem? (i := 48) rfl)) rfl rfl rfl rfl (hI _ (by first | omega | (simp only [fa_len]; omega))) (slf_fa (slf_fa (slf_fa (slf_fa (slf_fa (slf_fa (slf_fa (slf_fa (slf_fa (slf_fa (hs))))))))))) (by decide) rfl (als (by first | omega | (simp only [fa_len]; omega))) (by first | omega | (simp only [fa_len]; omega)) (by first | omega | (simp only [fa_len]; omega)) ?_
  refine ch_arr (tkX7_init (100, oAl 100 1 0) (List.mem_of_getElem? (i := 49) rfl)) (tkX7_init (101, oIc 101 1 5) (List.mem_of_getElem? (i := 50) rfl)) (tkX7_init (102, oNa (D.length + 16, s + 1932) 102 9 5 5) (List.mem_of_getElem? (i := 51) rfl)) (tkX7_init (104, oPR 104 7 27) (List.mem_of_getElem? (i := 52) rfl)) rfl rfl rfl rfl (hI _ (by first | omega | (simp only [fa_len]; omega))) (slf_fa (slf_fa (slf_fa (slf_fa (slf_fa (slf_fa (slf_fa (slf_fa (slf_fa (slf_fa (slf_fa (hs)))))))))))) (by decide) rfl (als (by first | omega | (simp only [fa_len]; omega))) (by first | omega | (simp only [fa_len]; omega)) (by first | omega | (simp only [fa_len]; omega)) ?_
  refine ch_arr (tkX7_init (107, oAl 107 1 0) (List.mem_of_getElem? (i := 53) rfl)) (tkX7_init (108, oIc 108 1 5) (List.mem_of_getElem? (i := 54) rfl)) (tkX7_init (109, oNa (D.length + 16, s + 1932) 109 9 5 5) (List.mem_of_getElem? (i := 55) rfl)) (tkX7_init (111, oPR 111 7 28) (List.mem_of_getElem? (i := 56) rfl)) rfl rfl rfl rfl (hI _ (by first | omega | (simp only [fa_len]; omega))) (slf_fa (slf_fa (slf_fa (slf_fa (slf_fa (slf_fa (slf_fa (slf_fa (slf_fa (slf_fa (slf_fa (slf_fa (hs))))))))))))) (by decide) rfl (als (by first | omega | (simp only [fa_len]; omega))) (by first | omega | (simp only [fa_len]; omega)) (by first | omega | (simp only [fa_len]; omega)) ?_
  refine ch_arr (tkX7_init (114, oAl 114 1 0) (List.mem_of_getElem? (i := 57) rfl)) (tkX7_init (115, oIc 115 2 20) (List.mem_of_getElem? (i := 58) rfl)) (tkX7_init (117, oNa (D.length + 16, s + 1932) 117 9 20 20) (List.mem_of_getElem? (i := 59) rfl)) (tkX7_init (119, oPR 119 7 33) (List.mem_of_getElem? (i := 60) rfl)) rfl rfl rfl rfl (hI _ (by first | omega | (simp only [fa_len]; omega))) (slf_fa (slf_fa (slf_fa (slf_fa (slf_fa (slf_fa (slf_fa (slf_fa (slf_fa (slf_fa (slf_fa (slf_fa (slf_fa (hs)))))))))))))) (by decide) rfl (als (by first | omega | (simp only [fa_len]; omega))) (by first | omega | (simp only [fa_len]; omega)) (by first | omega | (simp only [fa_len]; omega)) ?_
  refine ch_arr (tkX7_init (122, oAl 122 1 0) (List.mem_of_getElem? (i := 61) rfl)) (tkX7_init (123, oIc 123 2 6) (List.mem_of_getElem? (i := 62) rfl)) (tkX7_init (125, oNa (D.length + 16, s + 1932) 125 9 6 6) (List.mem_of_getElem? (i := 63) rfl)) (tkX7_init (127, oPR 127 7 34) (List.mem_of_getElem? (i := 64) rfl)) rfl rfl rfl rfl (hI _ (by first | omega | (simp only [fa_len]; omega))) (slf_fa (slf_fa (slf_fa (slf_fa (slf_fa (slf_fa (slf_fa (slf_fa (slf_fa (slf_fa (slf_fa (slf_fa (slf_fa (slf_fa (hs))))))))))))))) (by decide) rfl (als (by first | omega | (simp only [fa_len]; omega))) (by first | omega | (simp only [fa_len]; omega)) (by first | omega | (simp only [fa_len]; omega)) ?_
  refine ch_arr (tkX7_init (130, oAl 130 1 0) (List.mem_of_getElem? (i := 65) rfl)) (tkX7_init (131, oIc 131 1 4) (List.mem_of_getElem? (i := 66) rfl)) (tkX7_init (132, oNa (D.length + 16, s + 1932) 132 9 4 4) (List.mem_of_getElem? (i := 67) rfl)) (tkX7_init (134, oPR 134 7 35) (List.mem_of_getElem? (i := 68) rfl)) rfl rfl rfl rfl (hI _ (by first | omega | (simp only [fa_len]; omega))) (slf_fa (slf_fa (slf_fa (slf_fa (slf_fa (slf_fa (slf_fa (slf_fa (slf_fa (slf_fa (slf_fa (slf_fa (slf_fa (slf_fa (slf_fa (hs)))))))))))))))) (by decide) rfl (als (by first | omega | (simp only [fa_len]; omega))) (by first | omega | (simp only [fa_len]; omega)) (by first | omega | (simp only [fa_len]; omega)) ?_
  refine OK.go (tkX7_init (137, oVr) (List.mem_of_getElem? (i := 69) rfl)) ?_
  exact h
end CSPEC
end
section
/-! the constructor of GargoyleClose -/
noncomputable def sl4 (D : Dl) (a : Nat) (k : Nat × Nat) (n : Nat) : Prop := 0 < a ∧ a ≤ D.length ∧ kd D a = k ∧ rln D a = n
theorem sl4_dA {D : Dl} {a n k m z : Nat} {c : Nat × Nat} (h : sl4 D a c n) : sl4 (dA D k m z) a c n := by
  obtain ⟨h0, h1, h2, h3⟩ := h
  refine ⟨h0, by rw [dA_len]; omega, by rw [kd_dA h1]; exact h2, ?_⟩
  unfold rln at h3 ⊢
  rw [dA_o (by omega)]
  exact h3
theorem sl4_dR {D : Dl} {a n b i v : Nat} {c : Nat × Nat} (h : sl4 D a c n) : sl4 (dR D b i v) a c n := by
  obtain ⟨h0, h1, h2, h3⟩ := h
  refine ⟨h0, by rw [dR_len]; exact h1, by rw [kd_dR]; exact h2, ?_⟩
  unfold rln at h3 ⊢
  by_cases e : a - 1 = b - 1
  · rw [e, dR_s (by omega), List.length_set, ← e]
    exact h3
  · rw [dR_o e]
    exact h3
theorem sl4_fa {D : Dl} {a k m f b n : Nat} {c : Nat × Nat} (h : sl4 D b c n) : sl4 (fa D a k m f) b c n := sl4_dR (sl4_dA h)
theorem rd_dA {D : Dl} {k n m a i : Nat} (h : a ≤ D.length) : rd (dA D k n m) a i = rd D a i := by
  cases a with
  | zero => rfl
  | succ a => show (_ : List Nat).getD i 0 = (_ : List Nat).getD i 0; rw [dA_o h]
theorem rd_dR {D : Dl} {b j v a i : Nat} (h : a ≠ b) (hb : 0 < b) : rd (dR D b j v) a i = rd D a i := by
  cases a with
  | zero => rfl
  | succ a => show (_ : List Nat).getD i 0 = (_ : List Nat).getD i 0; rw [dR_o (by omega)]
theorem rd_fa {D : Dl} {b k m f a i : Nat} (h : a ≠ b) (hb : 0 < b) (ha : a ≤ D.length) : rd (fa D b k m f) a i = rd D a i := by
  unfold fa
  rw [rd_dR h hb, rd_dA ha]
/-- the world that a callee leaves has the caller's names -/
noncomputable def kps (D D2 : Dl) : Prop := (∀ a c n, sl4 D a c n → sl4 D2 a c n)
theorem kps_fa {D D2 : Dl} {a k m f : Nat} (h : kps D D2) : kps D (fa D2 a k m f) := fun a c n z => sl4_fa (h a c n z)
theorem kps_rf {D : Dl} : kps D D := fun _ _ _ z => z
theorem kps_dA {D : Dl} {k m z : Nat} : kps D (dA D k m z) := fun _ _ _ h => sl4_dA h
theorem kps_0 {D : Dl} {a : Nat} : kps D (cX0 D a) := kps_rf
theorem kps_2 {D : Dl} {a : Nat} : kps D (cX2 D a) := kps_fa (kps_fa (kps_fa (kps_fa kps_rf)))
theorem kps_3 {D : Dl} {a : Nat} : kps D (cX3 D a) := kps_fa (kps_fa (kps_fa (kps_fa (kps_fa (kps_fa (kps_fa (kps_fa (kps_fa (kps_fa (kps_fa (kps_fa kps_rf)))))))))))
theorem kps_4 {D : Dl} {a : Nat} : kps D (cX4 D a) := kps_fa (kps_fa (kps_fa (kps_fa kps_rf)))
theorem kps_5 {D : Dl} {a : Nat} : kps D (cX5 D a) := kps_fa kps_rf
theorem len_2 {D : Dl} {a : Nat} : (cX2 D a).length = D.length + 4 := by unfold cX2; simp only [fa_len]
/-! an array of arrays -/
noncomputable def dM (D : Dl) : Dl := D ++ ((12, 6, [D.length + 2, D.length + 3, D.length + 4, D.length + 5, D.length + 6, D.length + 7]) :: List.replicate 6 (9, 5, []))
theorem dM_len {D : Dl} : (dM D).length = D.length + 7 := by simp [dM]
theorem dM_o {D : Dl} {a : Nat} (h : a < D.length) : (dM D).getD a (0, 0, []) = D.getD a (0, 0, []) := by
  unfold dM
  rw [List.getD_eq_getElem?_getD, List.getD_eq_getElem?_getD, List.getElem?_append_left h]
theorem dM_s {D : Dl} {t : Nat} : (dM D).getD (D.length + t) (0, 0, []) = ((12, 6, [D.length + 2, D.length + 3, D.length + 4, D.length + 5, D.length + 6, D.length + 7]) :: List.replicate 6 (9, 5, [])).getD t (0, 0, []) := by
  unfold dM
  rw [List.getD_eq_getElem?_getD, List.getD_eq_getElem?_getD, List.getElem?_append_right (by omega), Nat.add_sub_cancel_left]
theorem kps_dM {D : Dl} : kps D (dM D) := by
  intro a c n h
  obtain ⟨h0, h1, h2, h3⟩ := h
  refine ⟨h0, by rw [dM_len]; omega, ?_, ?_⟩
  · cases a with
    | zero => exact h2
    | succ a => rw [← h2]; show (_, _) = (_, _); rw [dM_o h1]
  · unfold rln at h3 ⊢
    rw [dM_o (by omega)]
    exact h3
theorem wM_D {D : Dl} {s : Nat} : wM (mkD D s I00) = mkD (dM D) (s + 36) I00 := by
  have hi : ∀ b : Nat, (if b = D.length + 1 then (12, 6) else if D.length < b ∧ b ≤ D.length + 7 then (9, 5) else kd D b) = kd (dM D) b := by
    intro b
    cases b with
    | zero => rw [if_neg (by omega), if_neg (by omega)]; rfl
    | succ b =>
      by_cases h : b < D.length
      · rw [if_neg (by omega), if_neg (by omega)]
        show (_, _) = (_, _)
        rw [dM_o h]
      · obtain ⟨t, rfl⟩ : ∃ t, b = D.length + t := ⟨b - D.length, by omega⟩
        show _ = (((dM D).getD (D.length + t) (0, 0, [])).1, ((dM D).getD (D.length + t) (0, 0, [])).2.1)
        rw [dM_s]
        by_cases ht : t < 7
        · rcases (show t = 0 ∨ t = 1 ∨ t = 2 ∨ t = 3 ∨ t = 4 ∨ t = 5 ∨ t = 6 by omega) with rfl | rfl | rfl | rfl | rfl | rfl | rfl
          · rw [if_pos rfl]; rfl
          all_goals rw [if_neg (by omega), if_pos (by omega)]; rfl
        · rw [if_neg (by omega), if_neg (by omega)]
          show ((D.getD (D.length + t) (0, 0, [])).1, (D.getD (D.length + t) (0, 0, [])).2.1) = _
          rw [gd_none (by omega), gd_none (by simp; omega)]
  have hr : ∀ b j : Nat, (if b = D.length + 1 then (if j < 6 then D.length + 2 + j else 0) else if D.length < b ∧ b ≤ D.length + 7 then 0 else rd D b j) = rd (dM D) b j := by
    intro b j
    cases b with
    | zero => rw [if_neg (by omega), if_neg (by omega)]; rfl
    | succ b =>
      by_cases h : b < D.length
      · rw [if_neg (by omega), if_neg (by omega)]
        show (D.getD b (0, 0, [])).2.2.getD j 0 = ((dM D).getD b (0, 0, [])).2.2.getD j 0
        rw [dM_o h]
      · obtain ⟨t, rfl⟩ : ∃ t, b = D.length + t := ⟨b - D.length, by omega⟩
        show _ = ((dM D).getD (D.length + t) (0, 0, [])).2.2.getD j 0
        rw [dM_s]
        by_cases ht : t < 7
        · rcases (show t = 0 ∨ t = 1 ∨ t = 2 ∨ t = 3 ∨ t = 4 ∨ t = 5 ∨ t = 6 by omega) with rfl | rfl | rfl | rfl | rfl | rfl | rfl
          · rw [if_pos rfl]
            by_cases hj : j < 6
            · rw [if_pos hj]
              rcases (show j = 0 ∨ j = 1 ∨ j = 2 ∨ j = 3 ∨ j = 4 ∨ j = 5 by omega) with rfl | rfl | rfl | rfl | rfl | rfl <;> rfl
            · rw [if_neg hj]
              obtain ⟨m, rfl⟩ : ∃ m, j = m + 6 := ⟨j - 6, by omega⟩
              rfl
          all_goals rw [if_neg (by omega), if_pos (by omega)]; rfl
        · rw [if_neg (by omega), if_neg (by omega)]
          show (D.getD (D.length + t) (0, 0, [])).2.2.getD j 0 = _
          rw [gd_none (by omega), gd_none (by simp; omega)]
  show ((D.length + 7, D.length + 7, s + 36, fun a => if a = D.length + 1 then (12, 6) else if D.length < a ∧ a ≤ D.length + 7 then (9, 5) else kd D a), (fun a j => if D.length < a ∧ a ≤ D.length + 7 then (0 : Int32) else 0), (fun a j => if D.length < a ∧ a ≤ D.length + 7 then (0 : Int64) else 0), (fun a j => if a = D.length + 1 then (if j < 6 then D.length + 2 + j else 0) else if D.length < a ∧ a ≤ D.length + 7 then 0 else rd D a j)) = (((dM D).length, (dM D).length, s + 36, kd (dM D)), I00, (fun _ _ => (0 : Int64)), rd (dM D))
  rw [dM_len, show (fun a => if a = D.length + 1 then (12, 6) else if D.length < a ∧ a ≤ D.length + 7 then (9, 5) else kd D a) = kd (dM D) from funext hi, show (fun a j => if a = D.length + 1 then (if j < 6 then D.length + 2 + j else 0) else if D.length < a ∧ a ≤ D.length + 7 then 0 else rd D a j) = rd (dM D) from funext fun b => funext fun j => hr b j]
  simp only [ite_self]
  rfl
section CH2
variable {l : Launch} {X : Nat × (Nat → Int32)} {q : Md} {d : Nat} {b : Nat × Nat} {pc : Nat} {kr : KR} {ls : Ls}
/-- field := int[6][5] -/
theorem ch_mul {D : Dl} {s a c N f p1 p2 p3 p4 p5 w1 w2 : Nat} (h1 : OK l X q d false b pc (oAl pc 1 0)) (h2 : OK l X q d false b p1 (oIc p1 w1 6)) (h3 : OK l X q d false b p2 (oIc p2 w2 5)) (h4 : OK l X q d false b p3 (oN2 b p3)) (h5 : OK l X q d false b p4 (oPR p4 c f)) (e1 : pc + 1 = p1) (e2 : p1 + w1 = p2) (e3 : p2 + w2 = p3) (e4 : p3 + 4 = p4) (e5 : p4 + 3 = p5)
    (hs : slf D a c N) (hf : f < N) (h0 : lg ls 0 = some (.ref a)) (hls : ls.all (fun x => rk D.length x.2) = true) (hn : D.length + 7 ≤ 4000) (hb : D.length + 7 ≤ b.1 ∧ s + 36 ≤ b.2) (kk0 : Wf l X q d false b p5 ls [] (mkD (dR (dM D) a f (D.length + 1)) (s + 36) I00) kr) : Wf l X q d false b pc ls [] (mkD D s I00) kr := by
  subst e1 e2 e3 e4 e5
  refine go_a0 h1 h0 hs.1 ?_
  refine h2.go ?_
  show Wf l X q d false b (pc + 1 + w1) ls (.int 6 :: [.ref a]) (mkD D s I00) kr
  refine h3.go ?_
  show Wf l X q d false b (pc + 1 + w1 + w2) ls (.int 5 :: .int 6 :: [.ref a]) (mkD D s I00) kr
  refine h4.go ?_
  show cond (ro b (mkD D s I00) ls [.ref a] 7 36) (((5 : Int32) = 5 ∧ (6 : Int32) = 6) ∧ Wf l X q d false b (pc + 1 + w1 + w2 + 4) ls (.ref (D.length + 1) :: [.ref a]) (wM (mkD D s I00)) kr) False
  rw [ro_D hn hls (by rw [List.all_cons, rk_le hs.2.1]; rfl) hb.1 hb.2]
  refine ⟨⟨rfl, rfl⟩, ?_⟩
  rw [wM_D]
  refine h5.go ?_
  have hs' : slf (dM D) a c N := kps_dM a (c, 0) N hs
  show cond (kk (mkD (dM D) (s + 36) I00) a c && (Nat.blt 0 (D.length + 1) && Nat.ble (D.length + 1) (dM D).length)) (Wf l X q d false b (pc + 1 + w1 + w2 + 4 + 3) ls [] (wR (mkD (dM D) (s + 36) I00) a f (D.length + 1)) kr) False
  rw [kk_D ⟨hs'.1, hs'.2.1, hs'.2.2.1⟩, blt0 (Nat.succ_pos _), dM_len, Nat.ble_eq_true_of_le (by omega), wR_D hs'.1 hs'.2.1 (by rw [hs'.2.2.2]; exact hf)]
  exact kk0
/-- field := new C() -/
theorem ch_new {D D2 : Dl} {s s2 a c N c' N' mc ms f p1 p2 p3 p4 p5 : Nat} {q' : Md} (h1 : OK l X q (d + 1) false b pc (oAl pc 1 0)) (h2 : OK l X q (d + 1) false b p1 (oNew b p1 c' N')) (h3 : OK l X q (d + 1) false b p2 (oDup p2)) (h4 : OK l X q (d + 1) false b p3 (oCi l X d b p3 q' c' mc ms)) (h5 : OK l X q (d + 1) false b p4 (oPR p4 c f)) (e1 : pc + 1 = p1) (e2 : p1 + 3 = p2) (e3 : p2 + 1 = p3) (e4 : p3 + 3 = p4) (e5 : p4 + 3 = p5)
    (hs : slf D a c N) (hf : f < N) (h0 : lg ls 0 = some (.ref a)) (hls : ls.all (fun x => rk D.length x.2) = true) (hcall : ∀ kr' : KR, kr' none (mkD D2 s2 I00) → Ev l X q' d false mc ms [.ref (D.length + 1)] (mkD (dA D c' 0 N') (s + N') I00) kr') (hkp : kps (dA D c' 0 N') D2) (hl2 : D2.length = D.length + 1 + mc) (hs2 : s2 = s + N' + ms) (hn : D.length + 1 ≤ 4000) (hb : D.length + 1 + mc ≤ b.1 ∧ s + N' + ms ≤ b.2) (k : Wf l X q (d + 1) false b p5 ls [] (mkD (dR D2 a f (D.length + 1)) s2 I00) kr) : Wf l X q (d + 1) false b pc ls [] (mkD D s I00) kr := by
  subst e1 e2 e3 e4 e5
  refine go_a0 h1 h0 hs.1 ?_
  refine h2.go ?_
  show cond (ro b (mkD D s I00) ls [.ref a] 1 N') (Wf l X q (d + 1) false b (pc + 1 + 3) ls (.ref (D.length + 1) :: [.ref a]) (wA (mkD D s I00) (c', 0) N') kr) False
  rw [ro_D hn hls (by rw [List.all_cons, rk_le hs.2.1]; rfl) (by omega) (by omega)]
  show Wf l X q (d + 1) false b (pc + 1 + 3) ls (.ref (D.length + 1) :: [.ref a]) (wA (mkD D s I00) (c', 0) N') kr
  rw [wA_D (z := N') (fun _ => rfl)]
  refine h3.go ?_
  show Wf l X q (d + 1) false b (pc + 1 + 3 + 1) ls (.ref (D.length + 1) :: .ref (D.length + 1) :: [.ref a]) (mkD (dA D c' 0 N') (s + N') I00) kr
  refine h4.go ?_
  have hnew := slf_new (D := D) (c := c') (n := N')
  have hsA := slf_dA (k := c') (m := 0) (z := N') hs
  show cond (ri b (mkD (dA D c' 0 N') (s + N') I00) ls [.ref (D.length + 1), .ref a] (D.length + 1) c' mc ms) (Ev l X q' d false mc ms [.ref (D.length + 1)] (mkD (dA D c' 0 N') (s + N') I00) (fun r M' => (mC M' = (dA D c' 0 N').length + mc ∧ mS M' = s + N' + ms) ∧ Wf l X q (d + 1) false b (pc + 1 + 3 + 1 + 3) ls (r.toList ++ [.ref (D.length + 1), .ref a]) M' kr)) False
  have hri : ri b (mkD (dA D c' 0 N') (s + N') I00) ls [.ref (D.length + 1), .ref a] (D.length + 1) c' mc ms = true := by
    unfold ri
    rw [Bool.and_eq_true_iff, Bool.and_eq_true_iff, Bool.and_eq_true_iff, Bool.and_eq_true_iff, Bool.and_eq_true_iff]
    refine ⟨⟨kk_D ⟨hnew.1, hnew.2.1, hnew.2.2.1⟩, rfl⟩, ?_, ?_, ?_, ?_⟩
    · refine List.all_eq_true.mpr fun x hx => ?_
      have z := List.all_eq_true.mp hls x hx
      revert z
      show rk D.length x.2 = true → rk (dA D c' 0 N').length x.2 = true
      rw [dA_len]
      cases x.2 with
      | ref n =>
        intro z
        have z : (Nat.ble n D.length || Nat.ble 4999 n) = true := z
        show (Nat.ble n (D.length + 1) || Nat.ble 4999 n) = true
        rcases Bool.or_eq_true_iff.mp z with y | y
        · exact Bool.or_eq_true_iff.mpr (Or.inl (Nat.ble_eq_true_of_le (Nat.le_succ_of_le (Nat.le_of_ble_eq_true y))))
        · exact Bool.or_eq_true_iff.mpr (Or.inr y)
      | _ => exact fun _ => rfl
    · show ([.ref (D.length + 1), .ref a] : List Value).all (rk (dA D c' 0 N').length) = true
      rw [dA_len, List.all_cons, List.all_cons, rk_le (Nat.le_refl _), rk_le (by have := hs.2.1; omega)]
      rfl
    · exact Nat.ble_eq_true_of_le (by show (dA D c' 0 N').length + mc ≤ b.1; rw [dA_len]; omega)
    · exact Nat.ble_eq_true_of_le (by show s + N' + ms ≤ b.2; omega)
  rw [hri]
  refine hcall _ ⟨⟨by show D2.length = _; rw [dA_len]; exact hl2, hs2⟩, ?_⟩
  show Wf l X q (d + 1) false b (pc + 1 + 3 + 1 + 3) ls [.ref (D.length + 1), .ref a] (mkD D2 s2 I00) kr
  refine h5.go ?_
  have hs' : slf D2 a c N := hkp a (c, 0) N hsA
  show cond (kk (mkD D2 s2 I00) a c && (Nat.blt 0 (D.length + 1) && Nat.ble (D.length + 1) D2.length)) (Wf l X q (d + 1) false b (pc + 1 + 3 + 1 + 3 + 3) ls [] (wR (mkD D2 s2 I00) a f (D.length + 1)) kr) False
  rw [kk_D ⟨hs'.1, hs'.2.1, hs'.2.2.1⟩, blt0 (Nat.succ_pos _), Nat.ble_eq_true_of_le (by omega), wR_D hs'.1 hs'.2.1 (by rw [hs'.2.2.2]; exact hf)]
  exact k
end CH2
end
section
noncomputable def cX1 (D : Dl) (a : Nat) : Dl := fa (fa (fa (dR (dM D) a 0 (D.length + 1)) a 9 6 1) a 9 5 2) a 9 5 3
theorem kps_dR {D D2 : Dl} {a i v : Nat} (h : kps D D2) : kps D (dR D2 a i v) := fun a c n z => sl4_dR (h a c n z)
theorem kps_tr {D D2 D3 : Dl} (h : kps D D2) (h2 : kps D2 D3) : kps D D3 := fun a c n z => h2 a c n (h a c n z)
theorem kps_1 {D : Dl} {a : Nat} : kps D (cX1 D a) := kps_fa (kps_fa (kps_fa (kps_dR kps_dM)))
/-- a Moment more in the array K, at its place i -/
noncomputable def fm (D : Dl) (K i : Nat) : Dl := dR (cX2 (dA D 2 0 6) (D.length + 1)) K i (D.length + 1)
theorem fm_len {D : Dl} {K i : Nat} : (fm D K i).length = D.length + 5 := by unfold fm; rw [dR_len, len_2, dA_len]
theorem kps_fm {D : Dl} {K i : Nat} : kps D (fm D K i) := kps_dR (kps_tr kps_dA kps_2)
theorem rd_fm {D : Dl} {K i a j : Nat} (h : a ≠ K) (hK : 0 < K) (ha : a ≤ D.length) : rd (fm D K i) a j = rd D a j := by
  unfold fm cX2
  have e : a ≠ D.length + 1 := by omega
  rw [rd_dR h hK, rd_fa e (by omega) (by simp only [fa_len, dA_len]; omega), rd_fa e (by omega) (by simp only [fa_len, dA_len]; omega), rd_fa e (by omega) (by simp only [fa_len, dA_len]; omega), rd_fa e (by omega) (by rw [dA_len]; omega), rd_dA ha]
noncomputable def lpD : Nat → Nat → Dl → Nat → Dl
  | 0, _, D, _ => D
  | n + 1, i, D, K => lpD n (i + 1) (fm D K i) K
section LOOPM
variable {l : Launch} {X : Nat × (Nat → Int32)} {q : Md} {d : Nat} {b : Nat × Nat} {kr : KR}
set_option maxRecDepth 20000 in
theorem lp_mom {a K N E f p0 p1 p2 p3 p4 p5 p6 p7 p8 p9 p10 p11 pe w : Nat} (o0 : OK l X q (d + 2) false b p0 (oIl p0 1 1)) (o1 : OK l X q (d + 2) false b p1 (oIc p1 w (nI E))) (o2 : OK l X q (d + 2) false b p2 (oCm p2 pe (fun x y => y ≤ x) (fun x y => ¬ y ≤ x))) (o3 : OK l X q (d + 2) false b p3 (oAl p3 1 0)) (o4 : OK l X q (d + 2) false b p4 (oG p4 6 f 2)) (o5 : OK l X q (d + 2) false b p5 (oIl p5 1 1)) (o6 : OK l X q (d + 2) false b p6 (oNew b p6 2 6)) (o7 : OK l X q (d + 2) false b p7 (oDup p7)) (o8 : OK l X q (d + 2) false b p8 (oCi l X (d + 1) b p8 uX2_init 2 4 23)) (o9 : OK l X q (d + 2) false b p9 (oAas p9)) (o10 : OK l X q (d + 2) false b p10 (oInc p10 1 1)) (o11 : OK l X q (d + 2) false b p11 (oGo p0))
    (e1 : p0 + 1 = p1) (e2 : p1 + w = p2) (e3 : p2 + 3 = p3) (e4 : p3 + 1 = p4) (e5 : p4 + 3 = p5) (e6 : p5 + 1 = p6) (e7 : p6 + 3 = p7) (e8 : p7 + 1 = p8) (e9 : p8 + 3 = p9) (e10 : p9 + 1 = p10) (e11 : p10 + 3 = p11) (hE : E < 1000) (haK : a ≠ K) :
    ∀ (n i : Nat) (D : Dl) (s : Nat), i + n = E → slf D a 6 N → sl4 D K (11, E) E → rd D a f = K → D.length + 5 * n ≤ 4000 → D.length + 5 * n ≤ b.1 → s + 29 * n ≤ b.2 → Wf l X q (d + 2) false b pe [(0, .ref a), (1, .int (nI E))] [] (mkD (lpD n i D K) (s + 29 * n) I00) kr → Wf l X q (d + 2) false b p0 [(0, .ref a), (1, .int (nI i))] [] (mkD D s I00) kr := by
  subst e1 e2 e3 e4 e5 e6 e7 e8 e9 e10 e11
  intro n
  induction n with
  | zero =>
    intro i D s hi hs hK hr hn hb1 hb2 k
    have hi : i = E := by omega
    subst hi
    refine o0.go ?_
    refine o1.go ?_
    refine o2.go ?_
    exact ⟨fun _ => k, fun z => absurd (nI_le (Nat.le_refl _) (by omega)) z⟩
  | succ n ih =>
    intro i D s hi hs hK hr hn hb1 hb2 k
    have ha := hs.2.1
    have hKl := hK.2.1
    refine o0.go ?_
    refine o1.go ?_
    refine o2.go ?_
    refine ⟨fun z => absurd z (nI_ge (by omega) (by omega)), fun _ => ?_⟩
    refine go_a0 o3 rfl hs.1 ?_
    refine o4.go ?_
    show cond (kk (mkD D s I00) a 6) (Wf l X q (d + 2) false b (p0 + 1 + w + 3 + 1 + 3) [(0, .ref a), (1, .int (nI i))] [.ref (rd D a f)] (mkD D s I00) kr) False
    rw [kk_D ⟨hs.1, hs.2.1, hs.2.2.1⟩, hr]
    refine o5.go ?_
    refine o6.go ?_
    show cond (ro b (mkD D s I00) [(0, .ref a), (1, .int (nI i))] [.int (nI i), .ref K] 1 6) (Wf l X q (d + 2) false b (p0 + 1 + w + 3 + 1 + 3 + 1 + 3) [(0, .ref a), (1, .int (nI i))] (.ref (D.length + 1) :: [.int (nI i), .ref K]) (wA (mkD D s I00) (2, 0) 6) kr) False
    rw [ro_D (by omega) (by rw [List.all_cons, rk_le ha]; rfl) (by rw [List.all_cons, List.all_cons, rk_le hKl]; rfl) (by omega) (by omega)]
    show Wf l X q (d + 2) false b (p0 + 1 + w + 3 + 1 + 3 + 1 + 3) [(0, .ref a), (1, .int (nI i))] (.ref (D.length + 1) :: [.int (nI i), .ref K]) (wA (mkD D s I00) (2, 0) 6) kr
    rw [wA_D (z := 6) (fun _ => rfl)]
    refine o7.go ?_
    show Wf l X q (d + 2) false b (p0 + 1 + w + 3 + 1 + 3 + 1 + 3 + 1) [(0, .ref a), (1, .int (nI i))] (.ref (D.length + 1) :: .ref (D.length + 1) :: [.int (nI i), .ref K]) (mkD (dA D 2 0 6) (s + 6) I00) kr
    refine o8.go ?_
    have hnew := slf_new (D := D) (c := 2) (n := 6)
    show cond (ri b (mkD (dA D 2 0 6) (s + 6) I00) [(0, .ref a), (1, .int (nI i))] [.ref (D.length + 1), .int (nI i), .ref K] (D.length + 1) 2 4 23) (Ev l X uX2_init (d + 1) false 4 23 [.ref (D.length + 1)] (mkD (dA D 2 0 6) (s + 6) I00) (fun r M' => (mC M' = (dA D 2 0 6).length + 4 ∧ mS M' = s + 6 + 23) ∧ Wf l X q (d + 2) false b (p0 + 1 + w + 3 + 1 + 3 + 1 + 3 + 1 + 3) [(0, .ref a), (1, .int (nI i))] (r.toList ++ [.ref (D.length + 1), .int (nI i), .ref K]) M' kr)) False
    have hri : ri b (mkD (dA D 2 0 6) (s + 6) I00) [(0, .ref a), (1, .int (nI i))] [.ref (D.length + 1), .int (nI i), .ref K] (D.length + 1) 2 4 23 = true := by
      unfold ri
      rw [Bool.and_eq_true_iff, Bool.and_eq_true_iff, Bool.and_eq_true_iff, Bool.and_eq_true_iff, Bool.and_eq_true_iff]
      refine ⟨⟨kk_D ⟨hnew.1, hnew.2.1, hnew.2.2.1⟩, rfl⟩, ?_, ?_, ?_, ?_⟩
      · show ([(0, .ref a), (1, .int (nI i))] : Ls).all (fun x => rk (dA D 2 0 6).length x.2) = true
        rw [dA_len, List.all_cons, rk_le (by omega)]; rfl
      · show ([.ref (D.length + 1), .int (nI i), .ref K] : List Value).all (rk (dA D 2 0 6).length) = true
        rw [dA_len, List.all_cons, List.all_cons, List.all_cons, rk_le (Nat.le_refl _), rk_le (show K ≤ D.length + 1 by omega)]; rfl
      · exact Nat.ble_eq_true_of_le (by show (dA D 2 0 6).length + 4 ≤ b.1; rw [dA_len]; omega)
      · exact Nat.ble_eq_true_of_le (by show s + 6 + 23 ≤ b.2; omega)
    rw [hri]
    refine sX2_init hnew (by rw [dA_len]; omega) ⟨⟨by show (cX2 (dA D 2 0 6) (D.length + 1)).length = _; rw [len_2], by show s + 6 + 6 + 6 + 6 + 5 = _; omega⟩, ?_⟩
    show Wf l X q (d + 2) false b (p0 + 1 + w + 3 + 1 + 3 + 1 + 3 + 1 + 3) [(0, .ref a), (1, .int (nI i))] [.ref (D.length + 1), .int (nI i), .ref K] (mkD (cX2 (dA D 2 0 6) (D.length + 1)) (s + 6 + 6 + 6 + 6 + 5) I00) kr
    refine o9.go ?_
    have hm : sl4 (cX2 (dA D 2 0 6) (D.length + 1)) (D.length + 1) (2, 0) 6 := kps_2 _ _ _ hnew
    have hK2 : sl4 (cX2 (dA D 2 0 6) (D.length + 1)) K (11, E) E := kps_2 _ _ _ (kps_dA _ _ _ hK)
    show cond (kk (mkD (cX2 (dA D 2 0 6) (D.length + 1)) (s + 6 + 6 + 6 + 6 + 5) I00) K 11 && kk (mkD (cX2 (dA D 2 0 6) (D.length + 1)) (s + 6 + 6 + 6 + 6 + 5) I00) (D.length + 1) 2) (∃ j : Nat, (nI i = nI j ∧ j < 1000 ∧ j < (kd (cX2 (dA D 2 0 6) (D.length + 1)) K).2) ∧ Wf l X q (d + 2) false b (p0 + 1 + w + 3 + 1 + 3 + 1 + 3 + 1 + 3 + 1) [(0, .ref a), (1, .int (nI i))] [] (wR (mkD (cX2 (dA D 2 0 6) (D.length + 1)) (s + 6 + 6 + 6 + 6 + 5) I00) K j (D.length + 1)) kr) False
    rw [kk_D ⟨hK2.1, hK2.2.1, hK2.2.2.1⟩, kk_D ⟨hm.1, hm.2.1, hm.2.2.1⟩]
    refine ⟨i, ⟨rfl, by omega, by rw [hK2.2.2.1]; show i < E; omega⟩, ?_⟩
    rw [wR_D hK2.1 hK2.2.1 (by rw [hK2.2.2.2]; omega)]
    refine o10.go ?_
    show Wf l X q (d + 2) false b (p0 + 1 + w + 3 + 1 + 3 + 1 + 3 + 1 + 3 + 1 + 3) [(0, .ref a), (1, .int (nI i + 1))] [] (mkD (fm D K i) (s + 6 + 6 + 6 + 6 + 5) I00) kr
    rw [nI_1]
    refine o11.go ?_
    show Wf l X q (d + 2) false b p0 [(0, .ref a), (1, .int (nI (i + 1)))] [] (mkD (fm D K i) (s + 6 + 6 + 6 + 6 + 5) I00) kr
    refine ih (i + 1) (fm D K i) (s + 6 + 6 + 6 + 6 + 5) (by omega) (kps_fm a (6, 0) N hs) (kps_fm K (11, E) E hK) (by rw [rd_fm haK hK.1 ha]; exact hr) (by rw [fm_len]; omega) (by rw [fm_len]; omega) (by omega) ?_
    rw [show s + 6 + 6 + 6 + 6 + 5 + 29 * n = s + 29 * (n + 1) by omega]
    exact k
end LOOPM
section SIX
variable {l : Launch} {X : Nat × (Nat → Int32)} {d : Nat} {kr : KR}
set_option maxRecDepth 20000 in
theorem sX1_init {D : Dl} {s a : Nat} (hs : slf D a 1 9) (hn : D.length + 10 ≤ 4000) (h : kr none (mkD (cX1 D a) (s + 36 + 6 + 5 + 5) I00)) : Ev l X uX1_init (d + 1) false 10 52 [.ref a] (mkD D s I00) kr := by
  have ha := hs.2.1
  refine Ev.of (by decide) (Nat.le_of_ble_eq_true rfl) ?_
  show Wf l X uX1_init (d + 1) false (D.length + 10, s + 52) 0 [(0, .ref a)] [] (mkD D s I00) kr
  refine ch_oi (tkX1_init (0, oAl 0 1 0) (List.mem_of_getElem? (i := 0) rfl)) (tkX1_init (1, oOi 1) (List.mem_of_getElem? (i := 1) rfl)) rfl rfl hs rfl ?_
  refine ch_mul (tkX1_init (4, oAl 4 1 0) (List.mem_of_getElem? (i := 2) rfl)) (tkX1_init (5, oIc 5 2 6) (List.mem_of_getElem? (i := 3) rfl)) (tkX1_init (7, oIc 7 1 5) (List.mem_of_getElem? (i := 4) rfl)) (tkX1_init (8, oN2 (D.length + 10, s + 52) 8) (List.mem_of_getElem? (i := 5) rfl)) (tkX1_init (12, oPR 12 1 0) (List.mem_of_getElem? (i := 6) rfl)) rfl rfl rfl rfl rfl hs (by decide) rfl (als ha) (by omega) ⟨by show D.length + 7 ≤ D.length + 10; omega, by show s + 36 ≤ s + 52; omega⟩ ?_
  have hs1 : slf (dR (dM D) a 0 (D.length + 1)) a 1 9 := kps_dR kps_dM a (1, 0) 9 hs
  have e1 : (dR (dM D) a 0 (D.length + 1)).length = D.length + 7 := by rw [dR_len, dM_len]
  refine ch_arr (tkX1_init (15, oAl 15 1 0) (List.mem_of_getElem? (i := 7) rfl)) (tkX1_init (16, oIc 16 2 6) (List.mem_of_getElem? (i := 8) rfl)) (tkX1_init (18, oNa (D.length + 10, s + 52) 18 9 6 6) (List.mem_of_getElem? (i := 9) rfl)) (tkX1_init (20, oPR 20 1 1) (List.mem_of_getElem? (i := 10) rfl)) rfl rfl rfl rfl (fun _ => rfl) (hs1) (by decide) rfl (als (by simp only [fa_len, e1]; omega)) (by simp only [fa_len, e1]; omega) (by simp only [fa_len, e1]; omega) ?_
  refine ch_arr (tkX1_init (23, oAl 23 1 0) (List.mem_of_getElem? (i := 11) rfl)) (tkX1_init (24, oIc 24 1 5) (List.mem_of_getElem? (i := 12) rfl)) (tkX1_init (25, oNa (D.length + 10, s + 52) 25 9 5 5) (List.mem_of_getElem? (i := 13) rfl)) (tkX1_init (27, oPR 27 1 2) (List.mem_of_getElem? (i := 14) rfl)) rfl rfl rfl rfl (fun _ => rfl) (slf_fa (hs1)) (by decide) rfl (als (by simp only [fa_len, e1]; omega)) (by simp only [fa_len, e1]; omega) (by simp only [fa_len, e1]; omega) ?_
  refine ch_arr (tkX1_init (30, oAl 30 1 0) (List.mem_of_getElem? (i := 15) rfl)) (tkX1_init (31, oIc 31 1 5) (List.mem_of_getElem? (i := 16) rfl)) (tkX1_init (32, oNa (D.length + 10, s + 52) 32 9 5 5) (List.mem_of_getElem? (i := 17) rfl)) (tkX1_init (34, oPR 34 1 3) (List.mem_of_getElem? (i := 18) rfl)) rfl rfl rfl rfl (fun _ => rfl) (slf_fa (slf_fa (hs1))) (by decide) rfl (als (by simp only [fa_len, e1]; omega)) (by simp only [fa_len, e1]; omega) (by simp only [fa_len, e1]; omega) ?_
  refine OK.go (tkX1_init (37, oVr) (List.mem_of_getElem? (i := 19) rfl)) ?_
  exact h
end SIX
end
section
noncomputable def E0 : Dl := [(6, 0, [0, 0, 0, 0, 0, 0, 0, 0, 0, 0, 0, 0, 0, 0])]
theorem E0_eq : dA [] 6 0 14 = E0 := by decide +kernel
noncomputable def E1 : Dl := [(6, 0, [2, 0, 0, 0, 0, 0, 0, 0, 0, 0, 0, 0, 0, 0]), (4, 0, [3, 0, 0, 0, 0, 0, 0, 0, 0, 4, 5, 6, 0, 0, 0]), (8, 900, []), (10, 15, []), (9, 15, []), (9, 15, [])]
theorem E1_eq : dR (cX4 (dA E0 4 0 15) (E0.length + 1)) 1 0 (E0.length + 1) = E1 := by decide +kernel
noncomputable def E2 : Dl := [(6, 0, [2, 7, 0, 0, 0, 0, 0, 0, 0, 0, 0, 0, 0, 0]), (4, 0, [3, 0, 0, 0, 0, 0, 0, 0, 0, 4, 5, 6, 0, 0, 0]), (8, 900, []), (10, 15, []), (9, 15, []), (9, 15, []), (3, 0, [0, 0, 0, 0, 0, 8, 9, 10, 11, 12, 0, 13, 14, 15, 0, 16, 17, 0, 18, 19]), (9, 6, []), (9, 6, []), (9, 6, []), (9, 6, []), (9, 6, []), (9, 5, []), (9, 5, []), (9, 5, []), (9, 4, []), (9, 4, []), (9, 4, []), (9, 4, [])]
theorem E2_eq : dR (cX3 (dA E1 3 0 20) (E1.length + 1)) 1 1 (E1.length + 1) = E2 := by decide +kernel
noncomputable def E3 : Dl := [(6, 0, [2, 7, 20, 0, 0, 0, 0, 0, 0, 0, 0, 0, 0, 0]), (4, 0, [3, 0, 0, 0, 0, 0, 0, 0, 0, 4, 5, 6, 0, 0, 0]), (8, 900, []), (10, 15, []), (9, 15, []), (9, 15, []), (3, 0, [0, 0, 0, 0, 0, 8, 9, 10, 11, 12, 0, 13, 14, 15, 0, 16, 17, 0, 18, 19]), (9, 6, []), (9, 6, []), (9, 6, []), (9, 6, []), (9, 6, []), (9, 5, []), (9, 5, []), (9, 5, []), (9, 4, []), (9, 4, []), (9, 4, []), (9, 4, []), (3, 0, [0, 0, 0, 0, 0, 21, 22, 23, 24, 25, 0, 26, 27, 28, 0, 29, 30, 0, 31, 32]), (9, 6, []), (9, 6, []), (9, 6, []), (9, 6, []), (9, 6, []), (9, 5, []), (9, 5, []), (9, 5, []), (9, 4, []), (9, 4, []), (9, 4, []), (9, 4, [])]
theorem E3_eq : dR (cX3 (dA E2 3 0 20) (E2.length + 1)) 1 2 (E2.length + 1) = E3 := by decide +kernel
noncomputable def E4 : Dl := [(6, 0, [2, 7, 20, 33, 0, 0, 0, 0, 0, 0, 0, 0, 0, 0]), (4, 0, [3, 0, 0, 0, 0, 0, 0, 0, 0, 4, 5, 6, 0, 0, 0]), (8, 900, []), (10, 15, []), (9, 15, []), (9, 15, []), (3, 0, [0, 0, 0, 0, 0, 8, 9, 10, 11, 12, 0, 13, 14, 15, 0, 16, 17, 0, 18, 19]), (9, 6, []), (9, 6, []), (9, 6, []), (9, 6, []), (9, 6, []), (9, 5, []), (9, 5, []), (9, 5, []), (9, 4, []), (9, 4, []), (9, 4, []), (9, 4, []), (3, 0, [0, 0, 0, 0, 0, 21, 22, 23, 24, 25, 0, 26, 27, 28, 0, 29, 30, 0, 31, 32]), (9, 6, []), (9, 6, []), (9, 6, []), (9, 6, []), (9, 6, []), (9, 5, []), (9, 5, []), (9, 5, []), (9, 4, []), (9, 4, []), (9, 4, []), (9, 4, []), (2, 0, [34, 35, 36, 37, 0, 0]), (9, 6, []), (9, 6, []), (9, 6, []), (9, 5, [])]
theorem E4_eq : dR (cX2 (dA E3 2 0 6) (E3.length + 1)) 1 3 (E3.length + 1) = E4 := by decide +kernel
noncomputable def E5 : Dl := [(6, 0, [2, 7, 20, 33, 38, 0, 0, 0, 0, 0, 0, 0, 0, 0]), (4, 0, [3, 0, 0, 0, 0, 0, 0, 0, 0, 4, 5, 6, 0, 0, 0]), (8, 900, []), (10, 15, []), (9, 15, []), (9, 15, []), (3, 0, [0, 0, 0, 0, 0, 8, 9, 10, 11, 12, 0, 13, 14, 15, 0, 16, 17, 0, 18, 19]), (9, 6, []), (9, 6, []), (9, 6, []), (9, 6, []), (9, 6, []), (9, 5, []), (9, 5, []), (9, 5, []), (9, 4, []), (9, 4, []), (9, 4, []), (9, 4, []), (3, 0, [0, 0, 0, 0, 0, 21, 22, 23, 24, 25, 0, 26, 27, 28, 0, 29, 30, 0, 31, 32]), (9, 6, []), (9, 6, []), (9, 6, []), (9, 6, []), (9, 6, []), (9, 5, []), (9, 5, []), (9, 5, []), (9, 4, []), (9, 4, []), (9, 4, []), (9, 4, []), (2, 0, [34, 35, 36, 37, 0, 0]), (9, 6, []), (9, 6, []), (9, 6, []), (9, 5, []), (11, 16, [0, 0, 0, 0, 0, 0, 0, 0, 0, 0, 0, 0, 0, 0, 0, 0])]
theorem E5_eq : dR (dA E4 11 16 16) 1 4 (E4.length + 1) = E5 := by decide +kernel
noncomputable def E6 : Dl := [(6, 0, [2, 7, 20, 33, 38, 0, 0, 39, 0, 0, 0, 0, 0, 0]), (4, 0, [3, 0, 0, 0, 0, 0, 0, 0, 0, 4, 5, 6, 0, 0, 0]), (8, 900, []), (10, 15, []), (9, 15, []), (9, 15, []), (3, 0, [0, 0, 0, 0, 0, 8, 9, 10, 11, 12, 0, 13, 14, 15, 0, 16, 17, 0, 18, 19]), (9, 6, []), (9, 6, []), (9, 6, []), (9, 6, []), (9, 6, []), (9, 5, []), (9, 5, []), (9, 5, []), (9, 4, []), (9, 4, []), (9, 4, []), (9, 4, []), (3, 0, [0, 0, 0, 0, 0, 21, 22, 23, 24, 25, 0, 26, 27, 28, 0, 29, 30, 0, 31, 32]), (9, 6, []), (9, 6, []), (9, 6, []), (9, 6, []), (9, 6, []), (9, 5, []), (9, 5, []), (9, 5, []), (9, 4, []), (9, 4, []), (9, 4, []), (9, 4, []), (2, 0, [34, 35, 36, 37, 0, 0]), (9, 6, []), (9, 6, []), (9, 6, []), (9, 5, []), (11, 16, [0, 0, 0, 0, 0, 0, 0, 0, 0, 0, 0, 0, 0, 0, 0, 0]), (11, 3, [0, 0, 0])]
theorem E6_eq : dR (dA E5 11 3 3) 1 7 (E5.length + 1) = E6 := by decide +kernel
noncomputable def E7 : Dl := [(6, 0, [2, 7, 20, 33, 38, 0, 0, 39, 0, 40, 0, 0, 0, 0]), (4, 0, [3, 0, 0, 0, 0, 0, 0, 0, 0, 4, 5, 6, 0, 0, 0]), (8, 900, []), (10, 15, []), (9, 15, []), (9, 15, []), (3, 0, [0, 0, 0, 0, 0, 8, 9, 10, 11, 12, 0, 13, 14, 15, 0, 16, 17, 0, 18, 19]), (9, 6, []), (9, 6, []), (9, 6, []), (9, 6, []), (9, 6, []), (9, 5, []), (9, 5, []), (9, 5, []), (9, 4, []), (9, 4, []), (9, 4, []), (9, 4, []), (3, 0, [0, 0, 0, 0, 0, 21, 22, 23, 24, 25, 0, 26, 27, 28, 0, 29, 30, 0, 31, 32]), (9, 6, []), (9, 6, []), (9, 6, []), (9, 6, []), (9, 6, []), (9, 5, []), (9, 5, []), (9, 5, []), (9, 4, []), (9, 4, []), (9, 4, []), (9, 4, []), (2, 0, [34, 35, 36, 37, 0, 0]), (9, 6, []), (9, 6, []), (9, 6, []), (9, 5, []), (11, 16, [0, 0, 0, 0, 0, 0, 0, 0, 0, 0, 0, 0, 0, 0, 0, 0]), (11, 3, [0, 0, 0]), (0, 0, [0, 0, 0, 0, 0, 0, 0, 0])]
theorem E7_eq : dR (cX0 (dA E6 0 0 8) (E6.length + 1)) 1 9 (E6.length + 1) = E7 := by decide +kernel
noncomputable def E8 : Dl := [(6, 0, [2, 7, 20, 33, 38, 0, 0, 39, 0, 40, 41, 0, 0, 0]), (4, 0, [3, 0, 0, 0, 0, 0, 0, 0, 0, 4, 5, 6, 0, 0, 0]), (8, 900, []), (10, 15, []), (9, 15, []), (9, 15, []), (3, 0, [0, 0, 0, 0, 0, 8, 9, 10, 11, 12, 0, 13, 14, 15, 0, 16, 17, 0, 18, 19]), (9, 6, []), (9, 6, []), (9, 6, []), (9, 6, []), (9, 6, []), (9, 5, []), (9, 5, []), (9, 5, []), (9, 4, []), (9, 4, []), (9, 4, []), (9, 4, []), (3, 0, [0, 0, 0, 0, 0, 21, 22, 23, 24, 25, 0, 26, 27, 28, 0, 29, 30, 0, 31, 32]), (9, 6, []), (9, 6, []), (9, 6, []), (9, 6, []), (9, 6, []), (9, 5, []), (9, 5, []), (9, 5, []), (9, 4, []), (9, 4, []), (9, 4, []), (9, 4, []), (2, 0, [34, 35, 36, 37, 0, 0]), (9, 6, []), (9, 6, []), (9, 6, []), (9, 5, []), (11, 16, [0, 0, 0, 0, 0, 0, 0, 0, 0, 0, 0, 0, 0, 0, 0, 0]), (11, 3, [0, 0, 0]), (0, 0, [0, 0, 0, 0, 0, 0, 0, 0]), (5, 0, [42, 0]), (9, 20, [])]
theorem E8_eq : dR (cX5 (dA E7 5 0 2) (E7.length + 1)) 1 10 (E7.length + 1) = E8 := by decide +kernel
noncomputable def E9 : Dl := [(6, 0, [2, 7, 20, 33, 38, 0, 0, 39, 0, 40, 41, 43, 0, 0]), (4, 0, [3, 0, 0, 0, 0, 0, 0, 0, 0, 4, 5, 6, 0, 0, 0]), (8, 900, []), (10, 15, []), (9, 15, []), (9, 15, []), (3, 0, [0, 0, 0, 0, 0, 8, 9, 10, 11, 12, 0, 13, 14, 15, 0, 16, 17, 0, 18, 19]), (9, 6, []), (9, 6, []), (9, 6, []), (9, 6, []), (9, 6, []), (9, 5, []), (9, 5, []), (9, 5, []), (9, 4, []), (9, 4, []), (9, 4, []), (9, 4, []), (3, 0, [0, 0, 0, 0, 0, 21, 22, 23, 24, 25, 0, 26, 27, 28, 0, 29, 30, 0, 31, 32]), (9, 6, []), (9, 6, []), (9, 6, []), (9, 6, []), (9, 6, []), (9, 5, []), (9, 5, []), (9, 5, []), (9, 4, []), (9, 4, []), (9, 4, []), (9, 4, []), (2, 0, [34, 35, 36, 37, 0, 0]), (9, 6, []), (9, 6, []), (9, 6, []), (9, 5, []), (11, 16, [0, 0, 0, 0, 0, 0, 0, 0, 0, 0, 0, 0, 0, 0, 0, 0]), (11, 3, [0, 0, 0]), (0, 0, [0, 0, 0, 0, 0, 0, 0, 0]), (5, 0, [42, 0]), (9, 20, []), (1, 0, [44, 51, 52, 53, 0, 0, 0, 0, 0]), (12, 6, [45, 46, 47, 48, 49, 50]), (9, 5, []), (9, 5, []), (9, 5, []), (9, 5, []), (9, 5, []), (9, 5, []), (9, 6, []), (9, 5, []), (9, 5, [])]
theorem E9_eq : dR (cX1 (dA E8 1 0 9) (E8.length + 1)) 1 11 (E8.length + 1) = E9 := by decide +kernel
noncomputable def E10 : Dl := [(6, 0, [2, 7, 20, 33, 38, 0, 0, 39, 0, 40, 41, 43, 54, 0]), (4, 0, [3, 0, 0, 0, 0, 0, 0, 0, 0, 4, 5, 6, 0, 0, 0]), (8, 900, []), (10, 15, []), (9, 15, []), (9, 15, []), (3, 0, [0, 0, 0, 0, 0, 8, 9, 10, 11, 12, 0, 13, 14, 15, 0, 16, 17, 0, 18, 19]), (9, 6, []), (9, 6, []), (9, 6, []), (9, 6, []), (9, 6, []), (9, 5, []), (9, 5, []), (9, 5, []), (9, 4, []), (9, 4, []), (9, 4, []), (9, 4, []), (3, 0, [0, 0, 0, 0, 0, 21, 22, 23, 24, 25, 0, 26, 27, 28, 0, 29, 30, 0, 31, 32]), (9, 6, []), (9, 6, []), (9, 6, []), (9, 6, []), (9, 6, []), (9, 5, []), (9, 5, []), (9, 5, []), (9, 4, []), (9, 4, []), (9, 4, []), (9, 4, []), (2, 0, [34, 35, 36, 37, 0, 0]), (9, 6, []), (9, 6, []), (9, 6, []), (9, 5, []), (11, 16, [0, 0, 0, 0, 0, 0, 0, 0, 0, 0, 0, 0, 0, 0, 0, 0]), (11, 3, [0, 0, 0]), (0, 0, [0, 0, 0, 0, 0, 0, 0, 0]), (5, 0, [42, 0]), (9, 20, []), (1, 0, [44, 51, 52, 53, 0, 0, 0, 0, 0]), (12, 6, [45, 46, 47, 48, 49, 50]), (9, 5, []), (9, 5, []), (9, 5, []), (9, 5, []), (9, 5, []), (9, 5, []), (9, 6, []), (9, 5, []), (9, 5, []), (9, 61, [])]
theorem E10_eq : fa E9 1 9 61 12 = E10 := by decide +kernel
noncomputable def E11 : Dl := [(6, 0, [2, 7, 20, 33, 38, 0, 0, 39, 0, 40, 41, 43, 54, 0]), (4, 0, [3, 0, 0, 0, 0, 0, 0, 0, 0, 4, 5, 6, 0, 0, 0]), (8, 900, []), (10, 15, []), (9, 15, []), (9, 15, []), (3, 0, [0, 0, 0, 0, 0, 8, 9, 10, 11, 12, 0, 13, 14, 15, 0, 16, 17, 0, 18, 19]), (9, 6, []), (9, 6, []), (9, 6, []), (9, 6, []), (9, 6, []), (9, 5, []), (9, 5, []), (9, 5, []), (9, 4, []), (9, 4, []), (9, 4, []), (9, 4, []), (3, 0, [0, 0, 0, 0, 0, 21, 22, 23, 24, 25, 0, 26, 27, 28, 0, 29, 30, 0, 31, 32]), (9, 6, []), (9, 6, []), (9, 6, []), (9, 6, []), (9, 6, []), (9, 5, []), (9, 5, []), (9, 5, []), (9, 4, []), (9, 4, []), (9, 4, []), (9, 4, []), (2, 0, [34, 35, 36, 37, 0, 0]), (9, 6, []), (9, 6, []), (9, 6, []), (9, 5, []), (11, 16, [55, 0, 0, 0, 0, 0, 0, 0, 0, 0, 0, 0, 0, 0, 0, 0]), (11, 3, [0, 0, 0]), (0, 0, [0, 0, 0, 0, 0, 0, 0, 0]), (5, 0, [42, 0]), (9, 20, []), (1, 0, [44, 51, 52, 53, 0, 0, 0, 0, 0]), (12, 6, [45, 46, 47, 48, 49, 50]), (9, 5, []), (9, 5, []), (9, 5, []), (9, 5, []), (9, 5, []), (9, 5, []), (9, 6, []), (9, 5, []), (9, 5, []), (9, 61, []), (2, 0, [56, 57, 58, 59, 0, 0]), (9, 6, []), (9, 6, []), (9, 6, []), (9, 5, [])]
theorem E11_eq : fm E10 38 0 = E11 := by decide +kernel
noncomputable def E12 : Dl := [(6, 0, [2, 7, 20, 33, 38, 0, 0, 39, 0, 40, 41, 43, 54, 0]), (4, 0, [3, 0, 0, 0, 0, 0, 0, 0, 0, 4, 5, 6, 0, 0, 0]), (8, 900, []), (10, 15, []), (9, 15, []), (9, 15, []), (3, 0, [0, 0, 0, 0, 0, 8, 9, 10, 11, 12, 0, 13, 14, 15, 0, 16, 17, 0, 18, 19]), (9, 6, []), (9, 6, []), (9, 6, []), (9, 6, []), (9, 6, []), (9, 5, []), (9, 5, []), (9, 5, []), (9, 4, []), (9, 4, []), (9, 4, []), (9, 4, []), (3, 0, [0, 0, 0, 0, 0, 21, 22, 23, 24, 25, 0, 26, 27, 28, 0, 29, 30, 0, 31, 32]), (9, 6, []), (9, 6, []), (9, 6, []), (9, 6, []), (9, 6, []), (9, 5, []), (9, 5, []), (9, 5, []), (9, 4, []), (9, 4, []), (9, 4, []), (9, 4, []), (2, 0, [34, 35, 36, 37, 0, 0]), (9, 6, []), (9, 6, []), (9, 6, []), (9, 5, []), (11, 16, [55, 60, 0, 0, 0, 0, 0, 0, 0, 0, 0, 0, 0, 0, 0, 0]), (11, 3, [0, 0, 0]), (0, 0, [0, 0, 0, 0, 0, 0, 0, 0]), (5, 0, [42, 0]), (9, 20, []), (1, 0, [44, 51, 52, 53, 0, 0, 0, 0, 0]), (12, 6, [45, 46, 47, 48, 49, 50]), (9, 5, []), (9, 5, []), (9, 5, []), (9, 5, []), (9, 5, []), (9, 5, []), (9, 6, []), (9, 5, []), (9, 5, []), (9, 61, []), (2, 0, [56, 57, 58, 59, 0, 0]), (9, 6, []), (9, 6, []), (9, 6, []), (9, 5, []), (2, 0, [61, 62, 63, 64, 0, 0]), (9, 6, []), (9, 6, []), (9, 6, []), (9, 5, [])]
theorem E12_eq : fm E11 38 1 = E12 := by decide +kernel
noncomputable def E13 : Dl := [(6, 0, [2, 7, 20, 33, 38, 0, 0, 39, 0, 40, 41, 43, 54, 0]), (4, 0, [3, 0, 0, 0, 0, 0, 0, 0, 0, 4, 5, 6, 0, 0, 0]), (8, 900, []), (10, 15, []), (9, 15, []), (9, 15, []), (3, 0, [0, 0, 0, 0, 0, 8, 9, 10, 11, 12, 0, 13, 14, 15, 0, 16, 17, 0, 18, 19]), (9, 6, []), (9, 6, []), (9, 6, []), (9, 6, []), (9, 6, []), (9, 5, []), (9, 5, []), (9, 5, []), (9, 4, []), (9, 4, []), (9, 4, []), (9, 4, []), (3, 0, [0, 0, 0, 0, 0, 21, 22, 23, 24, 25, 0, 26, 27, 28, 0, 29, 30, 0, 31, 32]), (9, 6, []), (9, 6, []), (9, 6, []), (9, 6, []), (9, 6, []), (9, 5, []), (9, 5, []), (9, 5, []), (9, 4, []), (9, 4, []), (9, 4, []), (9, 4, []), (2, 0, [34, 35, 36, 37, 0, 0]), (9, 6, []), (9, 6, []), (9, 6, []), (9, 5, []), (11, 16, [55, 60, 65, 0, 0, 0, 0, 0, 0, 0, 0, 0, 0, 0, 0, 0]), (11, 3, [0, 0, 0]), (0, 0, [0, 0, 0, 0, 0, 0, 0, 0]), (5, 0, [42, 0]), (9, 20, []), (1, 0, [44, 51, 52, 53, 0, 0, 0, 0, 0]), (12, 6, [45, 46, 47, 48, 49, 50]), (9, 5, []), (9, 5, []), (9, 5, []), (9, 5, []), (9, 5, []), (9, 5, []), (9, 6, []), (9, 5, []), (9, 5, []), (9, 61, []), (2, 0, [56, 57, 58, 59, 0, 0]), (9, 6, []), (9, 6, []), (9, 6, []), (9, 5, []), (2, 0, [61, 62, 63, 64, 0, 0]), (9, 6, []), (9, 6, []), (9, 6, []), (9, 5, []), (2, 0, [66, 67, 68, 69, 0, 0]), (9, 6, []), (9, 6, []), (9, 6, []), (9, 5, [])]
theorem E13_eq : fm E12 38 2 = E13 := by decide +kernel
noncomputable def E14 : Dl := [(6, 0, [2, 7, 20, 33, 38, 0, 0, 39, 0, 40, 41, 43, 54, 0]), (4, 0, [3, 0, 0, 0, 0, 0, 0, 0, 0, 4, 5, 6, 0, 0, 0]), (8, 900, []), (10, 15, []), (9, 15, []), (9, 15, []), (3, 0, [0, 0, 0, 0, 0, 8, 9, 10, 11, 12, 0, 13, 14, 15, 0, 16, 17, 0, 18, 19]), (9, 6, []), (9, 6, []), (9, 6, []), (9, 6, []), (9, 6, []), (9, 5, []), (9, 5, []), (9, 5, []), (9, 4, []), (9, 4, []), (9, 4, []), (9, 4, []), (3, 0, [0, 0, 0, 0, 0, 21, 22, 23, 24, 25, 0, 26, 27, 28, 0, 29, 30, 0, 31, 32]), (9, 6, []), (9, 6, []), (9, 6, []), (9, 6, []), (9, 6, []), (9, 5, []), (9, 5, []), (9, 5, []), (9, 4, []), (9, 4, []), (9, 4, []), (9, 4, []), (2, 0, [34, 35, 36, 37, 0, 0]), (9, 6, []), (9, 6, []), (9, 6, []), (9, 5, []), (11, 16, [55, 60, 65, 70, 0, 0, 0, 0, 0, 0, 0, 0, 0, 0, 0, 0]), (11, 3, [0, 0, 0]), (0, 0, [0, 0, 0, 0, 0, 0, 0, 0]), (5, 0, [42, 0]), (9, 20, []), (1, 0, [44, 51, 52, 53, 0, 0, 0, 0, 0]), (12, 6, [45, 46, 47, 48, 49, 50]), (9, 5, []), (9, 5, []), (9, 5, []), (9, 5, []), (9, 5, []), (9, 5, []), (9, 6, []), (9, 5, []), (9, 5, []), (9, 61, []), (2, 0, [56, 57, 58, 59, 0, 0]), (9, 6, []), (9, 6, []), (9, 6, []), (9, 5, []), (2, 0, [61, 62, 63, 64, 0, 0]), (9, 6, []), (9, 6, []), (9, 6, []), (9, 5, []), (2, 0, [66, 67, 68, 69, 0, 0]), (9, 6, []), (9, 6, []), (9, 6, []), (9, 5, []), (2, 0, [71, 72, 73, 74, 0, 0]), (9, 6, []), (9, 6, []), (9, 6, []), (9, 5, [])]
theorem E14_eq : fm E13 38 3 = E14 := by decide +kernel
noncomputable def E15 : Dl := [(6, 0, [2, 7, 20, 33, 38, 0, 0, 39, 0, 40, 41, 43, 54, 0]), (4, 0, [3, 0, 0, 0, 0, 0, 0, 0, 0, 4, 5, 6, 0, 0, 0]), (8, 900, []), (10, 15, []), (9, 15, []), (9, 15, []), (3, 0, [0, 0, 0, 0, 0, 8, 9, 10, 11, 12, 0, 13, 14, 15, 0, 16, 17, 0, 18, 19]), (9, 6, []), (9, 6, []), (9, 6, []), (9, 6, []), (9, 6, []), (9, 5, []), (9, 5, []), (9, 5, []), (9, 4, []), (9, 4, []), (9, 4, []), (9, 4, []), (3, 0, [0, 0, 0, 0, 0, 21, 22, 23, 24, 25, 0, 26, 27, 28, 0, 29, 30, 0, 31, 32]), (9, 6, []), (9, 6, []), (9, 6, []), (9, 6, []), (9, 6, []), (9, 5, []), (9, 5, []), (9, 5, []), (9, 4, []), (9, 4, []), (9, 4, []), (9, 4, []), (2, 0, [34, 35, 36, 37, 0, 0]), (9, 6, []), (9, 6, []), (9, 6, []), (9, 5, []), (11, 16, [55, 60, 65, 70, 75, 0, 0, 0, 0, 0, 0, 0, 0, 0, 0, 0]), (11, 3, [0, 0, 0]), (0, 0, [0, 0, 0, 0, 0, 0, 0, 0]), (5, 0, [42, 0]), (9, 20, []), (1, 0, [44, 51, 52, 53, 0, 0, 0, 0, 0]), (12, 6, [45, 46, 47, 48, 49, 50]), (9, 5, []), (9, 5, []), (9, 5, []), (9, 5, []), (9, 5, []), (9, 5, []), (9, 6, []), (9, 5, []), (9, 5, []), (9, 61, []), (2, 0, [56, 57, 58, 59, 0, 0]), (9, 6, []), (9, 6, []), (9, 6, []), (9, 5, []), (2, 0, [61, 62, 63, 64, 0, 0]), (9, 6, []), (9, 6, []), (9, 6, []), (9, 5, []), (2, 0, [66, 67, 68, 69, 0, 0]), (9, 6, []), (9, 6, []), (9, 6, []), (9, 5, []), (2, 0, [71, 72, 73, 74, 0, 0]), (9, 6, []), (9, 6, []), (9, 6, []), (9, 5, []), (2, 0, [76, 77, 78, 79, 0, 0]), (9, 6, []), (9, 6, []), (9, 6, []), (9, 5, [])]
theorem E15_eq : fm E14 38 4 = E15 := by decide +kernel
noncomputable def E16 : Dl := [(6, 0, [2, 7, 20, 33, 38, 0, 0, 39, 0, 40, 41, 43, 54, 0]), (4, 0, [3, 0, 0, 0, 0, 0, 0, 0, 0, 4, 5, 6, 0, 0, 0]), (8, 900, []), (10, 15, []), (9, 15, []), (9, 15, []), (3, 0, [0, 0, 0, 0, 0, 8, 9, 10, 11, 12, 0, 13, 14, 15, 0, 16, 17, 0, 18, 19]), (9, 6, []), (9, 6, []), (9, 6, []), (9, 6, []), (9, 6, []), (9, 5, []), (9, 5, []), (9, 5, []), (9, 4, []), (9, 4, []), (9, 4, []), (9, 4, []), (3, 0, [0, 0, 0, 0, 0, 21, 22, 23, 24, 25, 0, 26, 27, 28, 0, 29, 30, 0, 31, 32]), (9, 6, []), (9, 6, []), (9, 6, []), (9, 6, []), (9, 6, []), (9, 5, []), (9, 5, []), (9, 5, []), (9, 4, []), (9, 4, []), (9, 4, []), (9, 4, []), (2, 0, [34, 35, 36, 37, 0, 0]), (9, 6, []), (9, 6, []), (9, 6, []), (9, 5, []), (11, 16, [55, 60, 65, 70, 75, 80, 0, 0, 0, 0, 0, 0, 0, 0, 0, 0]), (11, 3, [0, 0, 0]), (0, 0, [0, 0, 0, 0, 0, 0, 0, 0]), (5, 0, [42, 0]), (9, 20, []), (1, 0, [44, 51, 52, 53, 0, 0, 0, 0, 0]), (12, 6, [45, 46, 47, 48, 49, 50]), (9, 5, []), (9, 5, []), (9, 5, []), (9, 5, []), (9, 5, []), (9, 5, []), (9, 6, []), (9, 5, []), (9, 5, []), (9, 61, []), (2, 0, [56, 57, 58, 59, 0, 0]), (9, 6, []), (9, 6, []), (9, 6, []), (9, 5, []), (2, 0, [61, 62, 63, 64, 0, 0]), (9, 6, []), (9, 6, []), (9, 6, []), (9, 5, []), (2, 0, [66, 67, 68, 69, 0, 0]), (9, 6, []), (9, 6, []), (9, 6, []), (9, 5, []), (2, 0, [71, 72, 73, 74, 0, 0]), (9, 6, []), (9, 6, []), (9, 6, []), (9, 5, []), (2, 0, [76, 77, 78, 79, 0, 0]), (9, 6, []), (9, 6, []), (9, 6, []), (9, 5, []), (2, 0, [81, 82, 83, 84, 0, 0]), (9, 6, []), (9, 6, []), (9, 6, []), (9, 5, [])]
theorem E16_eq : fm E15 38 5 = E16 := by decide +kernel
noncomputable def E17 : Dl := [(6, 0, [2, 7, 20, 33, 38, 0, 0, 39, 0, 40, 41, 43, 54, 0]), (4, 0, [3, 0, 0, 0, 0, 0, 0, 0, 0, 4, 5, 6, 0, 0, 0]), (8, 900, []), (10, 15, []), (9, 15, []), (9, 15, []), (3, 0, [0, 0, 0, 0, 0, 8, 9, 10, 11, 12, 0, 13, 14, 15, 0, 16, 17, 0, 18, 19]), (9, 6, []), (9, 6, []), (9, 6, []), (9, 6, []), (9, 6, []), (9, 5, []), (9, 5, []), (9, 5, []), (9, 4, []), (9, 4, []), (9, 4, []), (9, 4, []), (3, 0, [0, 0, 0, 0, 0, 21, 22, 23, 24, 25, 0, 26, 27, 28, 0, 29, 30, 0, 31, 32]), (9, 6, []), (9, 6, []), (9, 6, []), (9, 6, []), (9, 6, []), (9, 5, []), (9, 5, []), (9, 5, []), (9, 4, []), (9, 4, []), (9, 4, []), (9, 4, []), (2, 0, [34, 35, 36, 37, 0, 0]), (9, 6, []), (9, 6, []), (9, 6, []), (9, 5, []), (11, 16, [55, 60, 65, 70, 75, 80, 85, 0, 0, 0, 0, 0, 0, 0, 0, 0]), (11, 3, [0, 0, 0]), (0, 0, [0, 0, 0, 0, 0, 0, 0, 0]), (5, 0, [42, 0]), (9, 20, []), (1, 0, [44, 51, 52, 53, 0, 0, 0, 0, 0]), (12, 6, [45, 46, 47, 48, 49, 50]), (9, 5, []), (9, 5, []), (9, 5, []), (9, 5, []), (9, 5, []), (9, 5, []), (9, 6, []), (9, 5, []), (9, 5, []), (9, 61, []), (2, 0, [56, 57, 58, 59, 0, 0]), (9, 6, []), (9, 6, []), (9, 6, []), (9, 5, []), (2, 0, [61, 62, 63, 64, 0, 0]), (9, 6, []), (9, 6, []), (9, 6, []), (9, 5, []), (2, 0, [66, 67, 68, 69, 0, 0]), (9, 6, []), (9, 6, []), (9, 6, []), (9, 5, []), (2, 0, [71, 72, 73, 74, 0, 0]), (9, 6, []), (9, 6, []), (9, 6, []), (9, 5, []), (2, 0, [76, 77, 78, 79, 0, 0]), (9, 6, []), (9, 6, []), (9, 6, []), (9, 5, []), (2, 0, [81, 82, 83, 84, 0, 0]), (9, 6, []), (9, 6, []), (9, 6, []), (9, 5, []), (2, 0, [86, 87, 88, 89, 0, 0]), (9, 6, []), (9, 6, []), (9, 6, []), (9, 5, [])]
theorem E17_eq : fm E16 38 6 = E17 := by decide +kernel
noncomputable def E18 : Dl := [(6, 0, [2, 7, 20, 33, 38, 0, 0, 39, 0, 40, 41, 43, 54, 0]), (4, 0, [3, 0, 0, 0, 0, 0, 0, 0, 0, 4, 5, 6, 0, 0, 0]), (8, 900, []), (10, 15, []), (9, 15, []), (9, 15, []), (3, 0, [0, 0, 0, 0, 0, 8, 9, 10, 11, 12, 0, 13, 14, 15, 0, 16, 17, 0, 18, 19]), (9, 6, []), (9, 6, []), (9, 6, []), (9, 6, []), (9, 6, []), (9, 5, []), (9, 5, []), (9, 5, []), (9, 4, []), (9, 4, []), (9, 4, []), (9, 4, []), (3, 0, [0, 0, 0, 0, 0, 21, 22, 23, 24, 25, 0, 26, 27, 28, 0, 29, 30, 0, 31, 32]), (9, 6, []), (9, 6, []), (9, 6, []), (9, 6, []), (9, 6, []), (9, 5, []), (9, 5, []), (9, 5, []), (9, 4, []), (9, 4, []), (9, 4, []), (9, 4, []), (2, 0, [34, 35, 36, 37, 0, 0]), (9, 6, []), (9, 6, []), (9, 6, []), (9, 5, []), (11, 16, [55, 60, 65, 70, 75, 80, 85, 90, 0, 0, 0, 0, 0, 0, 0, 0]), (11, 3, [0, 0, 0]), (0, 0, [0, 0, 0, 0, 0, 0, 0, 0]), (5, 0, [42, 0]), (9, 20, []), (1, 0, [44, 51, 52, 53, 0, 0, 0, 0, 0]), (12, 6, [45, 46, 47, 48, 49, 50]), (9, 5, []), (9, 5, []), (9, 5, []), (9, 5, []), (9, 5, []), (9, 5, []), (9, 6, []), (9, 5, []), (9, 5, []), (9, 61, []), (2, 0, [56, 57, 58, 59, 0, 0]), (9, 6, []), (9, 6, []), (9, 6, []), (9, 5, []), (2, 0, [61, 62, 63, 64, 0, 0]), (9, 6, []), (9, 6, []), (9, 6, []), (9, 5, []), (2, 0, [66, 67, 68, 69, 0, 0]), (9, 6, []), (9, 6, []), (9, 6, []), (9, 5, []), (2, 0, [71, 72, 73, 74, 0, 0]), (9, 6, []), (9, 6, []), (9, 6, []), (9, 5, []), (2, 0, [76, 77, 78, 79, 0, 0]), (9, 6, []), (9, 6, []), (9, 6, []), (9, 5, []), (2, 0, [81, 82, 83, 84, 0, 0]), (9, 6, []), (9, 6, []), (9, 6, []), (9, 5, []), (2, 0, [86, 87, 88, 89, 0, 0]), (9, 6, []), (9, 6, []), (9, 6, []), (9, 5, []), (2, 0, [91, 92, 93, 94, 0, 0]), (9, 6, []), (9, 6, []), (9, 6, []), (9, 5, [])]
theorem E18_eq : fm E17 38 7 = E18 := by decide +kernel
noncomputable def E19 : Dl := [(6, 0, [2, 7, 20, 33, 38, 0, 0, 39, 0, 40, 41, 43, 54, 0]), (4, 0, [3, 0, 0, 0, 0, 0, 0, 0, 0, 4, 5, 6, 0, 0, 0]), (8, 900, []), (10, 15, []), (9, 15, []), (9, 15, []), (3, 0, [0, 0, 0, 0, 0, 8, 9, 10, 11, 12, 0, 13, 14, 15, 0, 16, 17, 0, 18, 19]), (9, 6, []), (9, 6, []), (9, 6, []), (9, 6, []), (9, 6, []), (9, 5, []), (9, 5, []), (9, 5, []), (9, 4, []), (9, 4, []), (9, 4, []), (9, 4, []), (3, 0, [0, 0, 0, 0, 0, 21, 22, 23, 24, 25, 0, 26, 27, 28, 0, 29, 30, 0, 31, 32]), (9, 6, []), (9, 6, []), (9, 6, []), (9, 6, []), (9, 6, []), (9, 5, []), (9, 5, []), (9, 5, []), (9, 4, []), (9, 4, []), (9, 4, []), (9, 4, []), (2, 0, [34, 35, 36, 37, 0, 0]), (9, 6, []), (9, 6, []), (9, 6, []), (9, 5, []), (11, 16, [55, 60, 65, 70, 75, 80, 85, 90, 95, 0, 0, 0, 0, 0, 0, 0]), (11, 3, [0, 0, 0]), (0, 0, [0, 0, 0, 0, 0, 0, 0, 0]), (5, 0, [42, 0]), (9, 20, []), (1, 0, [44, 51, 52, 53, 0, 0, 0, 0, 0]), (12, 6, [45, 46, 47, 48, 49, 50]), (9, 5, []), (9, 5, []), (9, 5, []), (9, 5, []), (9, 5, []), (9, 5, []), (9, 6, []), (9, 5, []), (9, 5, []), (9, 61, []), (2, 0, [56, 57, 58, 59, 0, 0]), (9, 6, []), (9, 6, []), (9, 6, []), (9, 5, []), (2, 0, [61, 62, 63, 64, 0, 0]), (9, 6, []), (9, 6, []), (9, 6, []), (9, 5, []), (2, 0, [66, 67, 68, 69, 0, 0]), (9, 6, []), (9, 6, []), (9, 6, []), (9, 5, []), (2, 0, [71, 72, 73, 74, 0, 0]), (9, 6, []), (9, 6, []), (9, 6, []), (9, 5, []), (2, 0, [76, 77, 78, 79, 0, 0]), (9, 6, []), (9, 6, []), (9, 6, []), (9, 5, []), (2, 0, [81, 82, 83, 84, 0, 0]), (9, 6, []), (9, 6, []), (9, 6, []), (9, 5, []), (2, 0, [86, 87, 88, 89, 0, 0]), (9, 6, []), (9, 6, []), (9, 6, []), (9, 5, []), (2, 0, [91, 92, 93, 94, 0, 0]), (9, 6, []), (9, 6, []), (9, 6, []), (9, 5, []), (2, 0, [96, 97, 98, 99, 0, 0]), (9, 6, []), (9, 6, []), (9, 6, []), (9, 5, [])]
theorem E19_eq : fm E18 38 8 = E19 := by decide +kernel
noncomputable def E20 : Dl := [(6, 0, [2, 7, 20, 33, 38, 0, 0, 39, 0, 40, 41, 43, 54, 0]), (4, 0, [3, 0, 0, 0, 0, 0, 0, 0, 0, 4, 5, 6, 0, 0, 0]), (8, 900, []), (10, 15, []), (9, 15, []), (9, 15, []), (3, 0, [0, 0, 0, 0, 0, 8, 9, 10, 11, 12, 0, 13, 14, 15, 0, 16, 17, 0, 18, 19]), (9, 6, []), (9, 6, []), (9, 6, []), (9, 6, []), (9, 6, []), (9, 5, []), (9, 5, []), (9, 5, []), (9, 4, []), (9, 4, []), (9, 4, []), (9, 4, []), (3, 0, [0, 0, 0, 0, 0, 21, 22, 23, 24, 25, 0, 26, 27, 28, 0, 29, 30, 0, 31, 32]), (9, 6, []), (9, 6, []), (9, 6, []), (9, 6, []), (9, 6, []), (9, 5, []), (9, 5, []), (9, 5, []), (9, 4, []), (9, 4, []), (9, 4, []), (9, 4, []), (2, 0, [34, 35, 36, 37, 0, 0]), (9, 6, []), (9, 6, []), (9, 6, []), (9, 5, []), (11, 16, [55, 60, 65, 70, 75, 80, 85, 90, 95, 100, 0, 0, 0, 0, 0, 0]), (11, 3, [0, 0, 0]), (0, 0, [0, 0, 0, 0, 0, 0, 0, 0]), (5, 0, [42, 0]), (9, 20, []), (1, 0, [44, 51, 52, 53, 0, 0, 0, 0, 0]), (12, 6, [45, 46, 47, 48, 49, 50]), (9, 5, []), (9, 5, []), (9, 5, []), (9, 5, []), (9, 5, []), (9, 5, []), (9, 6, []), (9, 5, []), (9, 5, []), (9, 61, []), (2, 0, [56, 57, 58, 59, 0, 0]), (9, 6, []), (9, 6, []), (9, 6, []), (9, 5, []), (2, 0, [61, 62, 63, 64, 0, 0]), (9, 6, []), (9, 6, []), (9, 6, []), (9, 5, []), (2, 0, [66, 67, 68, 69, 0, 0]), (9, 6, []), (9, 6, []), (9, 6, []), (9, 5, []), (2, 0, [71, 72, 73, 74, 0, 0]), (9, 6, []), (9, 6, []), (9, 6, []), (9, 5, []), (2, 0, [76, 77, 78, 79, 0, 0]), (9, 6, []), (9, 6, []), (9, 6, []), (9, 5, []), (2, 0, [81, 82, 83, 84, 0, 0]), (9, 6, []), (9, 6, []), (9, 6, []), (9, 5, []), (2, 0, [86, 87, 88, 89, 0, 0]), (9, 6, []), (9, 6, []), (9, 6, []), (9, 5, []), (2, 0, [91, 92, 93, 94, 0, 0]), (9, 6, []), (9, 6, []), (9, 6, []), (9, 5, []), (2, 0, [96, 97, 98, 99, 0, 0]), (9, 6, []), (9, 6, []), (9, 6, []), (9, 5, []), (2, 0, [101, 102, 103, 104, 0, 0]), (9, 6, []), (9, 6, []), (9, 6, []), (9, 5, [])]
theorem E20_eq : fm E19 38 9 = E20 := by decide +kernel
noncomputable def E21 : Dl := [(6, 0, [2, 7, 20, 33, 38, 0, 0, 39, 0, 40, 41, 43, 54, 0]), (4, 0, [3, 0, 0, 0, 0, 0, 0, 0, 0, 4, 5, 6, 0, 0, 0]), (8, 900, []), (10, 15, []), (9, 15, []), (9, 15, []), (3, 0, [0, 0, 0, 0, 0, 8, 9, 10, 11, 12, 0, 13, 14, 15, 0, 16, 17, 0, 18, 19]), (9, 6, []), (9, 6, []), (9, 6, []), (9, 6, []), (9, 6, []), (9, 5, []), (9, 5, []), (9, 5, []), (9, 4, []), (9, 4, []), (9, 4, []), (9, 4, []), (3, 0, [0, 0, 0, 0, 0, 21, 22, 23, 24, 25, 0, 26, 27, 28, 0, 29, 30, 0, 31, 32]), (9, 6, []), (9, 6, []), (9, 6, []), (9, 6, []), (9, 6, []), (9, 5, []), (9, 5, []), (9, 5, []), (9, 4, []), (9, 4, []), (9, 4, []), (9, 4, []), (2, 0, [34, 35, 36, 37, 0, 0]), (9, 6, []), (9, 6, []), (9, 6, []), (9, 5, []), (11, 16, [55, 60, 65, 70, 75, 80, 85, 90, 95, 100, 105, 0, 0, 0, 0, 0]), (11, 3, [0, 0, 0]), (0, 0, [0, 0, 0, 0, 0, 0, 0, 0]), (5, 0, [42, 0]), (9, 20, []), (1, 0, [44, 51, 52, 53, 0, 0, 0, 0, 0]), (12, 6, [45, 46, 47, 48, 49, 50]), (9, 5, []), (9, 5, []), (9, 5, []), (9, 5, []), (9, 5, []), (9, 5, []), (9, 6, []), (9, 5, []), (9, 5, []), (9, 61, []), (2, 0, [56, 57, 58, 59, 0, 0]), (9, 6, []), (9, 6, []), (9, 6, []), (9, 5, []), (2, 0, [61, 62, 63, 64, 0, 0]), (9, 6, []), (9, 6, []), (9, 6, []), (9, 5, []), (2, 0, [66, 67, 68, 69, 0, 0]), (9, 6, []), (9, 6, []), (9, 6, []), (9, 5, []), (2, 0, [71, 72, 73, 74, 0, 0]), (9, 6, []), (9, 6, []), (9, 6, []), (9, 5, []), (2, 0, [76, 77, 78, 79, 0, 0]), (9, 6, []), (9, 6, []), (9, 6, []), (9, 5, []), (2, 0, [81, 82, 83, 84, 0, 0]), (9, 6, []), (9, 6, []), (9, 6, []), (9, 5, []), (2, 0, [86, 87, 88, 89, 0, 0]), (9, 6, []), (9, 6, []), (9, 6, []), (9, 5, []), (2, 0, [91, 92, 93, 94, 0, 0]), (9, 6, []), (9, 6, []), (9, 6, []), (9, 5, []), (2, 0, [96, 97, 98, 99, 0, 0]), (9, 6, []), (9, 6, []), (9, 6, []), (9, 5, []), (2, 0, [101, 102, 103, 104, 0, 0]), (9, 6, []), (9, 6, []), (9, 6, []), (9, 5, []), (2, 0, [106, 107, 108, 109, 0, 0]), (9, 6, []), (9, 6, []), (9, 6, []), (9, 5, [])]
theorem E21_eq : fm E20 38 10 = E21 := by decide +kernel
noncomputable def E22 : Dl := [(6, 0, [2, 7, 20, 33, 38, 0, 0, 39, 0, 40, 41, 43, 54, 0]), (4, 0, [3, 0, 0, 0, 0, 0, 0, 0, 0, 4, 5, 6, 0, 0, 0]), (8, 900, []), (10, 15, []), (9, 15, []), (9, 15, []), (3, 0, [0, 0, 0, 0, 0, 8, 9, 10, 11, 12, 0, 13, 14, 15, 0, 16, 17, 0, 18, 19]), (9, 6, []), (9, 6, []), (9, 6, []), (9, 6, []), (9, 6, []), (9, 5, []), (9, 5, []), (9, 5, []), (9, 4, []), (9, 4, []), (9, 4, []), (9, 4, []), (3, 0, [0, 0, 0, 0, 0, 21, 22, 23, 24, 25, 0, 26, 27, 28, 0, 29, 30, 0, 31, 32]), (9, 6, []), (9, 6, []), (9, 6, []), (9, 6, []), (9, 6, []), (9, 5, []), (9, 5, []), (9, 5, []), (9, 4, []), (9, 4, []), (9, 4, []), (9, 4, []), (2, 0, [34, 35, 36, 37, 0, 0]), (9, 6, []), (9, 6, []), (9, 6, []), (9, 5, []), (11, 16, [55, 60, 65, 70, 75, 80, 85, 90, 95, 100, 105, 110, 0, 0, 0, 0]), (11, 3, [0, 0, 0]), (0, 0, [0, 0, 0, 0, 0, 0, 0, 0]), (5, 0, [42, 0]), (9, 20, []), (1, 0, [44, 51, 52, 53, 0, 0, 0, 0, 0]), (12, 6, [45, 46, 47, 48, 49, 50]), (9, 5, []), (9, 5, []), (9, 5, []), (9, 5, []), (9, 5, []), (9, 5, []), (9, 6, []), (9, 5, []), (9, 5, []), (9, 61, []), (2, 0, [56, 57, 58, 59, 0, 0]), (9, 6, []), (9, 6, []), (9, 6, []), (9, 5, []), (2, 0, [61, 62, 63, 64, 0, 0]), (9, 6, []), (9, 6, []), (9, 6, []), (9, 5, []), (2, 0, [66, 67, 68, 69, 0, 0]), (9, 6, []), (9, 6, []), (9, 6, []), (9, 5, []), (2, 0, [71, 72, 73, 74, 0, 0]), (9, 6, []), (9, 6, []), (9, 6, []), (9, 5, []), (2, 0, [76, 77, 78, 79, 0, 0]), (9, 6, []), (9, 6, []), (9, 6, []), (9, 5, []), (2, 0, [81, 82, 83, 84, 0, 0]), (9, 6, []), (9, 6, []), (9, 6, []), (9, 5, []), (2, 0, [86, 87, 88, 89, 0, 0]), (9, 6, []), (9, 6, []), (9, 6, []), (9, 5, []), (2, 0, [91, 92, 93, 94, 0, 0]), (9, 6, []), (9, 6, []), (9, 6, []), (9, 5, []), (2, 0, [96, 97, 98, 99, 0, 0]), (9, 6, []), (9, 6, []), (9, 6, []), (9, 5, []), (2, 0, [101, 102, 103, 104, 0, 0]), (9, 6, []), (9, 6, []), (9, 6, []), (9, 5, []), (2, 0, [106, 107, 108, 109, 0, 0]), (9, 6, []), (9, 6, []), (9, 6, []), (9, 5, []), (2, 0, [111, 112, 113, 114, 0, 0]), (9, 6, []), (9, 6, []), (9, 6, []), (9, 5, [])]
theorem E22_eq : fm E21 38 11 = E22 := by decide +kernel
noncomputable def E23 : Dl := [(6, 0, [2, 7, 20, 33, 38, 0, 0, 39, 0, 40, 41, 43, 54, 0]), (4, 0, [3, 0, 0, 0, 0, 0, 0, 0, 0, 4, 5, 6, 0, 0, 0]), (8, 900, []), (10, 15, []), (9, 15, []), (9, 15, []), (3, 0, [0, 0, 0, 0, 0, 8, 9, 10, 11, 12, 0, 13, 14, 15, 0, 16, 17, 0, 18, 19]), (9, 6, []), (9, 6, []), (9, 6, []), (9, 6, []), (9, 6, []), (9, 5, []), (9, 5, []), (9, 5, []), (9, 4, []), (9, 4, []), (9, 4, []), (9, 4, []), (3, 0, [0, 0, 0, 0, 0, 21, 22, 23, 24, 25, 0, 26, 27, 28, 0, 29, 30, 0, 31, 32]), (9, 6, []), (9, 6, []), (9, 6, []), (9, 6, []), (9, 6, []), (9, 5, []), (9, 5, []), (9, 5, []), (9, 4, []), (9, 4, []), (9, 4, []), (9, 4, []), (2, 0, [34, 35, 36, 37, 0, 0]), (9, 6, []), (9, 6, []), (9, 6, []), (9, 5, []), (11, 16, [55, 60, 65, 70, 75, 80, 85, 90, 95, 100, 105, 110, 115, 0, 0, 0]), (11, 3, [0, 0, 0]), (0, 0, [0, 0, 0, 0, 0, 0, 0, 0]), (5, 0, [42, 0]), (9, 20, []), (1, 0, [44, 51, 52, 53, 0, 0, 0, 0, 0]), (12, 6, [45, 46, 47, 48, 49, 50]), (9, 5, []), (9, 5, []), (9, 5, []), (9, 5, []), (9, 5, []), (9, 5, []), (9, 6, []), (9, 5, []), (9, 5, []), (9, 61, []), (2, 0, [56, 57, 58, 59, 0, 0]), (9, 6, []), (9, 6, []), (9, 6, []), (9, 5, []), (2, 0, [61, 62, 63, 64, 0, 0]), (9, 6, []), (9, 6, []), (9, 6, []), (9, 5, []), (2, 0, [66, 67, 68, 69, 0, 0]), (9, 6, []), (9, 6, []), (9, 6, []), (9, 5, []), (2, 0, [71, 72, 73, 74, 0, 0]), (9, 6, []), (9, 6, []), (9, 6, []), (9, 5, []), (2, 0, [76, 77, 78, 79, 0, 0]), (9, 6, []), (9, 6, []), (9, 6, []), (9, 5, []), (2, 0, [81, 82, 83, 84, 0, 0]), (9, 6, []), (9, 6, []), (9, 6, []), (9, 5, []), (2, 0, [86, 87, 88, 89, 0, 0]), (9, 6, []), (9, 6, []), (9, 6, []), (9, 5, []), (2, 0, [91, 92, 93, 94, 0, 0]), (9, 6, []), (9, 6, []), (9, 6, []), (9, 5, []), (2, 0, [96, 97, 98, 99, 0, 0]), (9, 6, []), (9, 6, []), (9, 6, []), (9, 5, []), (2, 0, [101, 102, 103, 104, 0, 0]), (9, 6, []), (9, 6, []), (9, 6, []), (9, 5, []), (2, 0, [106, 107, 108, 109, 0, 0]), (9, 6, []), (9, 6, []), (9, 6, []), (9, 5, []), (2, 0, [111, 112, 113, 114, 0, 0]), (9, 6, []), (9, 6, []), (9, 6, []), (9, 5, []), (2, 0, [116, 117, 118, 119, 0, 0]), (9, 6, []), (9, 6, []), (9, 6, []), (9, 5, [])]
theorem E23_eq : fm E22 38 12 = E23 := by decide +kernel
noncomputable def E24 : Dl := [(6, 0, [2, 7, 20, 33, 38, 0, 0, 39, 0, 40, 41, 43, 54, 0]), (4, 0, [3, 0, 0, 0, 0, 0, 0, 0, 0, 4, 5, 6, 0, 0, 0]), (8, 900, []), (10, 15, []), (9, 15, []), (9, 15, []), (3, 0, [0, 0, 0, 0, 0, 8, 9, 10, 11, 12, 0, 13, 14, 15, 0, 16, 17, 0, 18, 19]), (9, 6, []), (9, 6, []), (9, 6, []), (9, 6, []), (9, 6, []), (9, 5, []), (9, 5, []), (9, 5, []), (9, 4, []), (9, 4, []), (9, 4, []), (9, 4, []), (3, 0, [0, 0, 0, 0, 0, 21, 22, 23, 24, 25, 0, 26, 27, 28, 0, 29, 30, 0, 31, 32]), (9, 6, []), (9, 6, []), (9, 6, []), (9, 6, []), (9, 6, []), (9, 5, []), (9, 5, []), (9, 5, []), (9, 4, []), (9, 4, []), (9, 4, []), (9, 4, []), (2, 0, [34, 35, 36, 37, 0, 0]), (9, 6, []), (9, 6, []), (9, 6, []), (9, 5, []), (11, 16, [55, 60, 65, 70, 75, 80, 85, 90, 95, 100, 105, 110, 115, 120, 0, 0]), (11, 3, [0, 0, 0]), (0, 0, [0, 0, 0, 0, 0, 0, 0, 0]), (5, 0, [42, 0]), (9, 20, []), (1, 0, [44, 51, 52, 53, 0, 0, 0, 0, 0]), (12, 6, [45, 46, 47, 48, 49, 50]), (9, 5, []), (9, 5, []), (9, 5, []), (9, 5, []), (9, 5, []), (9, 5, []), (9, 6, []), (9, 5, []), (9, 5, []), (9, 61, []), (2, 0, [56, 57, 58, 59, 0, 0]), (9, 6, []), (9, 6, []), (9, 6, []), (9, 5, []), (2, 0, [61, 62, 63, 64, 0, 0]), (9, 6, []), (9, 6, []), (9, 6, []), (9, 5, []), (2, 0, [66, 67, 68, 69, 0, 0]), (9, 6, []), (9, 6, []), (9, 6, []), (9, 5, []), (2, 0, [71, 72, 73, 74, 0, 0]), (9, 6, []), (9, 6, []), (9, 6, []), (9, 5, []), (2, 0, [76, 77, 78, 79, 0, 0]), (9, 6, []), (9, 6, []), (9, 6, []), (9, 5, []), (2, 0, [81, 82, 83, 84, 0, 0]), (9, 6, []), (9, 6, []), (9, 6, []), (9, 5, []), (2, 0, [86, 87, 88, 89, 0, 0]), (9, 6, []), (9, 6, []), (9, 6, []), (9, 5, []), (2, 0, [91, 92, 93, 94, 0, 0]), (9, 6, []), (9, 6, []), (9, 6, []), (9, 5, []), (2, 0, [96, 97, 98, 99, 0, 0]), (9, 6, []), (9, 6, []), (9, 6, []), (9, 5, []), (2, 0, [101, 102, 103, 104, 0, 0]), (9, 6, []), (9, 6, []), (9, 6, []), (9, 5, []), (2, 0, [106, 107, 108, 109, 0, 0]), (9, 6, []), (9, 6, []), (9, 6, []), (9, 5, []), (2, 0, [111, 112, 113, 114, 0, 0]), (9, 6, []), (9, 6, []), (9, 6, []), (9, 5, []), (2, 0, [116, 117, 118, 119, 0, 0]), (9, 6, []), (9, 6, []), (9, 6, []), (9, 5, []), (2, 0, [121, 122, 123, 124, 0, 0]), (9, 6, []), (9, 6, []), (9, 6, []), (9, 5, [])]
theorem E24_eq : fm E23 38 13 = E24 := by decide +kernel
noncomputable def E25 : Dl := [(6, 0, [2, 7, 20, 33, 38, 0, 0, 39, 0, 40, 41, 43, 54, 0]), (4, 0, [3, 0, 0, 0, 0, 0, 0, 0, 0, 4, 5, 6, 0, 0, 0]), (8, 900, []), (10, 15, []), (9, 15, []), (9, 15, []), (3, 0, [0, 0, 0, 0, 0, 8, 9, 10, 11, 12, 0, 13, 14, 15, 0, 16, 17, 0, 18, 19]), (9, 6, []), (9, 6, []), (9, 6, []), (9, 6, []), (9, 6, []), (9, 5, []), (9, 5, []), (9, 5, []), (9, 4, []), (9, 4, []), (9, 4, []), (9, 4, []), (3, 0, [0, 0, 0, 0, 0, 21, 22, 23, 24, 25, 0, 26, 27, 28, 0, 29, 30, 0, 31, 32]), (9, 6, []), (9, 6, []), (9, 6, []), (9, 6, []), (9, 6, []), (9, 5, []), (9, 5, []), (9, 5, []), (9, 4, []), (9, 4, []), (9, 4, []), (9, 4, []), (2, 0, [34, 35, 36, 37, 0, 0]), (9, 6, []), (9, 6, []), (9, 6, []), (9, 5, []), (11, 16, [55, 60, 65, 70, 75, 80, 85, 90, 95, 100, 105, 110, 115, 120, 125, 0]), (11, 3, [0, 0, 0]), (0, 0, [0, 0, 0, 0, 0, 0, 0, 0]), (5, 0, [42, 0]), (9, 20, []), (1, 0, [44, 51, 52, 53, 0, 0, 0, 0, 0]), (12, 6, [45, 46, 47, 48, 49, 50]), (9, 5, []), (9, 5, []), (9, 5, []), (9, 5, []), (9, 5, []), (9, 5, []), (9, 6, []), (9, 5, []), (9, 5, []), (9, 61, []), (2, 0, [56, 57, 58, 59, 0, 0]), (9, 6, []), (9, 6, []), (9, 6, []), (9, 5, []), (2, 0, [61, 62, 63, 64, 0, 0]), (9, 6, []), (9, 6, []), (9, 6, []), (9, 5, []), (2, 0, [66, 67, 68, 69, 0, 0]), (9, 6, []), (9, 6, []), (9, 6, []), (9, 5, []), (2, 0, [71, 72, 73, 74, 0, 0]), (9, 6, []), (9, 6, []), (9, 6, []), (9, 5, []), (2, 0, [76, 77, 78, 79, 0, 0]), (9, 6, []), (9, 6, []), (9, 6, []), (9, 5, []), (2, 0, [81, 82, 83, 84, 0, 0]), (9, 6, []), (9, 6, []), (9, 6, []), (9, 5, []), (2, 0, [86, 87, 88, 89, 0, 0]), (9, 6, []), (9, 6, []), (9, 6, []), (9, 5, []), (2, 0, [91, 92, 93, 94, 0, 0]), (9, 6, []), (9, 6, []), (9, 6, []), (9, 5, []), (2, 0, [96, 97, 98, 99, 0, 0]), (9, 6, []), (9, 6, []), (9, 6, []), (9, 5, []), (2, 0, [101, 102, 103, 104, 0, 0]), (9, 6, []), (9, 6, []), (9, 6, []), (9, 5, []), (2, 0, [106, 107, 108, 109, 0, 0]), (9, 6, []), (9, 6, []), (9, 6, []), (9, 5, []), (2, 0, [111, 112, 113, 114, 0, 0]), (9, 6, []), (9, 6, []), (9, 6, []), (9, 5, []), (2, 0, [116, 117, 118, 119, 0, 0]), (9, 6, []), (9, 6, []), (9, 6, []), (9, 5, []), (2, 0, [121, 122, 123, 124, 0, 0]), (9, 6, []), (9, 6, []), (9, 6, []), (9, 5, []), (2, 0, [126, 127, 128, 129, 0, 0]), (9, 6, []), (9, 6, []), (9, 6, []), (9, 5, [])]
theorem E25_eq : fm E24 38 14 = E25 := by decide +kernel
noncomputable def E26 : Dl := [(6, 0, [2, 7, 20, 33, 38, 0, 0, 39, 0, 40, 41, 43, 54, 0]), (4, 0, [3, 0, 0, 0, 0, 0, 0, 0, 0, 4, 5, 6, 0, 0, 0]), (8, 900, []), (10, 15, []), (9, 15, []), (9, 15, []), (3, 0, [0, 0, 0, 0, 0, 8, 9, 10, 11, 12, 0, 13, 14, 15, 0, 16, 17, 0, 18, 19]), (9, 6, []), (9, 6, []), (9, 6, []), (9, 6, []), (9, 6, []), (9, 5, []), (9, 5, []), (9, 5, []), (9, 4, []), (9, 4, []), (9, 4, []), (9, 4, []), (3, 0, [0, 0, 0, 0, 0, 21, 22, 23, 24, 25, 0, 26, 27, 28, 0, 29, 30, 0, 31, 32]), (9, 6, []), (9, 6, []), (9, 6, []), (9, 6, []), (9, 6, []), (9, 5, []), (9, 5, []), (9, 5, []), (9, 4, []), (9, 4, []), (9, 4, []), (9, 4, []), (2, 0, [34, 35, 36, 37, 0, 0]), (9, 6, []), (9, 6, []), (9, 6, []), (9, 5, []), (11, 16, [55, 60, 65, 70, 75, 80, 85, 90, 95, 100, 105, 110, 115, 120, 125, 130]), (11, 3, [0, 0, 0]), (0, 0, [0, 0, 0, 0, 0, 0, 0, 0]), (5, 0, [42, 0]), (9, 20, []), (1, 0, [44, 51, 52, 53, 0, 0, 0, 0, 0]), (12, 6, [45, 46, 47, 48, 49, 50]), (9, 5, []), (9, 5, []), (9, 5, []), (9, 5, []), (9, 5, []), (9, 5, []), (9, 6, []), (9, 5, []), (9, 5, []), (9, 61, []), (2, 0, [56, 57, 58, 59, 0, 0]), (9, 6, []), (9, 6, []), (9, 6, []), (9, 5, []), (2, 0, [61, 62, 63, 64, 0, 0]), (9, 6, []), (9, 6, []), (9, 6, []), (9, 5, []), (2, 0, [66, 67, 68, 69, 0, 0]), (9, 6, []), (9, 6, []), (9, 6, []), (9, 5, []), (2, 0, [71, 72, 73, 74, 0, 0]), (9, 6, []), (9, 6, []), (9, 6, []), (9, 5, []), (2, 0, [76, 77, 78, 79, 0, 0]), (9, 6, []), (9, 6, []), (9, 6, []), (9, 5, []), (2, 0, [81, 82, 83, 84, 0, 0]), (9, 6, []), (9, 6, []), (9, 6, []), (9, 5, []), (2, 0, [86, 87, 88, 89, 0, 0]), (9, 6, []), (9, 6, []), (9, 6, []), (9, 5, []), (2, 0, [91, 92, 93, 94, 0, 0]), (9, 6, []), (9, 6, []), (9, 6, []), (9, 5, []), (2, 0, [96, 97, 98, 99, 0, 0]), (9, 6, []), (9, 6, []), (9, 6, []), (9, 5, []), (2, 0, [101, 102, 103, 104, 0, 0]), (9, 6, []), (9, 6, []), (9, 6, []), (9, 5, []), (2, 0, [106, 107, 108, 109, 0, 0]), (9, 6, []), (9, 6, []), (9, 6, []), (9, 5, []), (2, 0, [111, 112, 113, 114, 0, 0]), (9, 6, []), (9, 6, []), (9, 6, []), (9, 5, []), (2, 0, [116, 117, 118, 119, 0, 0]), (9, 6, []), (9, 6, []), (9, 6, []), (9, 5, []), (2, 0, [121, 122, 123, 124, 0, 0]), (9, 6, []), (9, 6, []), (9, 6, []), (9, 5, []), (2, 0, [126, 127, 128, 129, 0, 0]), (9, 6, []), (9, 6, []), (9, 6, []), (9, 5, []), (2, 0, [131, 132, 133, 134, 0, 0]), (9, 6, []), (9, 6, []), (9, 6, []), (9, 5, [])]
theorem E26_eq : fm E25 38 15 = E26 := by decide +kernel
theorem lpD_128 : lpD 16 0 E10 38 = E26 := by
  show lpD 15 1 (fm E10 38 0) 38 = _
  rw [E11_eq]
  show lpD 14 2 (fm E11 38 1) 38 = _
  rw [E12_eq]
  show lpD 13 3 (fm E12 38 2) 38 = _
  rw [E13_eq]
  show lpD 12 4 (fm E13 38 3) 38 = _
  rw [E14_eq]
  show lpD 11 5 (fm E14 38 4) 38 = _
  rw [E15_eq]
  show lpD 10 6 (fm E15 38 5) 38 = _
  rw [E16_eq]
  show lpD 9 7 (fm E16 38 6) 38 = _
  rw [E17_eq]
  show lpD 8 8 (fm E17 38 7) 38 = _
  rw [E18_eq]
  show lpD 7 9 (fm E18 38 8) 38 = _
  rw [E19_eq]
  show lpD 6 10 (fm E19 38 9) 38 = _
  rw [E20_eq]
  show lpD 5 11 (fm E20 38 10) 38 = _
  rw [E21_eq]
  show lpD 4 12 (fm E21 38 11) 38 = _
  rw [E22_eq]
  show lpD 3 13 (fm E22 38 12) 38 = _
  rw [E23_eq]
  show lpD 2 14 (fm E23 38 13) 38 = _
  rw [E24_eq]
  show lpD 1 15 (fm E24 38 14) 38 = _
  rw [E25_eq]
  show lpD 0 16 (fm E25 38 15) 38 = _
  rw [E26_eq]
  rfl
noncomputable def E27 : Dl := [(6, 0, [2, 7, 20, 33, 38, 0, 0, 39, 0, 40, 41, 43, 54, 0]), (4, 0, [3, 0, 0, 0, 0, 0, 0, 0, 0, 4, 5, 6, 0, 0, 0]), (8, 900, []), (10, 15, []), (9, 15, []), (9, 15, []), (3, 0, [0, 0, 0, 0, 0, 8, 9, 10, 11, 12, 0, 13, 14, 15, 0, 16, 17, 0, 18, 19]), (9, 6, []), (9, 6, []), (9, 6, []), (9, 6, []), (9, 6, []), (9, 5, []), (9, 5, []), (9, 5, []), (9, 4, []), (9, 4, []), (9, 4, []), (9, 4, []), (3, 0, [0, 0, 0, 0, 0, 21, 22, 23, 24, 25, 0, 26, 27, 28, 0, 29, 30, 0, 31, 32]), (9, 6, []), (9, 6, []), (9, 6, []), (9, 6, []), (9, 6, []), (9, 5, []), (9, 5, []), (9, 5, []), (9, 4, []), (9, 4, []), (9, 4, []), (9, 4, []), (2, 0, [34, 35, 36, 37, 0, 0]), (9, 6, []), (9, 6, []), (9, 6, []), (9, 5, []), (11, 16, [55, 60, 65, 70, 75, 80, 85, 90, 95, 100, 105, 110, 115, 120, 125, 130]), (11, 3, [135, 0, 0]), (0, 0, [0, 0, 0, 0, 0, 0, 0, 0]), (5, 0, [42, 0]), (9, 20, []), (1, 0, [44, 51, 52, 53, 0, 0, 0, 0, 0]), (12, 6, [45, 46, 47, 48, 49, 50]), (9, 5, []), (9, 5, []), (9, 5, []), (9, 5, []), (9, 5, []), (9, 5, []), (9, 6, []), (9, 5, []), (9, 5, []), (9, 61, []), (2, 0, [56, 57, 58, 59, 0, 0]), (9, 6, []), (9, 6, []), (9, 6, []), (9, 5, []), (2, 0, [61, 62, 63, 64, 0, 0]), (9, 6, []), (9, 6, []), (9, 6, []), (9, 5, []), (2, 0, [66, 67, 68, 69, 0, 0]), (9, 6, []), (9, 6, []), (9, 6, []), (9, 5, []), (2, 0, [71, 72, 73, 74, 0, 0]), (9, 6, []), (9, 6, []), (9, 6, []), (9, 5, []), (2, 0, [76, 77, 78, 79, 0, 0]), (9, 6, []), (9, 6, []), (9, 6, []), (9, 5, []), (2, 0, [81, 82, 83, 84, 0, 0]), (9, 6, []), (9, 6, []), (9, 6, []), (9, 5, []), (2, 0, [86, 87, 88, 89, 0, 0]), (9, 6, []), (9, 6, []), (9, 6, []), (9, 5, []), (2, 0, [91, 92, 93, 94, 0, 0]), (9, 6, []), (9, 6, []), (9, 6, []), (9, 5, []), (2, 0, [96, 97, 98, 99, 0, 0]), (9, 6, []), (9, 6, []), (9, 6, []), (9, 5, []), (2, 0, [101, 102, 103, 104, 0, 0]), (9, 6, []), (9, 6, []), (9, 6, []), (9, 5, []), (2, 0, [106, 107, 108, 109, 0, 0]), (9, 6, []), (9, 6, []), (9, 6, []), (9, 5, []), (2, 0, [111, 112, 113, 114, 0, 0]), (9, 6, []), (9, 6, []), (9, 6, []), (9, 5, []), (2, 0, [116, 117, 118, 119, 0, 0]), (9, 6, []), (9, 6, []), (9, 6, []), (9, 5, []), (2, 0, [121, 122, 123, 124, 0, 0]), (9, 6, []), (9, 6, []), (9, 6, []), (9, 5, []), (2, 0, [126, 127, 128, 129, 0, 0]), (9, 6, []), (9, 6, []), (9, 6, []), (9, 5, []), (2, 0, [131, 132, 133, 134, 0, 0]), (9, 6, []), (9, 6, []), (9, 6, []), (9, 5, []), (2, 0, [136, 137, 138, 139, 0, 0]), (9, 6, []), (9, 6, []), (9, 6, []), (9, 5, [])]
theorem E27_eq : fm E26 39 0 = E27 := by decide +kernel
noncomputable def E28 : Dl := [(6, 0, [2, 7, 20, 33, 38, 0, 0, 39, 0, 40, 41, 43, 54, 0]), (4, 0, [3, 0, 0, 0, 0, 0, 0, 0, 0, 4, 5, 6, 0, 0, 0]), (8, 900, []), (10, 15, []), (9, 15, []), (9, 15, []), (3, 0, [0, 0, 0, 0, 0, 8, 9, 10, 11, 12, 0, 13, 14, 15, 0, 16, 17, 0, 18, 19]), (9, 6, []), (9, 6, []), (9, 6, []), (9, 6, []), (9, 6, []), (9, 5, []), (9, 5, []), (9, 5, []), (9, 4, []), (9, 4, []), (9, 4, []), (9, 4, []), (3, 0, [0, 0, 0, 0, 0, 21, 22, 23, 24, 25, 0, 26, 27, 28, 0, 29, 30, 0, 31, 32]), (9, 6, []), (9, 6, []), (9, 6, []), (9, 6, []), (9, 6, []), (9, 5, []), (9, 5, []), (9, 5, []), (9, 4, []), (9, 4, []), (9, 4, []), (9, 4, []), (2, 0, [34, 35, 36, 37, 0, 0]), (9, 6, []), (9, 6, []), (9, 6, []), (9, 5, []), (11, 16, [55, 60, 65, 70, 75, 80, 85, 90, 95, 100, 105, 110, 115, 120, 125, 130]), (11, 3, [135, 140, 0]), (0, 0, [0, 0, 0, 0, 0, 0, 0, 0]), (5, 0, [42, 0]), (9, 20, []), (1, 0, [44, 51, 52, 53, 0, 0, 0, 0, 0]), (12, 6, [45, 46, 47, 48, 49, 50]), (9, 5, []), (9, 5, []), (9, 5, []), (9, 5, []), (9, 5, []), (9, 5, []), (9, 6, []), (9, 5, []), (9, 5, []), (9, 61, []), (2, 0, [56, 57, 58, 59, 0, 0]), (9, 6, []), (9, 6, []), (9, 6, []), (9, 5, []), (2, 0, [61, 62, 63, 64, 0, 0]), (9, 6, []), (9, 6, []), (9, 6, []), (9, 5, []), (2, 0, [66, 67, 68, 69, 0, 0]), (9, 6, []), (9, 6, []), (9, 6, []), (9, 5, []), (2, 0, [71, 72, 73, 74, 0, 0]), (9, 6, []), (9, 6, []), (9, 6, []), (9, 5, []), (2, 0, [76, 77, 78, 79, 0, 0]), (9, 6, []), (9, 6, []), (9, 6, []), (9, 5, []), (2, 0, [81, 82, 83, 84, 0, 0]), (9, 6, []), (9, 6, []), (9, 6, []), (9, 5, []), (2, 0, [86, 87, 88, 89, 0, 0]), (9, 6, []), (9, 6, []), (9, 6, []), (9, 5, []), (2, 0, [91, 92, 93, 94, 0, 0]), (9, 6, []), (9, 6, []), (9, 6, []), (9, 5, []), (2, 0, [96, 97, 98, 99, 0, 0]), (9, 6, []), (9, 6, []), (9, 6, []), (9, 5, []), (2, 0, [101, 102, 103, 104, 0, 0]), (9, 6, []), (9, 6, []), (9, 6, []), (9, 5, []), (2, 0, [106, 107, 108, 109, 0, 0]), (9, 6, []), (9, 6, []), (9, 6, []), (9, 5, []), (2, 0, [111, 112, 113, 114, 0, 0]), (9, 6, []), (9, 6, []), (9, 6, []), (9, 5, []), (2, 0, [116, 117, 118, 119, 0, 0]), (9, 6, []), (9, 6, []), (9, 6, []), (9, 5, []), (2, 0, [121, 122, 123, 124, 0, 0]), (9, 6, []), (9, 6, []), (9, 6, []), (9, 5, []), (2, 0, [126, 127, 128, 129, 0, 0]), (9, 6, []), (9, 6, []), (9, 6, []), (9, 5, []), (2, 0, [131, 132, 133, 134, 0, 0]), (9, 6, []), (9, 6, []), (9, 6, []), (9, 5, []), (2, 0, [136, 137, 138, 139, 0, 0]), (9, 6, []), (9, 6, []), (9, 6, []), (9, 5, []), (2, 0, [141, 142, 143, 144, 0, 0]), (9, 6, []), (9, 6, []), (9, 6, []), (9, 5, [])]
theorem E28_eq : fm E27 39 1 = E28 := by decide +kernel
noncomputable def E29 : Dl := [(6, 0, [2, 7, 20, 33, 38, 0, 0, 39, 0, 40, 41, 43, 54, 0]), (4, 0, [3, 0, 0, 0, 0, 0, 0, 0, 0, 4, 5, 6, 0, 0, 0]), (8, 900, []), (10, 15, []), (9, 15, []), (9, 15, []), (3, 0, [0, 0, 0, 0, 0, 8, 9, 10, 11, 12, 0, 13, 14, 15, 0, 16, 17, 0, 18, 19]), (9, 6, []), (9, 6, []), (9, 6, []), (9, 6, []), (9, 6, []), (9, 5, []), (9, 5, []), (9, 5, []), (9, 4, []), (9, 4, []), (9, 4, []), (9, 4, []), (3, 0, [0, 0, 0, 0, 0, 21, 22, 23, 24, 25, 0, 26, 27, 28, 0, 29, 30, 0, 31, 32]), (9, 6, []), (9, 6, []), (9, 6, []), (9, 6, []), (9, 6, []), (9, 5, []), (9, 5, []), (9, 5, []), (9, 4, []), (9, 4, []), (9, 4, []), (9, 4, []), (2, 0, [34, 35, 36, 37, 0, 0]), (9, 6, []), (9, 6, []), (9, 6, []), (9, 5, []), (11, 16, [55, 60, 65, 70, 75, 80, 85, 90, 95, 100, 105, 110, 115, 120, 125, 130]), (11, 3, [135, 140, 145]), (0, 0, [0, 0, 0, 0, 0, 0, 0, 0]), (5, 0, [42, 0]), (9, 20, []), (1, 0, [44, 51, 52, 53, 0, 0, 0, 0, 0]), (12, 6, [45, 46, 47, 48, 49, 50]), (9, 5, []), (9, 5, []), (9, 5, []), (9, 5, []), (9, 5, []), (9, 5, []), (9, 6, []), (9, 5, []), (9, 5, []), (9, 61, []), (2, 0, [56, 57, 58, 59, 0, 0]), (9, 6, []), (9, 6, []), (9, 6, []), (9, 5, []), (2, 0, [61, 62, 63, 64, 0, 0]), (9, 6, []), (9, 6, []), (9, 6, []), (9, 5, []), (2, 0, [66, 67, 68, 69, 0, 0]), (9, 6, []), (9, 6, []), (9, 6, []), (9, 5, []), (2, 0, [71, 72, 73, 74, 0, 0]), (9, 6, []), (9, 6, []), (9, 6, []), (9, 5, []), (2, 0, [76, 77, 78, 79, 0, 0]), (9, 6, []), (9, 6, []), (9, 6, []), (9, 5, []), (2, 0, [81, 82, 83, 84, 0, 0]), (9, 6, []), (9, 6, []), (9, 6, []), (9, 5, []), (2, 0, [86, 87, 88, 89, 0, 0]), (9, 6, []), (9, 6, []), (9, 6, []), (9, 5, []), (2, 0, [91, 92, 93, 94, 0, 0]), (9, 6, []), (9, 6, []), (9, 6, []), (9, 5, []), (2, 0, [96, 97, 98, 99, 0, 0]), (9, 6, []), (9, 6, []), (9, 6, []), (9, 5, []), (2, 0, [101, 102, 103, 104, 0, 0]), (9, 6, []), (9, 6, []), (9, 6, []), (9, 5, []), (2, 0, [106, 107, 108, 109, 0, 0]), (9, 6, []), (9, 6, []), (9, 6, []), (9, 5, []), (2, 0, [111, 112, 113, 114, 0, 0]), (9, 6, []), (9, 6, []), (9, 6, []), (9, 5, []), (2, 0, [116, 117, 118, 119, 0, 0]), (9, 6, []), (9, 6, []), (9, 6, []), (9, 5, []), (2, 0, [121, 122, 123, 124, 0, 0]), (9, 6, []), (9, 6, []), (9, 6, []), (9, 5, []), (2, 0, [126, 127, 128, 129, 0, 0]), (9, 6, []), (9, 6, []), (9, 6, []), (9, 5, []), (2, 0, [131, 132, 133, 134, 0, 0]), (9, 6, []), (9, 6, []), (9, 6, []), (9, 5, []), (2, 0, [136, 137, 138, 139, 0, 0]), (9, 6, []), (9, 6, []), (9, 6, []), (9, 5, []), (2, 0, [141, 142, 143, 144, 0, 0]), (9, 6, []), (9, 6, []), (9, 6, []), (9, 5, []), (2, 0, [146, 147, 148, 149, 0, 0]), (9, 6, []), (9, 6, []), (9, 6, []), (9, 5, [])]
theorem E29_eq : fm E28 39 2 = E29 := by decide +kernel
theorem lpD_155 : lpD 3 0 E26 39 = E29 := by
  show lpD 2 1 (fm E26 39 0) 39 = _
  rw [E27_eq]
  show lpD 1 2 (fm E27 39 1) 39 = _
  rw [E28_eq]
  show lpD 0 3 (fm E28 39 2) 39 = _
  rw [E29_eq]
  rfl
set_option maxRecDepth 20000 in
theorem sX6_init {l : Launch} {X : Nat × (Nat → Int32)} {d : Nat} {kr : KR} (h : kr none (mkD E29 (14 + 1873) I00)) : Ev l X uX6_init (d + 2) false 148 1873 [.ref 1] (mkD E0 14 I00) kr := by
  refine Ev.of (by decide) (Nat.le_of_ble_eq_true rfl) ?_
  show Wf l X uX6_init (d + 2) false (1 + 148, 14 + 1873) 0 [(0, .ref 1)] [] (mkD E0 14 I00) kr
  refine ch_oi (c := 6) (N := 14) (tkX6_init (d := d + 1) (b := (1 + 148, 14 + 1873)) (0, oAl 0 1 0) (List.mem_of_getElem? (i := 0) rfl)) (tkX6_init (d := d + 1) (b := (1 + 148, 14 + 1873)) (1, oOi 1) (List.mem_of_getElem? (i := 1) rfl)) rfl rfl (by unfold slf; decide +kernel) rfl ?_
  refine ch_new (D := E0) (D2 := cX4 (dA E0 4 0 15) (E0.length + 1)) (s := 14) (s2 := 974) (c := 6) (N := 14) (tkX6_init (d := d + 1) (b := (1 + 148, 14 + 1873)) (4, oAl 4 1 0) (List.mem_of_getElem? (i := 2) rfl)) (tkX6_init (d := d + 1) (b := (1 + 148, 14 + 1873)) (5, oNew (1 + 148, 14 + 1873) 5 4 15) (List.mem_of_getElem? (i := 3) rfl)) (tkX6_init (d := d + 1) (b := (1 + 148, 14 + 1873)) (8, oDup 8) (List.mem_of_getElem? (i := 4) rfl)) (tkX6_init (d := d + 1) (b := (1 + 148, 14 + 1873)) (9, oCi l X (d + 1) (1 + 148, 14 + 1873) 9 uX4_init 4 4 945) (List.mem_of_getElem? (i := 5) rfl)) (tkX6_init (d := d + 1) (b := (1 + 148, 14 + 1873)) (12, oPR 12 6 0) (List.mem_of_getElem? (i := 6) rfl)) rfl rfl rfl rfl rfl (by unfold slf; decide +kernel) (by decide) rfl (by decide +kernel) (fun kr' h => sX4_init slf_new (by decide +kernel) h) kps_4 (by decide +kernel) (by decide) (by decide +kernel) (by decide +kernel) ?_
  rw [E1_eq]
  refine ch_new (D := E1) (D2 := cX3 (dA E1 3 0 20) (E1.length + 1)) (s := 974) (s2 := 1055) (c := 6) (N := 14) (tkX6_init (d := d + 1) (b := (1 + 148, 14 + 1873)) (15, oAl 15 1 0) (List.mem_of_getElem? (i := 7) rfl)) (tkX6_init (d := d + 1) (b := (1 + 148, 14 + 1873)) (16, oNew (1 + 148, 14 + 1873) 16 3 20) (List.mem_of_getElem? (i := 8) rfl)) (tkX6_init (d := d + 1) (b := (1 + 148, 14 + 1873)) (19, oDup 19) (List.mem_of_getElem? (i := 9) rfl)) (tkX6_init (d := d + 1) (b := (1 + 148, 14 + 1873)) (20, oCi l X (d + 1) (1 + 148, 14 + 1873) 20 uX3_init 3 12 61) (List.mem_of_getElem? (i := 10) rfl)) (tkX6_init (d := d + 1) (b := (1 + 148, 14 + 1873)) (23, oPR 23 6 1) (List.mem_of_getElem? (i := 11) rfl)) rfl rfl rfl rfl rfl (by unfold slf; decide +kernel) (by decide) rfl (by decide +kernel) (fun kr' h => sX3_init slf_new (by decide +kernel) h) kps_3 (by decide +kernel) (by decide) (by decide +kernel) (by decide +kernel) ?_
  rw [E2_eq]
  refine ch_new (D := E2) (D2 := cX3 (dA E2 3 0 20) (E2.length + 1)) (s := 1055) (s2 := 1136) (c := 6) (N := 14) (tkX6_init (d := d + 1) (b := (1 + 148, 14 + 1873)) (26, oAl 26 1 0) (List.mem_of_getElem? (i := 12) rfl)) (tkX6_init (d := d + 1) (b := (1 + 148, 14 + 1873)) (27, oNew (1 + 148, 14 + 1873) 27 3 20) (List.mem_of_getElem? (i := 13) rfl)) (tkX6_init (d := d + 1) (b := (1 + 148, 14 + 1873)) (30, oDup 30) (List.mem_of_getElem? (i := 14) rfl)) (tkX6_init (d := d + 1) (b := (1 + 148, 14 + 1873)) (31, oCi l X (d + 1) (1 + 148, 14 + 1873) 31 uX3_init 3 12 61) (List.mem_of_getElem? (i := 15) rfl)) (tkX6_init (d := d + 1) (b := (1 + 148, 14 + 1873)) (34, oPR 34 6 2) (List.mem_of_getElem? (i := 16) rfl)) rfl rfl rfl rfl rfl (by unfold slf; decide +kernel) (by decide) rfl (by decide +kernel) (fun kr' h => sX3_init slf_new (by decide +kernel) h) kps_3 (by decide +kernel) (by decide) (by decide +kernel) (by decide +kernel) ?_
  rw [E3_eq]
  refine ch_new (D := E3) (D2 := cX2 (dA E3 2 0 6) (E3.length + 1)) (s := 1136) (s2 := 1165) (c := 6) (N := 14) (tkX6_init (d := d + 1) (b := (1 + 148, 14 + 1873)) (37, oAl 37 1 0) (List.mem_of_getElem? (i := 17) rfl)) (tkX6_init (d := d + 1) (b := (1 + 148, 14 + 1873)) (38, oNew (1 + 148, 14 + 1873) 38 2 6) (List.mem_of_getElem? (i := 18) rfl)) (tkX6_init (d := d + 1) (b := (1 + 148, 14 + 1873)) (41, oDup 41) (List.mem_of_getElem? (i := 19) rfl)) (tkX6_init (d := d + 1) (b := (1 + 148, 14 + 1873)) (42, oCi l X (d + 1) (1 + 148, 14 + 1873) 42 uX2_init 2 4 23) (List.mem_of_getElem? (i := 20) rfl)) (tkX6_init (d := d + 1) (b := (1 + 148, 14 + 1873)) (45, oPR 45 6 3) (List.mem_of_getElem? (i := 21) rfl)) rfl rfl rfl rfl rfl (by unfold slf; decide +kernel) (by decide) rfl (by decide +kernel) (fun kr' h => sX2_init slf_new (by decide +kernel) h) kps_2 (by decide +kernel) (by decide) (by decide +kernel) (by decide +kernel) ?_
  rw [E4_eq]
  refine ch_mar (D := E4) (s := 1165) (c := 6) (N := 14) (tkX6_init (d := d + 1) (b := (1 + 148, 14 + 1873)) (48, oAl 48 1 0) (List.mem_of_getElem? (i := 22) rfl)) (tkX6_init (d := d + 1) (b := (1 + 148, 14 + 1873)) (49, oIc 49 2 16) (List.mem_of_getElem? (i := 23) rfl)) (tkX6_init (d := d + 1) (b := (1 + 148, 14 + 1873)) (51, oNq (1 + 148, 14 + 1873) 51 16 16) (List.mem_of_getElem? (i := 24) rfl)) (tkX6_init (d := d + 1) (b := (1 + 148, 14 + 1873)) (54, oPR 54 6 4) (List.mem_of_getElem? (i := 25) rfl)) rfl rfl rfl rfl (by unfold slf; decide +kernel) (by decide) rfl (by decide +kernel) (by decide +kernel) (by decide +kernel) ?_
  rw [E5_eq]
  show Wf l X uX6_init (d + 2) false (1 + 148, 14 + 1873) 57 [(0, .ref 1)] [] (mkD E5 1181 I00) kr
  refine ch_i0 (D := E5) (s := 1181) (c := 6) (N := 14) (tkX6_init (d := d + 1) (b := (1 + 148, 14 + 1873)) (57, oAl 57 1 0) (List.mem_of_getElem? (i := 26) rfl)) (tkX6_init (d := d + 1) (b := (1 + 148, 14 + 1873)) (58, oIc 58 1 0) (List.mem_of_getElem? (i := 27) rfl)) (tkX6_init (d := d + 1) (b := (1 + 148, 14 + 1873)) (59, oPI 59 6 5) (List.mem_of_getElem? (i := 28) rfl)) rfl rfl rfl (by unfold slf; decide +kernel) rfl ?_
  refine ch_i0 (D := E5) (s := 1181) (c := 6) (N := 14) (tkX6_init (d := d + 1) (b := (1 + 148, 14 + 1873)) (62, oAl 62 1 0) (List.mem_of_getElem? (i := 29) rfl)) (tkX6_init (d := d + 1) (b := (1 + 148, 14 + 1873)) (63, oIc 63 1 0) (List.mem_of_getElem? (i := 30) rfl)) (tkX6_init (d := d + 1) (b := (1 + 148, 14 + 1873)) (64, oPI 64 6 6) (List.mem_of_getElem? (i := 31) rfl)) rfl rfl rfl (by unfold slf; decide +kernel) rfl ?_
  refine ch_mar (D := E5) (s := 1181) (c := 6) (N := 14) (tkX6_init (d := d + 1) (b := (1 + 148, 14 + 1873)) (67, oAl 67 1 0) (List.mem_of_getElem? (i := 32) rfl)) (tkX6_init (d := d + 1) (b := (1 + 148, 14 + 1873)) (68, oIc 68 1 3) (List.mem_of_getElem? (i := 33) rfl)) (tkX6_init (d := d + 1) (b := (1 + 148, 14 + 1873)) (69, oNq (1 + 148, 14 + 1873) 69 3 3) (List.mem_of_getElem? (i := 34) rfl)) (tkX6_init (d := d + 1) (b := (1 + 148, 14 + 1873)) (72, oPR 72 6 7) (List.mem_of_getElem? (i := 35) rfl)) rfl rfl rfl rfl (by unfold slf; decide +kernel) (by decide) rfl (by decide +kernel) (by decide +kernel) (by decide +kernel) ?_
  rw [E6_eq]
  show Wf l X uX6_init (d + 2) false (1 + 148, 14 + 1873) 75 [(0, .ref 1)] [] (mkD E6 1184 I00) kr
  refine ch_i0 (D := E6) (s := 1184) (c := 6) (N := 14) (tkX6_init (d := d + 1) (b := (1 + 148, 14 + 1873)) (75, oAl 75 1 0) (List.mem_of_getElem? (i := 36) rfl)) (tkX6_init (d := d + 1) (b := (1 + 148, 14 + 1873)) (76, oIc 76 1 0) (List.mem_of_getElem? (i := 37) rfl)) (tkX6_init (d := d + 1) (b := (1 + 148, 14 + 1873)) (77, oPI 77 6 8) (List.mem_of_getElem? (i := 38) rfl)) rfl rfl rfl (by unfold slf; decide +kernel) rfl ?_
  refine ch_new (D := E6) (D2 := cX0 (dA E6 0 0 8) (E6.length + 1)) (s := 1184) (s2 := 1192) (c := 6) (N := 14) (tkX6_init (d := d + 1) (b := (1 + 148, 14 + 1873)) (80, oAl 80 1 0) (List.mem_of_getElem? (i := 39) rfl)) (tkX6_init (d := d + 1) (b := (1 + 148, 14 + 1873)) (81, oNew (1 + 148, 14 + 1873) 81 0 8) (List.mem_of_getElem? (i := 40) rfl)) (tkX6_init (d := d + 1) (b := (1 + 148, 14 + 1873)) (84, oDup 84) (List.mem_of_getElem? (i := 41) rfl)) (tkX6_init (d := d + 1) (b := (1 + 148, 14 + 1873)) (85, oCi l X (d + 1) (1 + 148, 14 + 1873) 85 uX0_init 0 0 0) (List.mem_of_getElem? (i := 42) rfl)) (tkX6_init (d := d + 1) (b := (1 + 148, 14 + 1873)) (88, oPR 88 6 9) (List.mem_of_getElem? (i := 43) rfl)) rfl rfl rfl rfl rfl (by unfold slf; decide +kernel) (by decide) rfl (by decide +kernel) (fun kr' h => sX0_init slf_new (by decide +kernel) h) kps_0 (by decide +kernel) (by decide) (by decide +kernel) (by decide +kernel) ?_
  rw [E7_eq]
  refine ch_new (D := E7) (D2 := cX5 (dA E7 5 0 2) (E7.length + 1)) (s := 1192) (s2 := 1214) (c := 6) (N := 14) (tkX6_init (d := d + 1) (b := (1 + 148, 14 + 1873)) (91, oAl 91 1 0) (List.mem_of_getElem? (i := 44) rfl)) (tkX6_init (d := d + 1) (b := (1 + 148, 14 + 1873)) (92, oNew (1 + 148, 14 + 1873) 92 5 2) (List.mem_of_getElem? (i := 45) rfl)) (tkX6_init (d := d + 1) (b := (1 + 148, 14 + 1873)) (95, oDup 95) (List.mem_of_getElem? (i := 46) rfl)) (tkX6_init (d := d + 1) (b := (1 + 148, 14 + 1873)) (96, oCi l X (d + 1) (1 + 148, 14 + 1873) 96 uX5_init 5 1 20) (List.mem_of_getElem? (i := 47) rfl)) (tkX6_init (d := d + 1) (b := (1 + 148, 14 + 1873)) (99, oPR 99 6 10) (List.mem_of_getElem? (i := 48) rfl)) rfl rfl rfl rfl rfl (by unfold slf; decide +kernel) (by decide) rfl (by decide +kernel) (fun kr' h => sX5_init slf_new (by decide +kernel) h) kps_5 (by decide +kernel) (by decide) (by decide +kernel) (by decide +kernel) ?_
  rw [E8_eq]
  refine ch_new (D := E8) (D2 := cX1 (dA E8 1 0 9) (E8.length + 1)) (s := 1214) (s2 := 1275) (c := 6) (N := 14) (tkX6_init (d := d + 1) (b := (1 + 148, 14 + 1873)) (102, oAl 102 1 0) (List.mem_of_getElem? (i := 49) rfl)) (tkX6_init (d := d + 1) (b := (1 + 148, 14 + 1873)) (103, oNew (1 + 148, 14 + 1873) 103 1 9) (List.mem_of_getElem? (i := 50) rfl)) (tkX6_init (d := d + 1) (b := (1 + 148, 14 + 1873)) (106, oDup 106) (List.mem_of_getElem? (i := 51) rfl)) (tkX6_init (d := d + 1) (b := (1 + 148, 14 + 1873)) (107, oCi l X (d + 1) (1 + 148, 14 + 1873) 107 uX1_init 1 10 52) (List.mem_of_getElem? (i := 52) rfl)) (tkX6_init (d := d + 1) (b := (1 + 148, 14 + 1873)) (110, oPR 110 6 11) (List.mem_of_getElem? (i := 53) rfl)) rfl rfl rfl rfl rfl (by unfold slf; decide +kernel) (by decide) rfl (by decide +kernel) (fun kr' h => sX1_init slf_new (by decide +kernel) h) kps_1 (by decide +kernel) (by decide) (by decide +kernel) (by decide +kernel) ?_
  rw [E9_eq]
  refine ch_arr (D := E9) (s := 1275) (c := 6) (N := 14) (tkX6_init (d := d + 1) (b := (1 + 148, 14 + 1873)) (113, oAl 113 1 0) (List.mem_of_getElem? (i := 54) rfl)) (tkX6_init (d := d + 1) (b := (1 + 148, 14 + 1873)) (114, oIc 114 2 61) (List.mem_of_getElem? (i := 55) rfl)) (tkX6_init (d := d + 1) (b := (1 + 148, 14 + 1873)) (116, oNa (1 + 148, 14 + 1873) 116 9 61 61) (List.mem_of_getElem? (i := 56) rfl)) (tkX6_init (d := d + 1) (b := (1 + 148, 14 + 1873)) (118, oPR 118 6 12) (List.mem_of_getElem? (i := 57) rfl)) rfl rfl rfl rfl (fun _ => rfl) (by unfold slf; decide +kernel) (by decide) rfl (by decide +kernel) (by decide +kernel) (by decide +kernel) ?_
  rw [E10_eq]
  show Wf l X uX6_init (d + 2) false (1 + 148, 14 + 1873) 121 [(0, .ref 1)] [] (mkD E10 1336 I00) kr
  refine ch_i0 (D := E10) (s := 1336) (c := 6) (N := 14) (tkX6_init (d := d + 1) (b := (1 + 148, 14 + 1873)) (121, oAl 121 1 0) (List.mem_of_getElem? (i := 58) rfl)) (tkX6_init (d := d + 1) (b := (1 + 148, 14 + 1873)) (122, oIc 122 1 0) (List.mem_of_getElem? (i := 59) rfl)) (tkX6_init (d := d + 1) (b := (1 + 148, 14 + 1873)) (123, oPI 123 6 13) (List.mem_of_getElem? (i := 60) rfl)) rfl rfl rfl (by unfold slf; decide +kernel) rfl ?_
  refine OK.go (tkX6_init (d := d + 1) (b := (1 + 148, 14 + 1873)) (126, oIc 126 1 0) (List.mem_of_getElem? (i := 61) rfl)) ?_
  refine OK.go (tkX6_init (d := d + 1) (b := (1 + 148, 14 + 1873)) (127, oIs 127 1 1) (List.mem_of_getElem? (i := 62) rfl)) ?_
  show Wf l X uX6_init (d + 2) false (1 + 148, 14 + 1873) 128 [(0, .ref 1), (1, .int (nI 0))] [] (mkD E10 1336 I00) kr
  refine lp_mom (a := 1) (K := 38) (N := 14) (E := 16) (f := 4) (d := d) (tkX6_init (d := d + 1) (b := (1 + 148, 14 + 1873)) (128, oIl 128 1 1) (List.mem_of_getElem? (i := 63) rfl)) (tkX6_init (d := d + 1) (b := (1 + 148, 14 + 1873)) (129, oIc 129 2 16) (List.mem_of_getElem? (i := 64) rfl)) (tkX6_init (d := d + 1) (b := (1 + 148, 14 + 1873)) (131, oCm 131 153 (fun x y => y ≤ x) (fun x y => ¬ y ≤ x)) (List.mem_of_getElem? (i := 65) rfl)) (tkX6_init (d := d + 1) (b := (1 + 148, 14 + 1873)) (134, oAl 134 1 0) (List.mem_of_getElem? (i := 66) rfl)) (tkX6_init (d := d + 1) (b := (1 + 148, 14 + 1873)) (135, oG 135 6 4 2) (List.mem_of_getElem? (i := 67) rfl)) (tkX6_init (d := d + 1) (b := (1 + 148, 14 + 1873)) (138, oIl 138 1 1) (List.mem_of_getElem? (i := 68) rfl)) (tkX6_init (d := d + 1) (b := (1 + 148, 14 + 1873)) (139, oNew (1 + 148, 14 + 1873) 139 2 6) (List.mem_of_getElem? (i := 69) rfl)) (tkX6_init (d := d + 1) (b := (1 + 148, 14 + 1873)) (142, oDup 142) (List.mem_of_getElem? (i := 70) rfl)) (tkX6_init (d := d + 1) (b := (1 + 148, 14 + 1873)) (143, oCi l X (d + 1) (1 + 148, 14 + 1873) 143 uX2_init 2 4 23) (List.mem_of_getElem? (i := 71) rfl)) (tkX6_init (d := d + 1) (b := (1 + 148, 14 + 1873)) (146, oAas 146) (List.mem_of_getElem? (i := 72) rfl)) (tkX6_init (d := d + 1) (b := (1 + 148, 14 + 1873)) (147, oInc 147 1 1) (List.mem_of_getElem? (i := 73) rfl)) (tkX6_init (d := d + 1) (b := (1 + 148, 14 + 1873)) (150, oGo 128) (List.mem_of_getElem? (i := 74) rfl)) rfl rfl rfl rfl rfl rfl rfl rfl rfl rfl rfl (by decide) (by decide) 16 0 E10 1336 rfl (by unfold slf; decide +kernel) (by unfold sl4; decide +kernel) (by decide +kernel) (by decide +kernel) (by decide +kernel) (by decide +kernel) ?_
  rw [lpD_128]
  show Wf l X uX6_init (d + 2) false (1 + 148, 14 + 1873) 153 [(0, .ref 1), (1, .int (nI 16))] [] (mkD E26 1800 I00) kr
  refine OK.go (tkX6_init (d := d + 1) (b := (1 + 148, 14 + 1873)) (153, oIc 153 1 0) (List.mem_of_getElem? (i := 75) rfl)) ?_
  refine OK.go (tkX6_init (d := d + 1) (b := (1 + 148, 14 + 1873)) (154, oIs 154 1 1) (List.mem_of_getElem? (i := 76) rfl)) ?_
  show Wf l X uX6_init (d + 2) false (1 + 148, 14 + 1873) 155 [(0, .ref 1), (1, .int (nI 0))] [] (mkD E26 1800 I00) kr
  refine lp_mom (a := 1) (K := 39) (N := 14) (E := 3) (f := 7) (d := d) (tkX6_init (d := d + 1) (b := (1 + 148, 14 + 1873)) (155, oIl 155 1 1) (List.mem_of_getElem? (i := 77) rfl)) (tkX6_init (d := d + 1) (b := (1 + 148, 14 + 1873)) (156, oIc 156 1 3) (List.mem_of_getElem? (i := 78) rfl)) (tkX6_init (d := d + 1) (b := (1 + 148, 14 + 1873)) (157, oCm 157 179 (fun x y => y ≤ x) (fun x y => ¬ y ≤ x)) (List.mem_of_getElem? (i := 79) rfl)) (tkX6_init (d := d + 1) (b := (1 + 148, 14 + 1873)) (160, oAl 160 1 0) (List.mem_of_getElem? (i := 80) rfl)) (tkX6_init (d := d + 1) (b := (1 + 148, 14 + 1873)) (161, oG 161 6 7 2) (List.mem_of_getElem? (i := 81) rfl)) (tkX6_init (d := d + 1) (b := (1 + 148, 14 + 1873)) (164, oIl 164 1 1) (List.mem_of_getElem? (i := 82) rfl)) (tkX6_init (d := d + 1) (b := (1 + 148, 14 + 1873)) (165, oNew (1 + 148, 14 + 1873) 165 2 6) (List.mem_of_getElem? (i := 83) rfl)) (tkX6_init (d := d + 1) (b := (1 + 148, 14 + 1873)) (168, oDup 168) (List.mem_of_getElem? (i := 84) rfl)) (tkX6_init (d := d + 1) (b := (1 + 148, 14 + 1873)) (169, oCi l X (d + 1) (1 + 148, 14 + 1873) 169 uX2_init 2 4 23) (List.mem_of_getElem? (i := 85) rfl)) (tkX6_init (d := d + 1) (b := (1 + 148, 14 + 1873)) (172, oAas 172) (List.mem_of_getElem? (i := 86) rfl)) (tkX6_init (d := d + 1) (b := (1 + 148, 14 + 1873)) (173, oInc 173 1 1) (List.mem_of_getElem? (i := 87) rfl)) (tkX6_init (d := d + 1) (b := (1 + 148, 14 + 1873)) (176, oGo 155) (List.mem_of_getElem? (i := 88) rfl)) rfl rfl rfl rfl rfl rfl rfl rfl rfl rfl rfl (by decide) (by decide) 3 0 E26 1800 rfl (by unfold slf; decide +kernel) (by unfold sl4; decide +kernel) (by decide +kernel) (by decide +kernel) (by decide +kernel) (by decide +kernel) ?_
  rw [lpD_155]
  show Wf l X uX6_init (d + 2) false (1 + 148, 14 + 1873) 179 [(0, .ref 1), (1, .int (nI 3))] [] (mkD E29 1887 I00) kr
  refine OK.go (tkX6_init (d := d + 1) (b := (1 + 148, 14 + 1873)) (179, oVr) (List.mem_of_getElem? (i := 89) rfl)) ?_
  exact h
noncomputable def G0 : Dl := [(6, 0, [2, 7, 20, 33, 38, 0, 0, 39, 0, 40, 41, 43, 54, 0]), (4, 0, [3, 0, 0, 0, 0, 0, 0, 0, 0, 4, 5, 6, 0, 0, 0]), (8, 900, []), (10, 15, []), (9, 15, []), (9, 15, []), (3, 0, [0, 0, 0, 0, 0, 8, 9, 10, 11, 12, 0, 13, 14, 15, 0, 16, 17, 0, 18, 19]), (9, 6, []), (9, 6, []), (9, 6, []), (9, 6, []), (9, 6, []), (9, 5, []), (9, 5, []), (9, 5, []), (9, 4, []), (9, 4, []), (9, 4, []), (9, 4, []), (3, 0, [0, 0, 0, 0, 0, 21, 22, 23, 24, 25, 0, 26, 27, 28, 0, 29, 30, 0, 31, 32]), (9, 6, []), (9, 6, []), (9, 6, []), (9, 6, []), (9, 6, []), (9, 5, []), (9, 5, []), (9, 5, []), (9, 4, []), (9, 4, []), (9, 4, []), (9, 4, []), (2, 0, [34, 35, 36, 37, 0, 0]), (9, 6, []), (9, 6, []), (9, 6, []), (9, 5, []), (11, 16, [55, 60, 65, 70, 75, 80, 85, 90, 95, 100, 105, 110, 115, 120, 125, 130]), (11, 3, [135, 140, 145]), (0, 0, [0, 0, 0, 0, 0, 0, 0, 0]), (5, 0, [42, 0]), (9, 20, []), (1, 0, [44, 51, 52, 53, 0, 0, 0, 0, 0]), (12, 6, [45, 46, 47, 48, 49, 50]), (9, 5, []), (9, 5, []), (9, 5, []), (9, 5, []), (9, 5, []), (9, 5, []), (9, 6, []), (9, 5, []), (9, 5, []), (9, 61, []), (2, 0, [56, 57, 58, 59, 0, 0]), (9, 6, []), (9, 6, []), (9, 6, []), (9, 5, []), (2, 0, [61, 62, 63, 64, 0, 0]), (9, 6, []), (9, 6, []), (9, 6, []), (9, 5, []), (2, 0, [66, 67, 68, 69, 0, 0]), (9, 6, []), (9, 6, []), (9, 6, []), (9, 5, []), (2, 0, [71, 72, 73, 74, 0, 0]), (9, 6, []), (9, 6, []), (9, 6, []), (9, 5, []), (2, 0, [76, 77, 78, 79, 0, 0]), (9, 6, []), (9, 6, []), (9, 6, []), (9, 5, []), (2, 0, [81, 82, 83, 84, 0, 0]), (9, 6, []), (9, 6, []), (9, 6, []), (9, 5, []), (2, 0, [86, 87, 88, 89, 0, 0]), (9, 6, []), (9, 6, []), (9, 6, []), (9, 5, []), (2, 0, [91, 92, 93, 94, 0, 0]), (9, 6, []), (9, 6, []), (9, 6, []), (9, 5, []), (2, 0, [96, 97, 98, 99, 0, 0]), (9, 6, []), (9, 6, []), (9, 6, []), (9, 5, []), (2, 0, [101, 102, 103, 104, 0, 0]), (9, 6, []), (9, 6, []), (9, 6, []), (9, 5, []), (2, 0, [106, 107, 108, 109, 0, 0]), (9, 6, []), (9, 6, []), (9, 6, []), (9, 5, []), (2, 0, [111, 112, 113, 114, 0, 0]), (9, 6, []), (9, 6, []), (9, 6, []), (9, 5, []), (2, 0, [116, 117, 118, 119, 0, 0]), (9, 6, []), (9, 6, []), (9, 6, []), (9, 5, []), (2, 0, [121, 122, 123, 124, 0, 0]), (9, 6, []), (9, 6, []), (9, 6, []), (9, 5, []), (2, 0, [126, 127, 128, 129, 0, 0]), (9, 6, []), (9, 6, []), (9, 6, []), (9, 5, []), (2, 0, [131, 132, 133, 134, 0, 0]), (9, 6, []), (9, 6, []), (9, 6, []), (9, 5, []), (2, 0, [136, 137, 138, 139, 0, 0]), (9, 6, []), (9, 6, []), (9, 6, []), (9, 5, []), (2, 0, [141, 142, 143, 144, 0, 0]), (9, 6, []), (9, 6, []), (9, 6, []), (9, 5, []), (2, 0, [146, 147, 148, 149, 0, 0]), (9, 6, []), (9, 6, []), (9, 6, []), (9, 5, []), (7, 0, [0, 0, 0, 0, 0, 0, 0, 0, 0, 0, 0, 0, 0, 0, 0, 0, 0, 0, 0, 0, 0, 0, 0, 0, 0, 0, 0, 0, 0, 0, 0, 0, 0, 0, 0, 0, 0, 0, 0, 0, 0, 0, 0, 0])]
theorem G0_eq : dA E29 7 0 44 = G0 := by decide +kernel
noncomputable def G1 : Dl := [(6, 0, [2, 7, 20, 33, 38, 0, 0, 39, 0, 40, 41, 43, 54, 0]), (4, 0, [3, 0, 0, 0, 0, 0, 0, 0, 0, 4, 5, 6, 0, 0, 0]), (8, 900, []), (10, 15, []), (9, 15, []), (9, 15, []), (3, 0, [0, 0, 0, 0, 0, 8, 9, 10, 11, 12, 0, 13, 14, 15, 0, 16, 17, 0, 18, 19]), (9, 6, []), (9, 6, []), (9, 6, []), (9, 6, []), (9, 6, []), (9, 5, []), (9, 5, []), (9, 5, []), (9, 4, []), (9, 4, []), (9, 4, []), (9, 4, []), (3, 0, [0, 0, 0, 0, 0, 21, 22, 23, 24, 25, 0, 26, 27, 28, 0, 29, 30, 0, 31, 32]), (9, 6, []), (9, 6, []), (9, 6, []), (9, 6, []), (9, 6, []), (9, 5, []), (9, 5, []), (9, 5, []), (9, 4, []), (9, 4, []), (9, 4, []), (9, 4, []), (2, 0, [34, 35, 36, 37, 0, 0]), (9, 6, []), (9, 6, []), (9, 6, []), (9, 5, []), (11, 16, [55, 60, 65, 70, 75, 80, 85, 90, 95, 100, 105, 110, 115, 120, 125, 130]), (11, 3, [135, 140, 145]), (0, 0, [0, 0, 0, 0, 0, 0, 0, 0]), (5, 0, [42, 0]), (9, 20, []), (1, 0, [44, 51, 52, 53, 0, 0, 0, 0, 0]), (12, 6, [45, 46, 47, 48, 49, 50]), (9, 5, []), (9, 5, []), (9, 5, []), (9, 5, []), (9, 5, []), (9, 5, []), (9, 6, []), (9, 5, []), (9, 5, []), (9, 61, []), (2, 0, [56, 57, 58, 59, 0, 0]), (9, 6, []), (9, 6, []), (9, 6, []), (9, 5, []), (2, 0, [61, 62, 63, 64, 0, 0]), (9, 6, []), (9, 6, []), (9, 6, []), (9, 5, []), (2, 0, [66, 67, 68, 69, 0, 0]), (9, 6, []), (9, 6, []), (9, 6, []), (9, 5, []), (2, 0, [71, 72, 73, 74, 0, 0]), (9, 6, []), (9, 6, []), (9, 6, []), (9, 5, []), (2, 0, [76, 77, 78, 79, 0, 0]), (9, 6, []), (9, 6, []), (9, 6, []), (9, 5, []), (2, 0, [81, 82, 83, 84, 0, 0]), (9, 6, []), (9, 6, []), (9, 6, []), (9, 5, []), (2, 0, [86, 87, 88, 89, 0, 0]), (9, 6, []), (9, 6, []), (9, 6, []), (9, 5, []), (2, 0, [91, 92, 93, 94, 0, 0]), (9, 6, []), (9, 6, []), (9, 6, []), (9, 5, []), (2, 0, [96, 97, 98, 99, 0, 0]), (9, 6, []), (9, 6, []), (9, 6, []), (9, 5, []), (2, 0, [101, 102, 103, 104, 0, 0]), (9, 6, []), (9, 6, []), (9, 6, []), (9, 5, []), (2, 0, [106, 107, 108, 109, 0, 0]), (9, 6, []), (9, 6, []), (9, 6, []), (9, 5, []), (2, 0, [111, 112, 113, 114, 0, 0]), (9, 6, []), (9, 6, []), (9, 6, []), (9, 5, []), (2, 0, [116, 117, 118, 119, 0, 0]), (9, 6, []), (9, 6, []), (9, 6, []), (9, 5, []), (2, 0, [121, 122, 123, 124, 0, 0]), (9, 6, []), (9, 6, []), (9, 6, []), (9, 5, []), (2, 0, [126, 127, 128, 129, 0, 0]), (9, 6, []), (9, 6, []), (9, 6, []), (9, 5, []), (2, 0, [131, 132, 133, 134, 0, 0]), (9, 6, []), (9, 6, []), (9, 6, []), (9, 5, []), (2, 0, [136, 137, 138, 139, 0, 0]), (9, 6, []), (9, 6, []), (9, 6, []), (9, 5, []), (2, 0, [141, 142, 143, 144, 0, 0]), (9, 6, []), (9, 6, []), (9, 6, []), (9, 5, []), (2, 0, [146, 147, 148, 149, 0, 0]), (9, 6, []), (9, 6, []), (9, 6, []), (9, 5, []), (7, 0, [0, 151, 0, 0, 0, 0, 0, 0, 0, 0, 0, 0, 0, 0, 0, 0, 0, 0, 0, 0, 0, 0, 0, 0, 0, 0, 0, 0, 0, 0, 0, 0, 0, 0, 0, 0, 0, 0, 0, 0, 0, 0, 0, 0]), (9, 900, [])]
theorem G1_eq : fa G0 150 9 900 1 = G1 := by decide +kernel
noncomputable def G2 : Dl := [(6, 0, [2, 7, 20, 33, 38, 0, 0, 39, 0, 40, 41, 43, 54, 0]), (4, 0, [3, 0, 0, 0, 0, 0, 0, 0, 0, 4, 5, 6, 0, 0, 0]), (8, 900, []), (10, 15, []), (9, 15, []), (9, 15, []), (3, 0, [0, 0, 0, 0, 0, 8, 9, 10, 11, 12, 0, 13, 14, 15, 0, 16, 17, 0, 18, 19]), (9, 6, []), (9, 6, []), (9, 6, []), (9, 6, []), (9, 6, []), (9, 5, []), (9, 5, []), (9, 5, []), (9, 4, []), (9, 4, []), (9, 4, []), (9, 4, []), (3, 0, [0, 0, 0, 0, 0, 21, 22, 23, 24, 25, 0, 26, 27, 28, 0, 29, 30, 0, 31, 32]), (9, 6, []), (9, 6, []), (9, 6, []), (9, 6, []), (9, 6, []), (9, 5, []), (9, 5, []), (9, 5, []), (9, 4, []), (9, 4, []), (9, 4, []), (9, 4, []), (2, 0, [34, 35, 36, 37, 0, 0]), (9, 6, []), (9, 6, []), (9, 6, []), (9, 5, []), (11, 16, [55, 60, 65, 70, 75, 80, 85, 90, 95, 100, 105, 110, 115, 120, 125, 130]), (11, 3, [135, 140, 145]), (0, 0, [0, 0, 0, 0, 0, 0, 0, 0]), (5, 0, [42, 0]), (9, 20, []), (1, 0, [44, 51, 52, 53, 0, 0, 0, 0, 0]), (12, 6, [45, 46, 47, 48, 49, 50]), (9, 5, []), (9, 5, []), (9, 5, []), (9, 5, []), (9, 5, []), (9, 5, []), (9, 6, []), (9, 5, []), (9, 5, []), (9, 61, []), (2, 0, [56, 57, 58, 59, 0, 0]), (9, 6, []), (9, 6, []), (9, 6, []), (9, 5, []), (2, 0, [61, 62, 63, 64, 0, 0]), (9, 6, []), (9, 6, []), (9, 6, []), (9, 5, []), (2, 0, [66, 67, 68, 69, 0, 0]), (9, 6, []), (9, 6, []), (9, 6, []), (9, 5, []), (2, 0, [71, 72, 73, 74, 0, 0]), (9, 6, []), (9, 6, []), (9, 6, []), (9, 5, []), (2, 0, [76, 77, 78, 79, 0, 0]), (9, 6, []), (9, 6, []), (9, 6, []), (9, 5, []), (2, 0, [81, 82, 83, 84, 0, 0]), (9, 6, []), (9, 6, []), (9, 6, []), (9, 5, []), (2, 0, [86, 87, 88, 89, 0, 0]), (9, 6, []), (9, 6, []), (9, 6, []), (9, 5, []), (2, 0, [91, 92, 93, 94, 0, 0]), (9, 6, []), (9, 6, []), (9, 6, []), (9, 5, []), (2, 0, [96, 97, 98, 99, 0, 0]), (9, 6, []), (9, 6, []), (9, 6, []), (9, 5, []), (2, 0, [101, 102, 103, 104, 0, 0]), (9, 6, []), (9, 6, []), (9, 6, []), (9, 5, []), (2, 0, [106, 107, 108, 109, 0, 0]), (9, 6, []), (9, 6, []), (9, 6, []), (9, 5, []), (2, 0, [111, 112, 113, 114, 0, 0]), (9, 6, []), (9, 6, []), (9, 6, []), (9, 5, []), (2, 0, [116, 117, 118, 119, 0, 0]), (9, 6, []), (9, 6, []), (9, 6, []), (9, 5, []), (2, 0, [121, 122, 123, 124, 0, 0]), (9, 6, []), (9, 6, []), (9, 6, []), (9, 5, []), (2, 0, [126, 127, 128, 129, 0, 0]), (9, 6, []), (9, 6, []), (9, 6, []), (9, 5, []), (2, 0, [131, 132, 133, 134, 0, 0]), (9, 6, []), (9, 6, []), (9, 6, []), (9, 5, []), (2, 0, [136, 137, 138, 139, 0, 0]), (9, 6, []), (9, 6, []), (9, 6, []), (9, 5, []), (2, 0, [141, 142, 143, 144, 0, 0]), (9, 6, []), (9, 6, []), (9, 6, []), (9, 5, []), (2, 0, [146, 147, 148, 149, 0, 0]), (9, 6, []), (9, 6, []), (9, 6, []), (9, 5, []), (7, 0, [0, 151, 0, 0, 0, 0, 0, 0, 0, 0, 0, 0, 152, 0, 0, 0, 0, 0, 0, 0, 0, 0, 0, 0, 0, 0, 0, 0, 0, 0, 0, 0, 0, 0, 0, 0, 0, 0, 0, 0, 0, 0, 0, 0]), (9, 900, []), (9, 8, [])]
theorem G2_eq : fa G1 150 9 8 12 = G2 := by decide +kernel
noncomputable def G3 : Dl := [(6, 0, [2, 7, 20, 33, 38, 0, 0, 39, 0, 40, 41, 43, 54, 0]), (4, 0, [3, 0, 0, 0, 0, 0, 0, 0, 0, 4, 5, 6, 0, 0, 0]), (8, 900, []), (10, 15, []), (9, 15, []), (9, 15, []), (3, 0, [0, 0, 0, 0, 0, 8, 9, 10, 11, 12, 0, 13, 14, 15, 0, 16, 17, 0, 18, 19]), (9, 6, []), (9, 6, []), (9, 6, []), (9, 6, []), (9, 6, []), (9, 5, []), (9, 5, []), (9, 5, []), (9, 4, []), (9, 4, []), (9, 4, []), (9, 4, []), (3, 0, [0, 0, 0, 0, 0, 21, 22, 23, 24, 25, 0, 26, 27, 28, 0, 29, 30, 0, 31, 32]), (9, 6, []), (9, 6, []), (9, 6, []), (9, 6, []), (9, 6, []), (9, 5, []), (9, 5, []), (9, 5, []), (9, 4, []), (9, 4, []), (9, 4, []), (9, 4, []), (2, 0, [34, 35, 36, 37, 0, 0]), (9, 6, []), (9, 6, []), (9, 6, []), (9, 5, []), (11, 16, [55, 60, 65, 70, 75, 80, 85, 90, 95, 100, 105, 110, 115, 120, 125, 130]), (11, 3, [135, 140, 145]), (0, 0, [0, 0, 0, 0, 0, 0, 0, 0]), (5, 0, [42, 0]), (9, 20, []), (1, 0, [44, 51, 52, 53, 0, 0, 0, 0, 0]), (12, 6, [45, 46, 47, 48, 49, 50]), (9, 5, []), (9, 5, []), (9, 5, []), (9, 5, []), (9, 5, []), (9, 5, []), (9, 6, []), (9, 5, []), (9, 5, []), (9, 61, []), (2, 0, [56, 57, 58, 59, 0, 0]), (9, 6, []), (9, 6, []), (9, 6, []), (9, 5, []), (2, 0, [61, 62, 63, 64, 0, 0]), (9, 6, []), (9, 6, []), (9, 6, []), (9, 5, []), (2, 0, [66, 67, 68, 69, 0, 0]), (9, 6, []), (9, 6, []), (9, 6, []), (9, 5, []), (2, 0, [71, 72, 73, 74, 0, 0]), (9, 6, []), (9, 6, []), (9, 6, []), (9, 5, []), (2, 0, [76, 77, 78, 79, 0, 0]), (9, 6, []), (9, 6, []), (9, 6, []), (9, 5, []), (2, 0, [81, 82, 83, 84, 0, 0]), (9, 6, []), (9, 6, []), (9, 6, []), (9, 5, []), (2, 0, [86, 87, 88, 89, 0, 0]), (9, 6, []), (9, 6, []), (9, 6, []), (9, 5, []), (2, 0, [91, 92, 93, 94, 0, 0]), (9, 6, []), (9, 6, []), (9, 6, []), (9, 5, []), (2, 0, [96, 97, 98, 99, 0, 0]), (9, 6, []), (9, 6, []), (9, 6, []), (9, 5, []), (2, 0, [101, 102, 103, 104, 0, 0]), (9, 6, []), (9, 6, []), (9, 6, []), (9, 5, []), (2, 0, [106, 107, 108, 109, 0, 0]), (9, 6, []), (9, 6, []), (9, 6, []), (9, 5, []), (2, 0, [111, 112, 113, 114, 0, 0]), (9, 6, []), (9, 6, []), (9, 6, []), (9, 5, []), (2, 0, [116, 117, 118, 119, 0, 0]), (9, 6, []), (9, 6, []), (9, 6, []), (9, 5, []), (2, 0, [121, 122, 123, 124, 0, 0]), (9, 6, []), (9, 6, []), (9, 6, []), (9, 5, []), (2, 0, [126, 127, 128, 129, 0, 0]), (9, 6, []), (9, 6, []), (9, 6, []), (9, 5, []), (2, 0, [131, 132, 133, 134, 0, 0]), (9, 6, []), (9, 6, []), (9, 6, []), (9, 5, []), (2, 0, [136, 137, 138, 139, 0, 0]), (9, 6, []), (9, 6, []), (9, 6, []), (9, 5, []), (2, 0, [141, 142, 143, 144, 0, 0]), (9, 6, []), (9, 6, []), (9, 6, []), (9, 5, []), (2, 0, [146, 147, 148, 149, 0, 0]), (9, 6, []), (9, 6, []), (9, 6, []), (9, 5, []), (7, 0, [0, 151, 0, 0, 0, 0, 0, 0, 0, 0, 0, 0, 152, 0, 0, 153, 0, 0, 0, 0, 0, 0, 0, 0, 0, 0, 0, 0, 0, 0, 0, 0, 0, 0, 0, 0, 0, 0, 0, 0, 0, 0, 0, 0]), (9, 900, []), (9, 8, []), (9, 202, [])]
theorem G3_eq : fa G2 150 9 202 15 = G3 := by decide +kernel
noncomputable def G4 : Dl := [(6, 0, [2, 7, 20, 33, 38, 0, 0, 39, 0, 40, 41, 43, 54, 0]), (4, 0, [3, 0, 0, 0, 0, 0, 0, 0, 0, 4, 5, 6, 0, 0, 0]), (8, 900, []), (10, 15, []), (9, 15, []), (9, 15, []), (3, 0, [0, 0, 0, 0, 0, 8, 9, 10, 11, 12, 0, 13, 14, 15, 0, 16, 17, 0, 18, 19]), (9, 6, []), (9, 6, []), (9, 6, []), (9, 6, []), (9, 6, []), (9, 5, []), (9, 5, []), (9, 5, []), (9, 4, []), (9, 4, []), (9, 4, []), (9, 4, []), (3, 0, [0, 0, 0, 0, 0, 21, 22, 23, 24, 25, 0, 26, 27, 28, 0, 29, 30, 0, 31, 32]), (9, 6, []), (9, 6, []), (9, 6, []), (9, 6, []), (9, 6, []), (9, 5, []), (9, 5, []), (9, 5, []), (9, 4, []), (9, 4, []), (9, 4, []), (9, 4, []), (2, 0, [34, 35, 36, 37, 0, 0]), (9, 6, []), (9, 6, []), (9, 6, []), (9, 5, []), (11, 16, [55, 60, 65, 70, 75, 80, 85, 90, 95, 100, 105, 110, 115, 120, 125, 130]), (11, 3, [135, 140, 145]), (0, 0, [0, 0, 0, 0, 0, 0, 0, 0]), (5, 0, [42, 0]), (9, 20, []), (1, 0, [44, 51, 52, 53, 0, 0, 0, 0, 0]), (12, 6, [45, 46, 47, 48, 49, 50]), (9, 5, []), (9, 5, []), (9, 5, []), (9, 5, []), (9, 5, []), (9, 5, []), (9, 6, []), (9, 5, []), (9, 5, []), (9, 61, []), (2, 0, [56, 57, 58, 59, 0, 0]), (9, 6, []), (9, 6, []), (9, 6, []), (9, 5, []), (2, 0, [61, 62, 63, 64, 0, 0]), (9, 6, []), (9, 6, []), (9, 6, []), (9, 5, []), (2, 0, [66, 67, 68, 69, 0, 0]), (9, 6, []), (9, 6, []), (9, 6, []), (9, 5, []), (2, 0, [71, 72, 73, 74, 0, 0]), (9, 6, []), (9, 6, []), (9, 6, []), (9, 5, []), (2, 0, [76, 77, 78, 79, 0, 0]), (9, 6, []), (9, 6, []), (9, 6, []), (9, 5, []), (2, 0, [81, 82, 83, 84, 0, 0]), (9, 6, []), (9, 6, []), (9, 6, []), (9, 5, []), (2, 0, [86, 87, 88, 89, 0, 0]), (9, 6, []), (9, 6, []), (9, 6, []), (9, 5, []), (2, 0, [91, 92, 93, 94, 0, 0]), (9, 6, []), (9, 6, []), (9, 6, []), (9, 5, []), (2, 0, [96, 97, 98, 99, 0, 0]), (9, 6, []), (9, 6, []), (9, 6, []), (9, 5, []), (2, 0, [101, 102, 103, 104, 0, 0]), (9, 6, []), (9, 6, []), (9, 6, []), (9, 5, []), (2, 0, [106, 107, 108, 109, 0, 0]), (9, 6, []), (9, 6, []), (9, 6, []), (9, 5, []), (2, 0, [111, 112, 113, 114, 0, 0]), (9, 6, []), (9, 6, []), (9, 6, []), (9, 5, []), (2, 0, [116, 117, 118, 119, 0, 0]), (9, 6, []), (9, 6, []), (9, 6, []), (9, 5, []), (2, 0, [121, 122, 123, 124, 0, 0]), (9, 6, []), (9, 6, []), (9, 6, []), (9, 5, []), (2, 0, [126, 127, 128, 129, 0, 0]), (9, 6, []), (9, 6, []), (9, 6, []), (9, 5, []), (2, 0, [131, 132, 133, 134, 0, 0]), (9, 6, []), (9, 6, []), (9, 6, []), (9, 5, []), (2, 0, [136, 137, 138, 139, 0, 0]), (9, 6, []), (9, 6, []), (9, 6, []), (9, 5, []), (2, 0, [141, 142, 143, 144, 0, 0]), (9, 6, []), (9, 6, []), (9, 6, []), (9, 5, []), (2, 0, [146, 147, 148, 149, 0, 0]), (9, 6, []), (9, 6, []), (9, 6, []), (9, 5, []), (7, 0, [0, 151, 0, 0, 0, 0, 0, 0, 0, 0, 0, 0, 152, 0, 0, 153, 154, 0, 0, 0, 0, 0, 0, 0, 0, 0, 0, 0, 0, 0, 0, 0, 0, 0, 0, 0, 0, 0, 0, 0, 0, 0, 0, 0]), (9, 900, []), (9, 8, []), (9, 202, []), (9, 202, [])]
theorem G4_eq : fa G3 150 9 202 16 = G4 := by decide +kernel
noncomputable def G5 : Dl := [(6, 0, [2, 7, 20, 33, 38, 0, 0, 39, 0, 40, 41, 43, 54, 0]), (4, 0, [3, 0, 0, 0, 0, 0, 0, 0, 0, 4, 5, 6, 0, 0, 0]), (8, 900, []), (10, 15, []), (9, 15, []), (9, 15, []), (3, 0, [0, 0, 0, 0, 0, 8, 9, 10, 11, 12, 0, 13, 14, 15, 0, 16, 17, 0, 18, 19]), (9, 6, []), (9, 6, []), (9, 6, []), (9, 6, []), (9, 6, []), (9, 5, []), (9, 5, []), (9, 5, []), (9, 4, []), (9, 4, []), (9, 4, []), (9, 4, []), (3, 0, [0, 0, 0, 0, 0, 21, 22, 23, 24, 25, 0, 26, 27, 28, 0, 29, 30, 0, 31, 32]), (9, 6, []), (9, 6, []), (9, 6, []), (9, 6, []), (9, 6, []), (9, 5, []), (9, 5, []), (9, 5, []), (9, 4, []), (9, 4, []), (9, 4, []), (9, 4, []), (2, 0, [34, 35, 36, 37, 0, 0]), (9, 6, []), (9, 6, []), (9, 6, []), (9, 5, []), (11, 16, [55, 60, 65, 70, 75, 80, 85, 90, 95, 100, 105, 110, 115, 120, 125, 130]), (11, 3, [135, 140, 145]), (0, 0, [0, 0, 0, 0, 0, 0, 0, 0]), (5, 0, [42, 0]), (9, 20, []), (1, 0, [44, 51, 52, 53, 0, 0, 0, 0, 0]), (12, 6, [45, 46, 47, 48, 49, 50]), (9, 5, []), (9, 5, []), (9, 5, []), (9, 5, []), (9, 5, []), (9, 5, []), (9, 6, []), (9, 5, []), (9, 5, []), (9, 61, []), (2, 0, [56, 57, 58, 59, 0, 0]), (9, 6, []), (9, 6, []), (9, 6, []), (9, 5, []), (2, 0, [61, 62, 63, 64, 0, 0]), (9, 6, []), (9, 6, []), (9, 6, []), (9, 5, []), (2, 0, [66, 67, 68, 69, 0, 0]), (9, 6, []), (9, 6, []), (9, 6, []), (9, 5, []), (2, 0, [71, 72, 73, 74, 0, 0]), (9, 6, []), (9, 6, []), (9, 6, []), (9, 5, []), (2, 0, [76, 77, 78, 79, 0, 0]), (9, 6, []), (9, 6, []), (9, 6, []), (9, 5, []), (2, 0, [81, 82, 83, 84, 0, 0]), (9, 6, []), (9, 6, []), (9, 6, []), (9, 5, []), (2, 0, [86, 87, 88, 89, 0, 0]), (9, 6, []), (9, 6, []), (9, 6, []), (9, 5, []), (2, 0, [91, 92, 93, 94, 0, 0]), (9, 6, []), (9, 6, []), (9, 6, []), (9, 5, []), (2, 0, [96, 97, 98, 99, 0, 0]), (9, 6, []), (9, 6, []), (9, 6, []), (9, 5, []), (2, 0, [101, 102, 103, 104, 0, 0]), (9, 6, []), (9, 6, []), (9, 6, []), (9, 5, []), (2, 0, [106, 107, 108, 109, 0, 0]), (9, 6, []), (9, 6, []), (9, 6, []), (9, 5, []), (2, 0, [111, 112, 113, 114, 0, 0]), (9, 6, []), (9, 6, []), (9, 6, []), (9, 5, []), (2, 0, [116, 117, 118, 119, 0, 0]), (9, 6, []), (9, 6, []), (9, 6, []), (9, 5, []), (2, 0, [121, 122, 123, 124, 0, 0]), (9, 6, []), (9, 6, []), (9, 6, []), (9, 5, []), (2, 0, [126, 127, 128, 129, 0, 0]), (9, 6, []), (9, 6, []), (9, 6, []), (9, 5, []), (2, 0, [131, 132, 133, 134, 0, 0]), (9, 6, []), (9, 6, []), (9, 6, []), (9, 5, []), (2, 0, [136, 137, 138, 139, 0, 0]), (9, 6, []), (9, 6, []), (9, 6, []), (9, 5, []), (2, 0, [141, 142, 143, 144, 0, 0]), (9, 6, []), (9, 6, []), (9, 6, []), (9, 5, []), (2, 0, [146, 147, 148, 149, 0, 0]), (9, 6, []), (9, 6, []), (9, 6, []), (9, 5, []), (7, 0, [0, 151, 0, 0, 0, 0, 0, 0, 0, 0, 0, 0, 152, 0, 0, 153, 154, 155, 0, 0, 0, 0, 0, 0, 0, 0, 0, 0, 0, 0, 0, 0, 0, 0, 0, 0, 0, 0, 0, 0, 0, 0, 0, 0]), (9, 900, []), (9, 8, []), (9, 202, []), (9, 202, []), (9, 25, [])]
theorem G5_eq : fa G4 150 9 25 17 = G5 := by decide +kernel
noncomputable def G6 : Dl := [(6, 0, [2, 7, 20, 33, 38, 0, 0, 39, 0, 40, 41, 43, 54, 0]), (4, 0, [3, 0, 0, 0, 0, 0, 0, 0, 0, 4, 5, 6, 0, 0, 0]), (8, 900, []), (10, 15, []), (9, 15, []), (9, 15, []), (3, 0, [0, 0, 0, 0, 0, 8, 9, 10, 11, 12, 0, 13, 14, 15, 0, 16, 17, 0, 18, 19]), (9, 6, []), (9, 6, []), (9, 6, []), (9, 6, []), (9, 6, []), (9, 5, []), (9, 5, []), (9, 5, []), (9, 4, []), (9, 4, []), (9, 4, []), (9, 4, []), (3, 0, [0, 0, 0, 0, 0, 21, 22, 23, 24, 25, 0, 26, 27, 28, 0, 29, 30, 0, 31, 32]), (9, 6, []), (9, 6, []), (9, 6, []), (9, 6, []), (9, 6, []), (9, 5, []), (9, 5, []), (9, 5, []), (9, 4, []), (9, 4, []), (9, 4, []), (9, 4, []), (2, 0, [34, 35, 36, 37, 0, 0]), (9, 6, []), (9, 6, []), (9, 6, []), (9, 5, []), (11, 16, [55, 60, 65, 70, 75, 80, 85, 90, 95, 100, 105, 110, 115, 120, 125, 130]), (11, 3, [135, 140, 145]), (0, 0, [0, 0, 0, 0, 0, 0, 0, 0]), (5, 0, [42, 0]), (9, 20, []), (1, 0, [44, 51, 52, 53, 0, 0, 0, 0, 0]), (12, 6, [45, 46, 47, 48, 49, 50]), (9, 5, []), (9, 5, []), (9, 5, []), (9, 5, []), (9, 5, []), (9, 5, []), (9, 6, []), (9, 5, []), (9, 5, []), (9, 61, []), (2, 0, [56, 57, 58, 59, 0, 0]), (9, 6, []), (9, 6, []), (9, 6, []), (9, 5, []), (2, 0, [61, 62, 63, 64, 0, 0]), (9, 6, []), (9, 6, []), (9, 6, []), (9, 5, []), (2, 0, [66, 67, 68, 69, 0, 0]), (9, 6, []), (9, 6, []), (9, 6, []), (9, 5, []), (2, 0, [71, 72, 73, 74, 0, 0]), (9, 6, []), (9, 6, []), (9, 6, []), (9, 5, []), (2, 0, [76, 77, 78, 79, 0, 0]), (9, 6, []), (9, 6, []), (9, 6, []), (9, 5, []), (2, 0, [81, 82, 83, 84, 0, 0]), (9, 6, []), (9, 6, []), (9, 6, []), (9, 5, []), (2, 0, [86, 87, 88, 89, 0, 0]), (9, 6, []), (9, 6, []), (9, 6, []), (9, 5, []), (2, 0, [91, 92, 93, 94, 0, 0]), (9, 6, []), (9, 6, []), (9, 6, []), (9, 5, []), (2, 0, [96, 97, 98, 99, 0, 0]), (9, 6, []), (9, 6, []), (9, 6, []), (9, 5, []), (2, 0, [101, 102, 103, 104, 0, 0]), (9, 6, []), (9, 6, []), (9, 6, []), (9, 5, []), (2, 0, [106, 107, 108, 109, 0, 0]), (9, 6, []), (9, 6, []), (9, 6, []), (9, 5, []), (2, 0, [111, 112, 113, 114, 0, 0]), (9, 6, []), (9, 6, []), (9, 6, []), (9, 5, []), (2, 0, [116, 117, 118, 119, 0, 0]), (9, 6, []), (9, 6, []), (9, 6, []), (9, 5, []), (2, 0, [121, 122, 123, 124, 0, 0]), (9, 6, []), (9, 6, []), (9, 6, []), (9, 5, []), (2, 0, [126, 127, 128, 129, 0, 0]), (9, 6, []), (9, 6, []), (9, 6, []), (9, 5, []), (2, 0, [131, 132, 133, 134, 0, 0]), (9, 6, []), (9, 6, []), (9, 6, []), (9, 5, []), (2, 0, [136, 137, 138, 139, 0, 0]), (9, 6, []), (9, 6, []), (9, 6, []), (9, 5, []), (2, 0, [141, 142, 143, 144, 0, 0]), (9, 6, []), (9, 6, []), (9, 6, []), (9, 5, []), (2, 0, [146, 147, 148, 149, 0, 0]), (9, 6, []), (9, 6, []), (9, 6, []), (9, 5, []), (7, 0, [0, 151, 0, 0, 0, 0, 0, 0, 0, 0, 0, 0, 152, 0, 0, 153, 154, 155, 156, 0, 0, 0, 0, 0, 0, 0, 0, 0, 0, 0, 0, 0, 0, 0, 0, 0, 0, 0, 0, 0, 0, 0, 0, 0]), (9, 900, []), (9, 8, []), (9, 202, []), (9, 202, []), (9, 25, []), (9, 25, [])]
theorem G6_eq : fa G5 150 9 25 18 = G6 := by decide +kernel
noncomputable def G7 : Dl := [(6, 0, [2, 7, 20, 33, 38, 0, 0, 39, 0, 40, 41, 43, 54, 0]), (4, 0, [3, 0, 0, 0, 0, 0, 0, 0, 0, 4, 5, 6, 0, 0, 0]), (8, 900, []), (10, 15, []), (9, 15, []), (9, 15, []), (3, 0, [0, 0, 0, 0, 0, 8, 9, 10, 11, 12, 0, 13, 14, 15, 0, 16, 17, 0, 18, 19]), (9, 6, []), (9, 6, []), (9, 6, []), (9, 6, []), (9, 6, []), (9, 5, []), (9, 5, []), (9, 5, []), (9, 4, []), (9, 4, []), (9, 4, []), (9, 4, []), (3, 0, [0, 0, 0, 0, 0, 21, 22, 23, 24, 25, 0, 26, 27, 28, 0, 29, 30, 0, 31, 32]), (9, 6, []), (9, 6, []), (9, 6, []), (9, 6, []), (9, 6, []), (9, 5, []), (9, 5, []), (9, 5, []), (9, 4, []), (9, 4, []), (9, 4, []), (9, 4, []), (2, 0, [34, 35, 36, 37, 0, 0]), (9, 6, []), (9, 6, []), (9, 6, []), (9, 5, []), (11, 16, [55, 60, 65, 70, 75, 80, 85, 90, 95, 100, 105, 110, 115, 120, 125, 130]), (11, 3, [135, 140, 145]), (0, 0, [0, 0, 0, 0, 0, 0, 0, 0]), (5, 0, [42, 0]), (9, 20, []), (1, 0, [44, 51, 52, 53, 0, 0, 0, 0, 0]), (12, 6, [45, 46, 47, 48, 49, 50]), (9, 5, []), (9, 5, []), (9, 5, []), (9, 5, []), (9, 5, []), (9, 5, []), (9, 6, []), (9, 5, []), (9, 5, []), (9, 61, []), (2, 0, [56, 57, 58, 59, 0, 0]), (9, 6, []), (9, 6, []), (9, 6, []), (9, 5, []), (2, 0, [61, 62, 63, 64, 0, 0]), (9, 6, []), (9, 6, []), (9, 6, []), (9, 5, []), (2, 0, [66, 67, 68, 69, 0, 0]), (9, 6, []), (9, 6, []), (9, 6, []), (9, 5, []), (2, 0, [71, 72, 73, 74, 0, 0]), (9, 6, []), (9, 6, []), (9, 6, []), (9, 5, []), (2, 0, [76, 77, 78, 79, 0, 0]), (9, 6, []), (9, 6, []), (9, 6, []), (9, 5, []), (2, 0, [81, 82, 83, 84, 0, 0]), (9, 6, []), (9, 6, []), (9, 6, []), (9, 5, []), (2, 0, [86, 87, 88, 89, 0, 0]), (9, 6, []), (9, 6, []), (9, 6, []), (9, 5, []), (2, 0, [91, 92, 93, 94, 0, 0]), (9, 6, []), (9, 6, []), (9, 6, []), (9, 5, []), (2, 0, [96, 97, 98, 99, 0, 0]), (9, 6, []), (9, 6, []), (9, 6, []), (9, 5, []), (2, 0, [101, 102, 103, 104, 0, 0]), (9, 6, []), (9, 6, []), (9, 6, []), (9, 5, []), (2, 0, [106, 107, 108, 109, 0, 0]), (9, 6, []), (9, 6, []), (9, 6, []), (9, 5, []), (2, 0, [111, 112, 113, 114, 0, 0]), (9, 6, []), (9, 6, []), (9, 6, []), (9, 5, []), (2, 0, [116, 117, 118, 119, 0, 0]), (9, 6, []), (9, 6, []), (9, 6, []), (9, 5, []), (2, 0, [121, 122, 123, 124, 0, 0]), (9, 6, []), (9, 6, []), (9, 6, []), (9, 5, []), (2, 0, [126, 127, 128, 129, 0, 0]), (9, 6, []), (9, 6, []), (9, 6, []), (9, 5, []), (2, 0, [131, 132, 133, 134, 0, 0]), (9, 6, []), (9, 6, []), (9, 6, []), (9, 5, []), (2, 0, [136, 137, 138, 139, 0, 0]), (9, 6, []), (9, 6, []), (9, 6, []), (9, 5, []), (2, 0, [141, 142, 143, 144, 0, 0]), (9, 6, []), (9, 6, []), (9, 6, []), (9, 5, []), (2, 0, [146, 147, 148, 149, 0, 0]), (9, 6, []), (9, 6, []), (9, 6, []), (9, 5, []), (7, 0, [0, 151, 0, 0, 0, 0, 0, 0, 0, 0, 0, 0, 152, 0, 0, 153, 154, 155, 156, 157, 0, 0, 0, 0, 0, 0, 0, 0, 0, 0, 0, 0, 0, 0, 0, 0, 0, 0, 0, 0, 0, 0, 0, 0]), (9, 900, []), (9, 8, []), (9, 202, []), (9, 202, []), (9, 25, []), (9, 25, []), (9, 25, [])]
theorem G7_eq : fa G6 150 9 25 19 = G7 := by decide +kernel
noncomputable def G8 : Dl := [(6, 0, [2, 7, 20, 33, 38, 0, 0, 39, 0, 40, 41, 43, 54, 0]), (4, 0, [3, 0, 0, 0, 0, 0, 0, 0, 0, 4, 5, 6, 0, 0, 0]), (8, 900, []), (10, 15, []), (9, 15, []), (9, 15, []), (3, 0, [0, 0, 0, 0, 0, 8, 9, 10, 11, 12, 0, 13, 14, 15, 0, 16, 17, 0, 18, 19]), (9, 6, []), (9, 6, []), (9, 6, []), (9, 6, []), (9, 6, []), (9, 5, []), (9, 5, []), (9, 5, []), (9, 4, []), (9, 4, []), (9, 4, []), (9, 4, []), (3, 0, [0, 0, 0, 0, 0, 21, 22, 23, 24, 25, 0, 26, 27, 28, 0, 29, 30, 0, 31, 32]), (9, 6, []), (9, 6, []), (9, 6, []), (9, 6, []), (9, 6, []), (9, 5, []), (9, 5, []), (9, 5, []), (9, 4, []), (9, 4, []), (9, 4, []), (9, 4, []), (2, 0, [34, 35, 36, 37, 0, 0]), (9, 6, []), (9, 6, []), (9, 6, []), (9, 5, []), (11, 16, [55, 60, 65, 70, 75, 80, 85, 90, 95, 100, 105, 110, 115, 120, 125, 130]), (11, 3, [135, 140, 145]), (0, 0, [0, 0, 0, 0, 0, 0, 0, 0]), (5, 0, [42, 0]), (9, 20, []), (1, 0, [44, 51, 52, 53, 0, 0, 0, 0, 0]), (12, 6, [45, 46, 47, 48, 49, 50]), (9, 5, []), (9, 5, []), (9, 5, []), (9, 5, []), (9, 5, []), (9, 5, []), (9, 6, []), (9, 5, []), (9, 5, []), (9, 61, []), (2, 0, [56, 57, 58, 59, 0, 0]), (9, 6, []), (9, 6, []), (9, 6, []), (9, 5, []), (2, 0, [61, 62, 63, 64, 0, 0]), (9, 6, []), (9, 6, []), (9, 6, []), (9, 5, []), (2, 0, [66, 67, 68, 69, 0, 0]), (9, 6, []), (9, 6, []), (9, 6, []), (9, 5, []), (2, 0, [71, 72, 73, 74, 0, 0]), (9, 6, []), (9, 6, []), (9, 6, []), (9, 5, []), (2, 0, [76, 77, 78, 79, 0, 0]), (9, 6, []), (9, 6, []), (9, 6, []), (9, 5, []), (2, 0, [81, 82, 83, 84, 0, 0]), (9, 6, []), (9, 6, []), (9, 6, []), (9, 5, []), (2, 0, [86, 87, 88, 89, 0, 0]), (9, 6, []), (9, 6, []), (9, 6, []), (9, 5, []), (2, 0, [91, 92, 93, 94, 0, 0]), (9, 6, []), (9, 6, []), (9, 6, []), (9, 5, []), (2, 0, [96, 97, 98, 99, 0, 0]), (9, 6, []), (9, 6, []), (9, 6, []), (9, 5, []), (2, 0, [101, 102, 103, 104, 0, 0]), (9, 6, []), (9, 6, []), (9, 6, []), (9, 5, []), (2, 0, [106, 107, 108, 109, 0, 0]), (9, 6, []), (9, 6, []), (9, 6, []), (9, 5, []), (2, 0, [111, 112, 113, 114, 0, 0]), (9, 6, []), (9, 6, []), (9, 6, []), (9, 5, []), (2, 0, [116, 117, 118, 119, 0, 0]), (9, 6, []), (9, 6, []), (9, 6, []), (9, 5, []), (2, 0, [121, 122, 123, 124, 0, 0]), (9, 6, []), (9, 6, []), (9, 6, []), (9, 5, []), (2, 0, [126, 127, 128, 129, 0, 0]), (9, 6, []), (9, 6, []), (9, 6, []), (9, 5, []), (2, 0, [131, 132, 133, 134, 0, 0]), (9, 6, []), (9, 6, []), (9, 6, []), (9, 5, []), (2, 0, [136, 137, 138, 139, 0, 0]), (9, 6, []), (9, 6, []), (9, 6, []), (9, 5, []), (2, 0, [141, 142, 143, 144, 0, 0]), (9, 6, []), (9, 6, []), (9, 6, []), (9, 5, []), (2, 0, [146, 147, 148, 149, 0, 0]), (9, 6, []), (9, 6, []), (9, 6, []), (9, 5, []), (7, 0, [0, 151, 0, 0, 0, 0, 0, 0, 0, 0, 0, 0, 152, 0, 0, 153, 154, 155, 156, 157, 158, 0, 0, 0, 0, 0, 0, 0, 0, 0, 0, 0, 0, 0, 0, 0, 0, 0, 0, 0, 0, 0, 0, 0]), (9, 900, []), (9, 8, []), (9, 202, []), (9, 202, []), (9, 25, []), (9, 25, []), (9, 25, []), (9, 400, [])]
theorem G8_eq : fa G7 150 9 400 20 = G8 := by decide +kernel
noncomputable def G9 : Dl := [(6, 0, [2, 7, 20, 33, 38, 0, 0, 39, 0, 40, 41, 43, 54, 0]), (4, 0, [3, 0, 0, 0, 0, 0, 0, 0, 0, 4, 5, 6, 0, 0, 0]), (8, 900, []), (10, 15, []), (9, 15, []), (9, 15, []), (3, 0, [0, 0, 0, 0, 0, 8, 9, 10, 11, 12, 0, 13, 14, 15, 0, 16, 17, 0, 18, 19]), (9, 6, []), (9, 6, []), (9, 6, []), (9, 6, []), (9, 6, []), (9, 5, []), (9, 5, []), (9, 5, []), (9, 4, []), (9, 4, []), (9, 4, []), (9, 4, []), (3, 0, [0, 0, 0, 0, 0, 21, 22, 23, 24, 25, 0, 26, 27, 28, 0, 29, 30, 0, 31, 32]), (9, 6, []), (9, 6, []), (9, 6, []), (9, 6, []), (9, 6, []), (9, 5, []), (9, 5, []), (9, 5, []), (9, 4, []), (9, 4, []), (9, 4, []), (9, 4, []), (2, 0, [34, 35, 36, 37, 0, 0]), (9, 6, []), (9, 6, []), (9, 6, []), (9, 5, []), (11, 16, [55, 60, 65, 70, 75, 80, 85, 90, 95, 100, 105, 110, 115, 120, 125, 130]), (11, 3, [135, 140, 145]), (0, 0, [0, 0, 0, 0, 0, 0, 0, 0]), (5, 0, [42, 0]), (9, 20, []), (1, 0, [44, 51, 52, 53, 0, 0, 0, 0, 0]), (12, 6, [45, 46, 47, 48, 49, 50]), (9, 5, []), (9, 5, []), (9, 5, []), (9, 5, []), (9, 5, []), (9, 5, []), (9, 6, []), (9, 5, []), (9, 5, []), (9, 61, []), (2, 0, [56, 57, 58, 59, 0, 0]), (9, 6, []), (9, 6, []), (9, 6, []), (9, 5, []), (2, 0, [61, 62, 63, 64, 0, 0]), (9, 6, []), (9, 6, []), (9, 6, []), (9, 5, []), (2, 0, [66, 67, 68, 69, 0, 0]), (9, 6, []), (9, 6, []), (9, 6, []), (9, 5, []), (2, 0, [71, 72, 73, 74, 0, 0]), (9, 6, []), (9, 6, []), (9, 6, []), (9, 5, []), (2, 0, [76, 77, 78, 79, 0, 0]), (9, 6, []), (9, 6, []), (9, 6, []), (9, 5, []), (2, 0, [81, 82, 83, 84, 0, 0]), (9, 6, []), (9, 6, []), (9, 6, []), (9, 5, []), (2, 0, [86, 87, 88, 89, 0, 0]), (9, 6, []), (9, 6, []), (9, 6, []), (9, 5, []), (2, 0, [91, 92, 93, 94, 0, 0]), (9, 6, []), (9, 6, []), (9, 6, []), (9, 5, []), (2, 0, [96, 97, 98, 99, 0, 0]), (9, 6, []), (9, 6, []), (9, 6, []), (9, 5, []), (2, 0, [101, 102, 103, 104, 0, 0]), (9, 6, []), (9, 6, []), (9, 6, []), (9, 5, []), (2, 0, [106, 107, 108, 109, 0, 0]), (9, 6, []), (9, 6, []), (9, 6, []), (9, 5, []), (2, 0, [111, 112, 113, 114, 0, 0]), (9, 6, []), (9, 6, []), (9, 6, []), (9, 5, []), (2, 0, [116, 117, 118, 119, 0, 0]), (9, 6, []), (9, 6, []), (9, 6, []), (9, 5, []), (2, 0, [121, 122, 123, 124, 0, 0]), (9, 6, []), (9, 6, []), (9, 6, []), (9, 5, []), (2, 0, [126, 127, 128, 129, 0, 0]), (9, 6, []), (9, 6, []), (9, 6, []), (9, 5, []), (2, 0, [131, 132, 133, 134, 0, 0]), (9, 6, []), (9, 6, []), (9, 6, []), (9, 5, []), (2, 0, [136, 137, 138, 139, 0, 0]), (9, 6, []), (9, 6, []), (9, 6, []), (9, 5, []), (2, 0, [141, 142, 143, 144, 0, 0]), (9, 6, []), (9, 6, []), (9, 6, []), (9, 5, []), (2, 0, [146, 147, 148, 149, 0, 0]), (9, 6, []), (9, 6, []), (9, 6, []), (9, 5, []), (7, 0, [0, 151, 0, 0, 0, 0, 0, 0, 0, 0, 0, 0, 152, 0, 0, 153, 154, 155, 156, 157, 158, 159, 0, 0, 0, 0, 0, 0, 0, 0, 0, 0, 0, 0, 0, 0, 0, 0, 0, 0, 0, 0, 0, 0]), (9, 900, []), (9, 8, []), (9, 202, []), (9, 202, []), (9, 25, []), (9, 25, []), (9, 25, []), (9, 400, []), (9, 75, [])]
theorem G9_eq : fa G8 150 9 75 21 = G9 := by decide +kernel
noncomputable def G10 : Dl := [(6, 0, [2, 7, 20, 33, 38, 0, 0, 39, 0, 40, 41, 43, 54, 0]), (4, 0, [3, 0, 0, 0, 0, 0, 0, 0, 0, 4, 5, 6, 0, 0, 0]), (8, 900, []), (10, 15, []), (9, 15, []), (9, 15, []), (3, 0, [0, 0, 0, 0, 0, 8, 9, 10, 11, 12, 0, 13, 14, 15, 0, 16, 17, 0, 18, 19]), (9, 6, []), (9, 6, []), (9, 6, []), (9, 6, []), (9, 6, []), (9, 5, []), (9, 5, []), (9, 5, []), (9, 4, []), (9, 4, []), (9, 4, []), (9, 4, []), (3, 0, [0, 0, 0, 0, 0, 21, 22, 23, 24, 25, 0, 26, 27, 28, 0, 29, 30, 0, 31, 32]), (9, 6, []), (9, 6, []), (9, 6, []), (9, 6, []), (9, 6, []), (9, 5, []), (9, 5, []), (9, 5, []), (9, 4, []), (9, 4, []), (9, 4, []), (9, 4, []), (2, 0, [34, 35, 36, 37, 0, 0]), (9, 6, []), (9, 6, []), (9, 6, []), (9, 5, []), (11, 16, [55, 60, 65, 70, 75, 80, 85, 90, 95, 100, 105, 110, 115, 120, 125, 130]), (11, 3, [135, 140, 145]), (0, 0, [0, 0, 0, 0, 0, 0, 0, 0]), (5, 0, [42, 0]), (9, 20, []), (1, 0, [44, 51, 52, 53, 0, 0, 0, 0, 0]), (12, 6, [45, 46, 47, 48, 49, 50]), (9, 5, []), (9, 5, []), (9, 5, []), (9, 5, []), (9, 5, []), (9, 5, []), (9, 6, []), (9, 5, []), (9, 5, []), (9, 61, []), (2, 0, [56, 57, 58, 59, 0, 0]), (9, 6, []), (9, 6, []), (9, 6, []), (9, 5, []), (2, 0, [61, 62, 63, 64, 0, 0]), (9, 6, []), (9, 6, []), (9, 6, []), (9, 5, []), (2, 0, [66, 67, 68, 69, 0, 0]), (9, 6, []), (9, 6, []), (9, 6, []), (9, 5, []), (2, 0, [71, 72, 73, 74, 0, 0]), (9, 6, []), (9, 6, []), (9, 6, []), (9, 5, []), (2, 0, [76, 77, 78, 79, 0, 0]), (9, 6, []), (9, 6, []), (9, 6, []), (9, 5, []), (2, 0, [81, 82, 83, 84, 0, 0]), (9, 6, []), (9, 6, []), (9, 6, []), (9, 5, []), (2, 0, [86, 87, 88, 89, 0, 0]), (9, 6, []), (9, 6, []), (9, 6, []), (9, 5, []), (2, 0, [91, 92, 93, 94, 0, 0]), (9, 6, []), (9, 6, []), (9, 6, []), (9, 5, []), (2, 0, [96, 97, 98, 99, 0, 0]), (9, 6, []), (9, 6, []), (9, 6, []), (9, 5, []), (2, 0, [101, 102, 103, 104, 0, 0]), (9, 6, []), (9, 6, []), (9, 6, []), (9, 5, []), (2, 0, [106, 107, 108, 109, 0, 0]), (9, 6, []), (9, 6, []), (9, 6, []), (9, 5, []), (2, 0, [111, 112, 113, 114, 0, 0]), (9, 6, []), (9, 6, []), (9, 6, []), (9, 5, []), (2, 0, [116, 117, 118, 119, 0, 0]), (9, 6, []), (9, 6, []), (9, 6, []), (9, 5, []), (2, 0, [121, 122, 123, 124, 0, 0]), (9, 6, []), (9, 6, []), (9, 6, []), (9, 5, []), (2, 0, [126, 127, 128, 129, 0, 0]), (9, 6, []), (9, 6, []), (9, 6, []), (9, 5, []), (2, 0, [131, 132, 133, 134, 0, 0]), (9, 6, []), (9, 6, []), (9, 6, []), (9, 5, []), (2, 0, [136, 137, 138, 139, 0, 0]), (9, 6, []), (9, 6, []), (9, 6, []), (9, 5, []), (2, 0, [141, 142, 143, 144, 0, 0]), (9, 6, []), (9, 6, []), (9, 6, []), (9, 5, []), (2, 0, [146, 147, 148, 149, 0, 0]), (9, 6, []), (9, 6, []), (9, 6, []), (9, 5, []), (7, 0, [0, 151, 0, 0, 0, 0, 0, 0, 0, 0, 0, 0, 152, 0, 0, 153, 154, 155, 156, 157, 158, 159, 0, 0, 160, 0, 0, 0, 0, 0, 0, 0, 0, 0, 0, 0, 0, 0, 0, 0, 0, 0, 0, 0]), (9, 900, []), (9, 8, []), (9, 202, []), (9, 202, []), (9, 25, []), (9, 25, []), (9, 25, []), (9, 400, []), (9, 75, []), (9, 5, [])]
theorem G10_eq : fa G9 150 9 5 24 = G10 := by decide +kernel
noncomputable def G11 : Dl := [(6, 0, [2, 7, 20, 33, 38, 0, 0, 39, 0, 40, 41, 43, 54, 0]), (4, 0, [3, 0, 0, 0, 0, 0, 0, 0, 0, 4, 5, 6, 0, 0, 0]), (8, 900, []), (10, 15, []), (9, 15, []), (9, 15, []), (3, 0, [0, 0, 0, 0, 0, 8, 9, 10, 11, 12, 0, 13, 14, 15, 0, 16, 17, 0, 18, 19]), (9, 6, []), (9, 6, []), (9, 6, []), (9, 6, []), (9, 6, []), (9, 5, []), (9, 5, []), (9, 5, []), (9, 4, []), (9, 4, []), (9, 4, []), (9, 4, []), (3, 0, [0, 0, 0, 0, 0, 21, 22, 23, 24, 25, 0, 26, 27, 28, 0, 29, 30, 0, 31, 32]), (9, 6, []), (9, 6, []), (9, 6, []), (9, 6, []), (9, 6, []), (9, 5, []), (9, 5, []), (9, 5, []), (9, 4, []), (9, 4, []), (9, 4, []), (9, 4, []), (2, 0, [34, 35, 36, 37, 0, 0]), (9, 6, []), (9, 6, []), (9, 6, []), (9, 5, []), (11, 16, [55, 60, 65, 70, 75, 80, 85, 90, 95, 100, 105, 110, 115, 120, 125, 130]), (11, 3, [135, 140, 145]), (0, 0, [0, 0, 0, 0, 0, 0, 0, 0]), (5, 0, [42, 0]), (9, 20, []), (1, 0, [44, 51, 52, 53, 0, 0, 0, 0, 0]), (12, 6, [45, 46, 47, 48, 49, 50]), (9, 5, []), (9, 5, []), (9, 5, []), (9, 5, []), (9, 5, []), (9, 5, []), (9, 6, []), (9, 5, []), (9, 5, []), (9, 61, []), (2, 0, [56, 57, 58, 59, 0, 0]), (9, 6, []), (9, 6, []), (9, 6, []), (9, 5, []), (2, 0, [61, 62, 63, 64, 0, 0]), (9, 6, []), (9, 6, []), (9, 6, []), (9, 5, []), (2, 0, [66, 67, 68, 69, 0, 0]), (9, 6, []), (9, 6, []), (9, 6, []), (9, 5, []), (2, 0, [71, 72, 73, 74, 0, 0]), (9, 6, []), (9, 6, []), (9, 6, []), (9, 5, []), (2, 0, [76, 77, 78, 79, 0, 0]), (9, 6, []), (9, 6, []), (9, 6, []), (9, 5, []), (2, 0, [81, 82, 83, 84, 0, 0]), (9, 6, []), (9, 6, []), (9, 6, []), (9, 5, []), (2, 0, [86, 87, 88, 89, 0, 0]), (9, 6, []), (9, 6, []), (9, 6, []), (9, 5, []), (2, 0, [91, 92, 93, 94, 0, 0]), (9, 6, []), (9, 6, []), (9, 6, []), (9, 5, []), (2, 0, [96, 97, 98, 99, 0, 0]), (9, 6, []), (9, 6, []), (9, 6, []), (9, 5, []), (2, 0, [101, 102, 103, 104, 0, 0]), (9, 6, []), (9, 6, []), (9, 6, []), (9, 5, []), (2, 0, [106, 107, 108, 109, 0, 0]), (9, 6, []), (9, 6, []), (9, 6, []), (9, 5, []), (2, 0, [111, 112, 113, 114, 0, 0]), (9, 6, []), (9, 6, []), (9, 6, []), (9, 5, []), (2, 0, [116, 117, 118, 119, 0, 0]), (9, 6, []), (9, 6, []), (9, 6, []), (9, 5, []), (2, 0, [121, 122, 123, 124, 0, 0]), (9, 6, []), (9, 6, []), (9, 6, []), (9, 5, []), (2, 0, [126, 127, 128, 129, 0, 0]), (9, 6, []), (9, 6, []), (9, 6, []), (9, 5, []), (2, 0, [131, 132, 133, 134, 0, 0]), (9, 6, []), (9, 6, []), (9, 6, []), (9, 5, []), (2, 0, [136, 137, 138, 139, 0, 0]), (9, 6, []), (9, 6, []), (9, 6, []), (9, 5, []), (2, 0, [141, 142, 143, 144, 0, 0]), (9, 6, []), (9, 6, []), (9, 6, []), (9, 5, []), (2, 0, [146, 147, 148, 149, 0, 0]), (9, 6, []), (9, 6, []), (9, 6, []), (9, 5, []), (7, 0, [0, 151, 0, 0, 0, 0, 0, 0, 0, 0, 0, 0, 152, 0, 0, 153, 154, 155, 156, 157, 158, 159, 0, 0, 160, 161, 0, 0, 0, 0, 0, 0, 0, 0, 0, 0, 0, 0, 0, 0, 0, 0, 0, 0]), (9, 900, []), (9, 8, []), (9, 202, []), (9, 202, []), (9, 25, []), (9, 25, []), (9, 25, []), (9, 400, []), (9, 75, []), (9, 5, []), (9, 25, [])]
theorem G11_eq : fa G10 150 9 25 25 = G11 := by decide +kernel
noncomputable def G12 : Dl := [(6, 0, [2, 7, 20, 33, 38, 0, 0, 39, 0, 40, 41, 43, 54, 0]), (4, 0, [3, 0, 0, 0, 0, 0, 0, 0, 0, 4, 5, 6, 0, 0, 0]), (8, 900, []), (10, 15, []), (9, 15, []), (9, 15, []), (3, 0, [0, 0, 0, 0, 0, 8, 9, 10, 11, 12, 0, 13, 14, 15, 0, 16, 17, 0, 18, 19]), (9, 6, []), (9, 6, []), (9, 6, []), (9, 6, []), (9, 6, []), (9, 5, []), (9, 5, []), (9, 5, []), (9, 4, []), (9, 4, []), (9, 4, []), (9, 4, []), (3, 0, [0, 0, 0, 0, 0, 21, 22, 23, 24, 25, 0, 26, 27, 28, 0, 29, 30, 0, 31, 32]), (9, 6, []), (9, 6, []), (9, 6, []), (9, 6, []), (9, 6, []), (9, 5, []), (9, 5, []), (9, 5, []), (9, 4, []), (9, 4, []), (9, 4, []), (9, 4, []), (2, 0, [34, 35, 36, 37, 0, 0]), (9, 6, []), (9, 6, []), (9, 6, []), (9, 5, []), (11, 16, [55, 60, 65, 70, 75, 80, 85, 90, 95, 100, 105, 110, 115, 120, 125, 130]), (11, 3, [135, 140, 145]), (0, 0, [0, 0, 0, 0, 0, 0, 0, 0]), (5, 0, [42, 0]), (9, 20, []), (1, 0, [44, 51, 52, 53, 0, 0, 0, 0, 0]), (12, 6, [45, 46, 47, 48, 49, 50]), (9, 5, []), (9, 5, []), (9, 5, []), (9, 5, []), (9, 5, []), (9, 5, []), (9, 6, []), (9, 5, []), (9, 5, []), (9, 61, []), (2, 0, [56, 57, 58, 59, 0, 0]), (9, 6, []), (9, 6, []), (9, 6, []), (9, 5, []), (2, 0, [61, 62, 63, 64, 0, 0]), (9, 6, []), (9, 6, []), (9, 6, []), (9, 5, []), (2, 0, [66, 67, 68, 69, 0, 0]), (9, 6, []), (9, 6, []), (9, 6, []), (9, 5, []), (2, 0, [71, 72, 73, 74, 0, 0]), (9, 6, []), (9, 6, []), (9, 6, []), (9, 5, []), (2, 0, [76, 77, 78, 79, 0, 0]), (9, 6, []), (9, 6, []), (9, 6, []), (9, 5, []), (2, 0, [81, 82, 83, 84, 0, 0]), (9, 6, []), (9, 6, []), (9, 6, []), (9, 5, []), (2, 0, [86, 87, 88, 89, 0, 0]), (9, 6, []), (9, 6, []), (9, 6, []), (9, 5, []), (2, 0, [91, 92, 93, 94, 0, 0]), (9, 6, []), (9, 6, []), (9, 6, []), (9, 5, []), (2, 0, [96, 97, 98, 99, 0, 0]), (9, 6, []), (9, 6, []), (9, 6, []), (9, 5, []), (2, 0, [101, 102, 103, 104, 0, 0]), (9, 6, []), (9, 6, []), (9, 6, []), (9, 5, []), (2, 0, [106, 107, 108, 109, 0, 0]), (9, 6, []), (9, 6, []), (9, 6, []), (9, 5, []), (2, 0, [111, 112, 113, 114, 0, 0]), (9, 6, []), (9, 6, []), (9, 6, []), (9, 5, []), (2, 0, [116, 117, 118, 119, 0, 0]), (9, 6, []), (9, 6, []), (9, 6, []), (9, 5, []), (2, 0, [121, 122, 123, 124, 0, 0]), (9, 6, []), (9, 6, []), (9, 6, []), (9, 5, []), (2, 0, [126, 127, 128, 129, 0, 0]), (9, 6, []), (9, 6, []), (9, 6, []), (9, 5, []), (2, 0, [131, 132, 133, 134, 0, 0]), (9, 6, []), (9, 6, []), (9, 6, []), (9, 5, []), (2, 0, [136, 137, 138, 139, 0, 0]), (9, 6, []), (9, 6, []), (9, 6, []), (9, 5, []), (2, 0, [141, 142, 143, 144, 0, 0]), (9, 6, []), (9, 6, []), (9, 6, []), (9, 5, []), (2, 0, [146, 147, 148, 149, 0, 0]), (9, 6, []), (9, 6, []), (9, 6, []), (9, 5, []), (7, 0, [0, 151, 0, 0, 0, 0, 0, 0, 0, 0, 0, 0, 152, 0, 0, 153, 154, 155, 156, 157, 158, 159, 0, 0, 160, 161, 0, 162, 0, 0, 0, 0, 0, 0, 0, 0, 0, 0, 0, 0, 0, 0, 0, 0]), (9, 900, []), (9, 8, []), (9, 202, []), (9, 202, []), (9, 25, []), (9, 25, []), (9, 25, []), (9, 400, []), (9, 75, []), (9, 5, []), (9, 25, []), (9, 5, [])]
theorem G12_eq : fa G11 150 9 5 27 = G12 := by decide +kernel
noncomputable def G13 : Dl := [(6, 0, [2, 7, 20, 33, 38, 0, 0, 39, 0, 40, 41, 43, 54, 0]), (4, 0, [3, 0, 0, 0, 0, 0, 0, 0, 0, 4, 5, 6, 0, 0, 0]), (8, 900, []), (10, 15, []), (9, 15, []), (9, 15, []), (3, 0, [0, 0, 0, 0, 0, 8, 9, 10, 11, 12, 0, 13, 14, 15, 0, 16, 17, 0, 18, 19]), (9, 6, []), (9, 6, []), (9, 6, []), (9, 6, []), (9, 6, []), (9, 5, []), (9, 5, []), (9, 5, []), (9, 4, []), (9, 4, []), (9, 4, []), (9, 4, []), (3, 0, [0, 0, 0, 0, 0, 21, 22, 23, 24, 25, 0, 26, 27, 28, 0, 29, 30, 0, 31, 32]), (9, 6, []), (9, 6, []), (9, 6, []), (9, 6, []), (9, 6, []), (9, 5, []), (9, 5, []), (9, 5, []), (9, 4, []), (9, 4, []), (9, 4, []), (9, 4, []), (2, 0, [34, 35, 36, 37, 0, 0]), (9, 6, []), (9, 6, []), (9, 6, []), (9, 5, []), (11, 16, [55, 60, 65, 70, 75, 80, 85, 90, 95, 100, 105, 110, 115, 120, 125, 130]), (11, 3, [135, 140, 145]), (0, 0, [0, 0, 0, 0, 0, 0, 0, 0]), (5, 0, [42, 0]), (9, 20, []), (1, 0, [44, 51, 52, 53, 0, 0, 0, 0, 0]), (12, 6, [45, 46, 47, 48, 49, 50]), (9, 5, []), (9, 5, []), (9, 5, []), (9, 5, []), (9, 5, []), (9, 5, []), (9, 6, []), (9, 5, []), (9, 5, []), (9, 61, []), (2, 0, [56, 57, 58, 59, 0, 0]), (9, 6, []), (9, 6, []), (9, 6, []), (9, 5, []), (2, 0, [61, 62, 63, 64, 0, 0]), (9, 6, []), (9, 6, []), (9, 6, []), (9, 5, []), (2, 0, [66, 67, 68, 69, 0, 0]), (9, 6, []), (9, 6, []), (9, 6, []), (9, 5, []), (2, 0, [71, 72, 73, 74, 0, 0]), (9, 6, []), (9, 6, []), (9, 6, []), (9, 5, []), (2, 0, [76, 77, 78, 79, 0, 0]), (9, 6, []), (9, 6, []), (9, 6, []), (9, 5, []), (2, 0, [81, 82, 83, 84, 0, 0]), (9, 6, []), (9, 6, []), (9, 6, []), (9, 5, []), (2, 0, [86, 87, 88, 89, 0, 0]), (9, 6, []), (9, 6, []), (9, 6, []), (9, 5, []), (2, 0, [91, 92, 93, 94, 0, 0]), (9, 6, []), (9, 6, []), (9, 6, []), (9, 5, []), (2, 0, [96, 97, 98, 99, 0, 0]), (9, 6, []), (9, 6, []), (9, 6, []), (9, 5, []), (2, 0, [101, 102, 103, 104, 0, 0]), (9, 6, []), (9, 6, []), (9, 6, []), (9, 5, []), (2, 0, [106, 107, 108, 109, 0, 0]), (9, 6, []), (9, 6, []), (9, 6, []), (9, 5, []), (2, 0, [111, 112, 113, 114, 0, 0]), (9, 6, []), (9, 6, []), (9, 6, []), (9, 5, []), (2, 0, [116, 117, 118, 119, 0, 0]), (9, 6, []), (9, 6, []), (9, 6, []), (9, 5, []), (2, 0, [121, 122, 123, 124, 0, 0]), (9, 6, []), (9, 6, []), (9, 6, []), (9, 5, []), (2, 0, [126, 127, 128, 129, 0, 0]), (9, 6, []), (9, 6, []), (9, 6, []), (9, 5, []), (2, 0, [131, 132, 133, 134, 0, 0]), (9, 6, []), (9, 6, []), (9, 6, []), (9, 5, []), (2, 0, [136, 137, 138, 139, 0, 0]), (9, 6, []), (9, 6, []), (9, 6, []), (9, 5, []), (2, 0, [141, 142, 143, 144, 0, 0]), (9, 6, []), (9, 6, []), (9, 6, []), (9, 5, []), (2, 0, [146, 147, 148, 149, 0, 0]), (9, 6, []), (9, 6, []), (9, 6, []), (9, 5, []), (7, 0, [0, 151, 0, 0, 0, 0, 0, 0, 0, 0, 0, 0, 152, 0, 0, 153, 154, 155, 156, 157, 158, 159, 0, 0, 160, 161, 0, 162, 163, 0, 0, 0, 0, 0, 0, 0, 0, 0, 0, 0, 0, 0, 0, 0]), (9, 900, []), (9, 8, []), (9, 202, []), (9, 202, []), (9, 25, []), (9, 25, []), (9, 25, []), (9, 400, []), (9, 75, []), (9, 5, []), (9, 25, []), (9, 5, []), (9, 5, [])]
theorem G13_eq : fa G12 150 9 5 28 = G13 := by decide +kernel
noncomputable def G14 : Dl := [(6, 0, [2, 7, 20, 33, 38, 0, 0, 39, 0, 40, 41, 43, 54, 0]), (4, 0, [3, 0, 0, 0, 0, 0, 0, 0, 0, 4, 5, 6, 0, 0, 0]), (8, 900, []), (10, 15, []), (9, 15, []), (9, 15, []), (3, 0, [0, 0, 0, 0, 0, 8, 9, 10, 11, 12, 0, 13, 14, 15, 0, 16, 17, 0, 18, 19]), (9, 6, []), (9, 6, []), (9, 6, []), (9, 6, []), (9, 6, []), (9, 5, []), (9, 5, []), (9, 5, []), (9, 4, []), (9, 4, []), (9, 4, []), (9, 4, []), (3, 0, [0, 0, 0, 0, 0, 21, 22, 23, 24, 25, 0, 26, 27, 28, 0, 29, 30, 0, 31, 32]), (9, 6, []), (9, 6, []), (9, 6, []), (9, 6, []), (9, 6, []), (9, 5, []), (9, 5, []), (9, 5, []), (9, 4, []), (9, 4, []), (9, 4, []), (9, 4, []), (2, 0, [34, 35, 36, 37, 0, 0]), (9, 6, []), (9, 6, []), (9, 6, []), (9, 5, []), (11, 16, [55, 60, 65, 70, 75, 80, 85, 90, 95, 100, 105, 110, 115, 120, 125, 130]), (11, 3, [135, 140, 145]), (0, 0, [0, 0, 0, 0, 0, 0, 0, 0]), (5, 0, [42, 0]), (9, 20, []), (1, 0, [44, 51, 52, 53, 0, 0, 0, 0, 0]), (12, 6, [45, 46, 47, 48, 49, 50]), (9, 5, []), (9, 5, []), (9, 5, []), (9, 5, []), (9, 5, []), (9, 5, []), (9, 6, []), (9, 5, []), (9, 5, []), (9, 61, []), (2, 0, [56, 57, 58, 59, 0, 0]), (9, 6, []), (9, 6, []), (9, 6, []), (9, 5, []), (2, 0, [61, 62, 63, 64, 0, 0]), (9, 6, []), (9, 6, []), (9, 6, []), (9, 5, []), (2, 0, [66, 67, 68, 69, 0, 0]), (9, 6, []), (9, 6, []), (9, 6, []), (9, 5, []), (2, 0, [71, 72, 73, 74, 0, 0]), (9, 6, []), (9, 6, []), (9, 6, []), (9, 5, []), (2, 0, [76, 77, 78, 79, 0, 0]), (9, 6, []), (9, 6, []), (9, 6, []), (9, 5, []), (2, 0, [81, 82, 83, 84, 0, 0]), (9, 6, []), (9, 6, []), (9, 6, []), (9, 5, []), (2, 0, [86, 87, 88, 89, 0, 0]), (9, 6, []), (9, 6, []), (9, 6, []), (9, 5, []), (2, 0, [91, 92, 93, 94, 0, 0]), (9, 6, []), (9, 6, []), (9, 6, []), (9, 5, []), (2, 0, [96, 97, 98, 99, 0, 0]), (9, 6, []), (9, 6, []), (9, 6, []), (9, 5, []), (2, 0, [101, 102, 103, 104, 0, 0]), (9, 6, []), (9, 6, []), (9, 6, []), (9, 5, []), (2, 0, [106, 107, 108, 109, 0, 0]), (9, 6, []), (9, 6, []), (9, 6, []), (9, 5, []), (2, 0, [111, 112, 113, 114, 0, 0]), (9, 6, []), (9, 6, []), (9, 6, []), (9, 5, []), (2, 0, [116, 117, 118, 119, 0, 0]), (9, 6, []), (9, 6, []), (9, 6, []), (9, 5, []), (2, 0, [121, 122, 123, 124, 0, 0]), (9, 6, []), (9, 6, []), (9, 6, []), (9, 5, []), (2, 0, [126, 127, 128, 129, 0, 0]), (9, 6, []), (9, 6, []), (9, 6, []), (9, 5, []), (2, 0, [131, 132, 133, 134, 0, 0]), (9, 6, []), (9, 6, []), (9, 6, []), (9, 5, []), (2, 0, [136, 137, 138, 139, 0, 0]), (9, 6, []), (9, 6, []), (9, 6, []), (9, 5, []), (2, 0, [141, 142, 143, 144, 0, 0]), (9, 6, []), (9, 6, []), (9, 6, []), (9, 5, []), (2, 0, [146, 147, 148, 149, 0, 0]), (9, 6, []), (9, 6, []), (9, 6, []), (9, 5, []), (7, 0, [0, 151, 0, 0, 0, 0, 0, 0, 0, 0, 0, 0, 152, 0, 0, 153, 154, 155, 156, 157, 158, 159, 0, 0, 160, 161, 0, 162, 163, 0, 0, 0, 0, 164, 0, 0, 0, 0, 0, 0, 0, 0, 0, 0]), (9, 900, []), (9, 8, []), (9, 202, []), (9, 202, []), (9, 25, []), (9, 25, []), (9, 25, []), (9, 400, []), (9, 75, []), (9, 5, []), (9, 25, []), (9, 5, []), (9, 5, []), (9, 20, [])]
theorem G14_eq : fa G13 150 9 20 33 = G14 := by decide +kernel
noncomputable def G15 : Dl := [(6, 0, [2, 7, 20, 33, 38, 0, 0, 39, 0, 40, 41, 43, 54, 0]), (4, 0, [3, 0, 0, 0, 0, 0, 0, 0, 0, 4, 5, 6, 0, 0, 0]), (8, 900, []), (10, 15, []), (9, 15, []), (9, 15, []), (3, 0, [0, 0, 0, 0, 0, 8, 9, 10, 11, 12, 0, 13, 14, 15, 0, 16, 17, 0, 18, 19]), (9, 6, []), (9, 6, []), (9, 6, []), (9, 6, []), (9, 6, []), (9, 5, []), (9, 5, []), (9, 5, []), (9, 4, []), (9, 4, []), (9, 4, []), (9, 4, []), (3, 0, [0, 0, 0, 0, 0, 21, 22, 23, 24, 25, 0, 26, 27, 28, 0, 29, 30, 0, 31, 32]), (9, 6, []), (9, 6, []), (9, 6, []), (9, 6, []), (9, 6, []), (9, 5, []), (9, 5, []), (9, 5, []), (9, 4, []), (9, 4, []), (9, 4, []), (9, 4, []), (2, 0, [34, 35, 36, 37, 0, 0]), (9, 6, []), (9, 6, []), (9, 6, []), (9, 5, []), (11, 16, [55, 60, 65, 70, 75, 80, 85, 90, 95, 100, 105, 110, 115, 120, 125, 130]), (11, 3, [135, 140, 145]), (0, 0, [0, 0, 0, 0, 0, 0, 0, 0]), (5, 0, [42, 0]), (9, 20, []), (1, 0, [44, 51, 52, 53, 0, 0, 0, 0, 0]), (12, 6, [45, 46, 47, 48, 49, 50]), (9, 5, []), (9, 5, []), (9, 5, []), (9, 5, []), (9, 5, []), (9, 5, []), (9, 6, []), (9, 5, []), (9, 5, []), (9, 61, []), (2, 0, [56, 57, 58, 59, 0, 0]), (9, 6, []), (9, 6, []), (9, 6, []), (9, 5, []), (2, 0, [61, 62, 63, 64, 0, 0]), (9, 6, []), (9, 6, []), (9, 6, []), (9, 5, []), (2, 0, [66, 67, 68, 69, 0, 0]), (9, 6, []), (9, 6, []), (9, 6, []), (9, 5, []), (2, 0, [71, 72, 73, 74, 0, 0]), (9, 6, []), (9, 6, []), (9, 6, []), (9, 5, []), (2, 0, [76, 77, 78, 79, 0, 0]), (9, 6, []), (9, 6, []), (9, 6, []), (9, 5, []), (2, 0, [81, 82, 83, 84, 0, 0]), (9, 6, []), (9, 6, []), (9, 6, []), (9, 5, []), (2, 0, [86, 87, 88, 89, 0, 0]), (9, 6, []), (9, 6, []), (9, 6, []), (9, 5, []), (2, 0, [91, 92, 93, 94, 0, 0]), (9, 6, []), (9, 6, []), (9, 6, []), (9, 5, []), (2, 0, [96, 97, 98, 99, 0, 0]), (9, 6, []), (9, 6, []), (9, 6, []), (9, 5, []), (2, 0, [101, 102, 103, 104, 0, 0]), (9, 6, []), (9, 6, []), (9, 6, []), (9, 5, []), (2, 0, [106, 107, 108, 109, 0, 0]), (9, 6, []), (9, 6, []), (9, 6, []), (9, 5, []), (2, 0, [111, 112, 113, 114, 0, 0]), (9, 6, []), (9, 6, []), (9, 6, []), (9, 5, []), (2, 0, [116, 117, 118, 119, 0, 0]), (9, 6, []), (9, 6, []), (9, 6, []), (9, 5, []), (2, 0, [121, 122, 123, 124, 0, 0]), (9, 6, []), (9, 6, []), (9, 6, []), (9, 5, []), (2, 0, [126, 127, 128, 129, 0, 0]), (9, 6, []), (9, 6, []), (9, 6, []), (9, 5, []), (2, 0, [131, 132, 133, 134, 0, 0]), (9, 6, []), (9, 6, []), (9, 6, []), (9, 5, []), (2, 0, [136, 137, 138, 139, 0, 0]), (9, 6, []), (9, 6, []), (9, 6, []), (9, 5, []), (2, 0, [141, 142, 143, 144, 0, 0]), (9, 6, []), (9, 6, []), (9, 6, []), (9, 5, []), (2, 0, [146, 147, 148, 149, 0, 0]), (9, 6, []), (9, 6, []), (9, 6, []), (9, 5, []), (7, 0, [0, 151, 0, 0, 0, 0, 0, 0, 0, 0, 0, 0, 152, 0, 0, 153, 154, 155, 156, 157, 158, 159, 0, 0, 160, 161, 0, 162, 163, 0, 0, 0, 0, 164, 165, 0, 0, 0, 0, 0, 0, 0, 0, 0]), (9, 900, []), (9, 8, []), (9, 202, []), (9, 202, []), (9, 25, []), (9, 25, []), (9, 25, []), (9, 400, []), (9, 75, []), (9, 5, []), (9, 25, []), (9, 5, []), (9, 5, []), (9, 20, []), (9, 6, [])]
theorem G15_eq : fa G14 150 9 6 34 = G15 := by decide +kernel
noncomputable def G16 : Dl := [(6, 0, [2, 7, 20, 33, 38, 0, 0, 39, 0, 40, 41, 43, 54, 0]), (4, 0, [3, 0, 0, 0, 0, 0, 0, 0, 0, 4, 5, 6, 0, 0, 0]), (8, 900, []), (10, 15, []), (9, 15, []), (9, 15, []), (3, 0, [0, 0, 0, 0, 0, 8, 9, 10, 11, 12, 0, 13, 14, 15, 0, 16, 17, 0, 18, 19]), (9, 6, []), (9, 6, []), (9, 6, []), (9, 6, []), (9, 6, []), (9, 5, []), (9, 5, []), (9, 5, []), (9, 4, []), (9, 4, []), (9, 4, []), (9, 4, []), (3, 0, [0, 0, 0, 0, 0, 21, 22, 23, 24, 25, 0, 26, 27, 28, 0, 29, 30, 0, 31, 32]), (9, 6, []), (9, 6, []), (9, 6, []), (9, 6, []), (9, 6, []), (9, 5, []), (9, 5, []), (9, 5, []), (9, 4, []), (9, 4, []), (9, 4, []), (9, 4, []), (2, 0, [34, 35, 36, 37, 0, 0]), (9, 6, []), (9, 6, []), (9, 6, []), (9, 5, []), (11, 16, [55, 60, 65, 70, 75, 80, 85, 90, 95, 100, 105, 110, 115, 120, 125, 130]), (11, 3, [135, 140, 145]), (0, 0, [0, 0, 0, 0, 0, 0, 0, 0]), (5, 0, [42, 0]), (9, 20, []), (1, 0, [44, 51, 52, 53, 0, 0, 0, 0, 0]), (12, 6, [45, 46, 47, 48, 49, 50]), (9, 5, []), (9, 5, []), (9, 5, []), (9, 5, []), (9, 5, []), (9, 5, []), (9, 6, []), (9, 5, []), (9, 5, []), (9, 61, []), (2, 0, [56, 57, 58, 59, 0, 0]), (9, 6, []), (9, 6, []), (9, 6, []), (9, 5, []), (2, 0, [61, 62, 63, 64, 0, 0]), (9, 6, []), (9, 6, []), (9, 6, []), (9, 5, []), (2, 0, [66, 67, 68, 69, 0, 0]), (9, 6, []), (9, 6, []), (9, 6, []), (9, 5, []), (2, 0, [71, 72, 73, 74, 0, 0]), (9, 6, []), (9, 6, []), (9, 6, []), (9, 5, []), (2, 0, [76, 77, 78, 79, 0, 0]), (9, 6, []), (9, 6, []), (9, 6, []), (9, 5, []), (2, 0, [81, 82, 83, 84, 0, 0]), (9, 6, []), (9, 6, []), (9, 6, []), (9, 5, []), (2, 0, [86, 87, 88, 89, 0, 0]), (9, 6, []), (9, 6, []), (9, 6, []), (9, 5, []), (2, 0, [91, 92, 93, 94, 0, 0]), (9, 6, []), (9, 6, []), (9, 6, []), (9, 5, []), (2, 0, [96, 97, 98, 99, 0, 0]), (9, 6, []), (9, 6, []), (9, 6, []), (9, 5, []), (2, 0, [101, 102, 103, 104, 0, 0]), (9, 6, []), (9, 6, []), (9, 6, []), (9, 5, []), (2, 0, [106, 107, 108, 109, 0, 0]), (9, 6, []), (9, 6, []), (9, 6, []), (9, 5, []), (2, 0, [111, 112, 113, 114, 0, 0]), (9, 6, []), (9, 6, []), (9, 6, []), (9, 5, []), (2, 0, [116, 117, 118, 119, 0, 0]), (9, 6, []), (9, 6, []), (9, 6, []), (9, 5, []), (2, 0, [121, 122, 123, 124, 0, 0]), (9, 6, []), (9, 6, []), (9, 6, []), (9, 5, []), (2, 0, [126, 127, 128, 129, 0, 0]), (9, 6, []), (9, 6, []), (9, 6, []), (9, 5, []), (2, 0, [131, 132, 133, 134, 0, 0]), (9, 6, []), (9, 6, []), (9, 6, []), (9, 5, []), (2, 0, [136, 137, 138, 139, 0, 0]), (9, 6, []), (9, 6, []), (9, 6, []), (9, 5, []), (2, 0, [141, 142, 143, 144, 0, 0]), (9, 6, []), (9, 6, []), (9, 6, []), (9, 5, []), (2, 0, [146, 147, 148, 149, 0, 0]), (9, 6, []), (9, 6, []), (9, 6, []), (9, 5, []), (7, 0, [0, 151, 0, 0, 0, 0, 0, 0, 0, 0, 0, 0, 152, 0, 0, 153, 154, 155, 156, 157, 158, 159, 0, 0, 160, 161, 0, 162, 163, 0, 0, 0, 0, 164, 165, 166, 0, 0, 0, 0, 0, 0, 0, 0]), (9, 900, []), (9, 8, []), (9, 202, []), (9, 202, []), (9, 25, []), (9, 25, []), (9, 25, []), (9, 400, []), (9, 75, []), (9, 5, []), (9, 25, []), (9, 5, []), (9, 5, []), (9, 20, []), (9, 6, []), (9, 4, [])]
theorem G16_eq : fa G15 150 9 4 35 = G16 := by decide +kernel
theorem cX7_eq : cX7 G0 150 = G16 := by
  unfold cX7
  rw [G1_eq, G2_eq, G3_eq, G4_eq, G5_eq, G6_eq, G7_eq, G8_eq, G9_eq, G10_eq, G11_eq, G12_eq, G13_eq, G14_eq, G15_eq, G16_eq]
noncomputable def GZ : Dl := [(6, 0, [2, 7, 20, 33, 38, 0, 0, 39, 0, 40, 41, 43, 54, 0]), (4, 0, [3, 0, 0, 0, 0, 0, 0, 0, 0, 4, 5, 6, 0, 0, 0]), (8, 900, []), (10, 15, []), (9, 15, []), (9, 15, []), (3, 0, [0, 0, 0, 0, 0, 8, 9, 10, 11, 12, 0, 13, 14, 15, 0, 16, 17, 0, 18, 19]), (9, 6, []), (9, 6, []), (9, 6, []), (9, 6, []), (9, 6, []), (9, 5, []), (9, 5, []), (9, 5, []), (9, 4, []), (9, 4, []), (9, 4, []), (9, 4, []), (3, 0, [0, 0, 0, 0, 0, 21, 22, 23, 24, 25, 0, 26, 27, 28, 0, 29, 30, 0, 31, 32]), (9, 6, []), (9, 6, []), (9, 6, []), (9, 6, []), (9, 6, []), (9, 5, []), (9, 5, []), (9, 5, []), (9, 4, []), (9, 4, []), (9, 4, []), (9, 4, []), (2, 0, [34, 35, 36, 37, 0, 0]), (9, 6, []), (9, 6, []), (9, 6, []), (9, 5, []), (11, 16, [55, 60, 65, 70, 75, 80, 85, 90, 95, 100, 105, 110, 115, 120, 125, 130]), (11, 3, [135, 140, 145]), (0, 0, [0, 0, 0, 0, 0, 0, 0, 0]), (5, 0, [42, 0]), (9, 20, []), (1, 0, [44, 51, 52, 53, 0, 0, 0, 0, 0]), (12, 6, [45, 46, 47, 48, 49, 50]), (9, 5, []), (9, 5, []), (9, 5, []), (9, 5, []), (9, 5, []), (9, 5, []), (9, 6, []), (9, 5, []), (9, 5, []), (9, 61, []), (2, 0, [56, 57, 58, 59, 0, 0]), (9, 6, []), (9, 6, []), (9, 6, []), (9, 5, []), (2, 0, [61, 62, 63, 64, 0, 0]), (9, 6, []), (9, 6, []), (9, 6, []), (9, 5, []), (2, 0, [66, 67, 68, 69, 0, 0]), (9, 6, []), (9, 6, []), (9, 6, []), (9, 5, []), (2, 0, [71, 72, 73, 74, 0, 0]), (9, 6, []), (9, 6, []), (9, 6, []), (9, 5, []), (2, 0, [76, 77, 78, 79, 0, 0]), (9, 6, []), (9, 6, []), (9, 6, []), (9, 5, []), (2, 0, [81, 82, 83, 84, 0, 0]), (9, 6, []), (9, 6, []), (9, 6, []), (9, 5, []), (2, 0, [86, 87, 88, 89, 0, 0]), (9, 6, []), (9, 6, []), (9, 6, []), (9, 5, []), (2, 0, [91, 92, 93, 94, 0, 0]), (9, 6, []), (9, 6, []), (9, 6, []), (9, 5, []), (2, 0, [96, 97, 98, 99, 0, 0]), (9, 6, []), (9, 6, []), (9, 6, []), (9, 5, []), (2, 0, [101, 102, 103, 104, 0, 0]), (9, 6, []), (9, 6, []), (9, 6, []), (9, 5, []), (2, 0, [106, 107, 108, 109, 0, 0]), (9, 6, []), (9, 6, []), (9, 6, []), (9, 5, []), (2, 0, [111, 112, 113, 114, 0, 0]), (9, 6, []), (9, 6, []), (9, 6, []), (9, 5, []), (2, 0, [116, 117, 118, 119, 0, 0]), (9, 6, []), (9, 6, []), (9, 6, []), (9, 5, []), (2, 0, [121, 122, 123, 124, 0, 0]), (9, 6, []), (9, 6, []), (9, 6, []), (9, 5, []), (2, 0, [126, 127, 128, 129, 0, 0]), (9, 6, []), (9, 6, []), (9, 6, []), (9, 5, []), (2, 0, [131, 132, 133, 134, 0, 0]), (9, 6, []), (9, 6, []), (9, 6, []), (9, 5, []), (2, 0, [136, 137, 138, 139, 0, 0]), (9, 6, []), (9, 6, []), (9, 6, []), (9, 5, []), (2, 0, [141, 142, 143, 144, 0, 0]), (9, 6, []), (9, 6, []), (9, 6, []), (9, 5, []), (2, 0, [146, 147, 148, 149, 0, 0]), (9, 6, []), (9, 6, []), (9, 6, []), (9, 5, []), (7, 0, [0, 151, 0, 0, 0, 0, 0, 0, 0, 0, 0, 0, 152, 0, 0, 153, 154, 155, 156, 157, 158, 159, 0, 0, 160, 161, 0, 162, 163, 0, 0, 0, 0, 164, 165, 166, 0, 0, 0, 0, 0, 0, 0, 0]), (9, 900, []), (9, 8, []), (9, 202, []), (9, 202, []), (9, 25, []), (9, 25, []), (9, 25, []), (9, 400, []), (9, 75, []), (9, 5, []), (9, 25, []), (9, 5, []), (9, 5, []), (9, 20, []), (9, 6, []), (9, 4, []), (10, 1, [])]
theorem GZ_eq : dA G16 10 1 0 = GZ := by decide +kernel
end
section
/-! plain facts -/
/-- the first place from i on, n places, at which P -/
noncomputable def ff (P : Nat → Bool) : Nat → Nat → Option Nat
  | 0, _ => none
  | n + 1, i => if P i = true then some i else ff P n (i + 1)
theorem srch {e : Nat} {P : Nat → Bool} {Wi : Nat → Prop} {K : Option Nat → Prop} (hend : K none → Wi e) (hstep : ∀ i, i < e → (P i = true → K (some i) → Wi i) ∧ (P i = false → Wi (i + 1) → Wi i)) : ∀ i, i ≤ e → K (ff P (e - i) i) → Wi i := by
  intro i hi
  obtain ⟨n, hn⟩ : ∃ n, i + n = e := ⟨e - i, by omega⟩
  induction n generalizing i with
  | zero =>
    have e1 : i = e := by omega
    subst e1
    rw [Nat.sub_self]
    exact hend
  | succ n ih =>
    intro hK
    rw [show e - i = (e - (i + 1)) + 1 by omega] at hK
    unfold ff at hK
    cases hP : P i with
    | true =>
      rw [hP, if_pos rfl] at hK
      exact (hstep i (by omega)).1 hP hK
    | false =>
      rw [hP, if_neg (by decide)] at hK
      exact (hstep i (by omega)).2 hP (ih (i + 1) (by omega) (by omega) hK)
theorem ff_lt {P : Nat → Bool} : ∀ {n i j : Nat}, ff P n i = some j → i ≤ j ∧ j < i + n ∧ P j = true
  | 0, i, j, h => by cases h
  | n + 1, i, j, h => by
    unfold ff at h
    cases hP : P i with
    | true =>
      rw [hP, if_pos rfl] at h
      cases h
      exact ⟨Nat.le_refl _, by omega, hP⟩
    | false =>
      rw [hP, if_neg (by decide)] at h
      obtain ⟨h1, h2, h3⟩ := ff_lt h
      exact ⟨by omega, by omega, h3⟩
theorem ff_cong {P Q : Nat → Bool} : ∀ {n i : Nat}, (∀ j, i ≤ j → j < i + n → P j = Q j) → ff P n i = ff Q n i
  | 0, _, _ => rfl
  | n + 1, i, h => by
    unfold ff
    rw [h i (Nat.le_refl _) (by omega), ff_cong (fun j h1 h2 => h j (by omega) (by omega))]
noncomputable def oI : Option Nat → Int32
  | none => -2
  | some i => nI i
noncomputable def bI (b : Bool) : Int32 := if b = true then 1 else 0
theorem le_nI {x : Int32} {n : Nat} (hn : n < 2147483648) : ¬ (x < 0) → ¬ (nI n ≤ x) → ∃ j, j < n ∧ x = nI j := by
  intro h1 h2
  rcases pk_ix x hn with h | h | h
  · exact absurd h h1
  · exact absurd h h2
  · exact h
theorem not_ix {x : Int32} {n : Nat} (hn : n < 2147483648) (h : x < 0 ∨ nI n ≤ x) : ¬ ∃ j, j < n ∧ x = nI j := by
  rintro ⟨j, hj, rfl⟩
  rcases h with h | h
  · exact nI_pos (by omega) h
  · exact nI_ge hj (by omega) h
theorem ix {j N : Nat} (h : j < N) (hN : N ≤ 1000) : nI j = nI j ∧ j < 1000 ∧ j < N := ⟨rfl, by omega, h⟩
theorem nI_s (i : Nat) : nI i + 1 = nI (i + 1) := nI_1 i
/-- the rows that a query of the close may leave otherwise -/
noncomputable def sc (I I' : Nat → Nat → Int32) : Prop := ∀ a, (a < 40 ∨ 54 < a) → I' a = I a
theorem sc.rf {I : Nat → Nat → Int32} : sc I I := fun _ _ => rfl
theorem sc.tr {I I' I'' : Nat → Nat → Int32} (h : sc I I') (h2 : sc I' I'') : sc I I'' := fun a ha => (h2 a ha).trans (h a ha)
/-- the course's row -/
noncomputable def cr (I : Nat → Nat → Int32) (k w v e n h b d : Int32) : Nat → Nat → Int32 := fun a j => if a = 40 then (match j with
  | 0 => k
  | 1 => w
  | 2 => v
  | 3 => e
  | 4 => n
  | 5 => h
  | 6 => b
  | 7 => d
  | j => I 40 j) else I a j
theorem cr_sc {I : Nat → Nat → Int32} {k w v e n h b d : Int32} : sc I (cr I k w v e n h b d) := fun a ha => funext fun j => if_neg (by omega)
theorem cr_o {I : Nat → Nat → Int32} {k w v e n h b d : Int32} {a : Nat} (ha : a ≠ 40) : cr I k w v e n h b d a = I a := funext fun j => if_neg ha
theorem cr_4 {I : Nat → Nat → Int32} {k w v e n h b d x : Int32} : u2 (cr I k w v e n h b d) 40 4 x = cr I k w v e x h b d := by
  funext a j
  unfold u2 cr
  by_cases ha : a = 40
  · subst ha
    match j with
    | 0 => rfl
    | 1 => rfl
    | 2 => rfl
    | 3 => rfl
    | 4 => rfl
    | 5 => rfl
    | 6 => rfl
    | 7 => rfl
    | j + 8 => simp
  · simp [ha]
theorem cr_5 {I : Nat → Nat → Int32} {k w v e n h b d x : Int32} : u2 (cr I k w v e n h b d) 40 5 x = cr I k w v e n x b d := by
  funext a j
  unfold u2 cr
  by_cases ha : a = 40
  · subst ha
    match j with
    | 0 => rfl
    | 1 => rfl
    | 2 => rfl
    | 3 => rfl
    | 4 => rfl
    | 5 => rfl
    | 6 => rfl
    | 7 => rfl
    | j + 8 => simp
  · simp [ha]
theorem cr_6 {I : Nat → Nat → Int32} {k w v e n h b d x : Int32} : u2 (cr I k w v e n h b d) 40 6 x = cr I k w v e n h x d := by
  funext a j
  unfold u2 cr
  by_cases ha : a = 40
  · subst ha
    match j with
    | 0 => rfl
    | 1 => rfl
    | 2 => rfl
    | 3 => rfl
    | 4 => rfl
    | 5 => rfl
    | 6 => rfl
    | 7 => rfl
    | j + 8 => simp
  · simp [ha]
theorem cr_7 {I : Nat → Nat → Int32} {k w v e n h b d x : Int32} : u2 (cr I k w v e n h b d) 40 7 x = cr I k w v e n h b x := by
  funext a j
  unfold u2 cr
  by_cases ha : a = 40
  · subst ha
    match j with
    | 0 => rfl
    | 1 => rfl
    | 2 => rfl
    | 3 => rfl
    | 4 => rfl
    | 5 => rfl
    | 6 => rfl
    | 7 => rfl
    | j + 8 => simp
  · simp [ha]
theorem cr_new {I : Nat → Nat → Int32} {k w v e n h b d : Int32} : u2 (u2 (u2 (u2 (u2 (u2 (u2 (u2 I 40 0 k) 40 1 w) 40 2 v) 40 3 e) 40 4 n) 40 5 h) 40 6 b) 40 7 d = cr I k w v e n h b d := by
  funext a j
  unfold u2 cr
  by_cases ha : a = 40
  · subst ha
    match j with
    | 0 => rfl
    | 1 => rfl
    | 2 => rfl
    | 3 => rfl
    | 4 => rfl
    | 5 => rfl
    | 6 => rfl
    | 7 => rfl
    | j + 8 => simp
  · simp [ha]
/-- A DAY of one face: number, what it holds, bears, how often it let go -/
noncomputable abbrev Fc : Type := Int32 × Int32 × Int32 × Int32
noncomputable def jr (x y : Int32) : Int32 := x - x / y * y
noncomputable def cVx (v e : Int32) (calm : Bool) (n b : Int32) : Int32 := if calm = false ∧ 0 < e ∧ jr n e = 0 then b + v else b
noncomputable def cLs (k h : Int32) : Int32 := if k = 2 then 2 * h else h
noncomputable def cSt (k w v e : Int32) (calm : Bool) (x : Fc) : Fc := if x.2.1 = 0 then (x.1 + 1, x.2.1, x.2.2.1, x.2.2.2) else if cVx v e calm (x.1 + 1) x.2.2.1 < cLs k x.2.1 then (x.1 + 1, x.2.1, cVx v e calm (x.1 + 1) x.2.2.1, x.2.2.2) else if x.2.1 - w < 1 then (x.1 + 1, 0, 0, x.2.2.2 + 1) else (x.1 + 1, x.2.1 - w, (if k = 1 then cVx v e calm (x.1 + 1) x.2.2.1 - x.2.1 else 0), x.2.2.2 + 1)
/-- whether it lets go -/
noncomputable def cLt (k v e : Int32) (calm : Bool) (x : Fc) : Bool := decide (¬ x.2.1 = 0 ∧ ¬ cVx v e calm (x.1 + 1) x.2.2.1 < cLs k x.2.1)
noncomputable def cIt (k w v e : Int32) (x : Fc) : Nat → Fc
  | 0 => x
  | n + 1 => cSt k w v e false (cIt k w v e x n)
noncomputable def crf (I : Nat → Nat → Int32) (k w v e : Int32) (y : Fc) : Nat → Nat → Int32 := cr I k w v e y.1 y.2.1 y.2.2.1 y.2.2.2
section CRV
variable {I : Nat → Nat → Int32} {k w v e n h b d : Int32}
theorem crv0 : cr I k w v e n h b d 40 0 = k := rfl
theorem crv1 : cr I k w v e n h b d 40 1 = w := rfl
theorem crv2 : cr I k w v e n h b d 40 2 = v := rfl
theorem crv3 : cr I k w v e n h b d 40 3 = e := rfl
theorem crv4 : cr I k w v e n h b d 40 4 = n := rfl
theorem crv5 : cr I k w v e n h b d 40 5 = h := rfl
theorem crv6 : cr I k w v e n h b d 40 6 = b := rfl
theorem crv7 : cr I k w v e n h b d 40 7 = d := rfl
end CRV
/-- steps up to a cut -/
noncomputable def gc (l : Launch) (X : Nat × (Nat → Int32)) (q : Md) (d : Nat) (na : Bool) (b : Nat × Nat) (tb : List (Nat × OP)) (kr : KR) (cuts : List Nat) : Nat → KN
  | 0 => fun pc ls st M => Wf l X q d na b pc ls st M kr
  | n + 1 => fun pc ls st M => cond (cuts.any (fun c => Nat.beq c pc)) (Wf l X q d na b pc ls st M kr) (lo tb pc (gc l X q d na b tb kr cuts n) kr ls st M)
theorem Wf.gc0 {l : Launch} {X : Nat × (Nat → Int32)} {q : Md} {d : Nat} {na : Bool} {b : Nat × Nat} {tb : List (Nat × OP)} {kr : KR} (ht : ∀ x ∈ tb, OK l X q d na b x.1 x.2) (cuts : List Nat) : ∀ (n : Nat) {pc : Nat} {ls : Ls} {st : List Value} {M : Mm}, gc l X q d na b tb kr cuts n pc ls st M → Wf l X q d na b pc ls st M kr
  | 0, _, _, _, _, h => h
  | n + 1, pc, ls, st, M, h => by
    unfold gc at h
    cases hc : cuts.any (fun c => Nat.beq c pc) with
    | true => rw [hc] at h; exact h
    | false => rw [hc] at h; exact lo_ok ht pc _ kr ls st M (fun _ _ _ _ h' => Wf.gc0 ht cuts n h') h
/-- from here on, up to a cut (a pc of the list): run -/
theorem Wf.gc {l : Launch} {X : Nat × (Nat → Int32)} {q : Md} {d : Nat} {na : Bool} {b : Nat × Nat} {tb : List (Nat × OP)} {kr : KR} (ht : ∀ x ∈ tb, OK l X q d na b x.1 x.2) (cuts : List Nat) {pc : Nat} {ls : Ls} {st : List Value} {M : Mm} (h : lo tb pc (gc l X q d na b tb kr cuts 400) kr ls st M) : Wf l X q d na b pc ls st M kr :=
  lo_ok ht pc _ kr ls st M (fun _ _ _ _ h' => Wf.gc0 ht cuts 400 h') h
theorem cle {x : Int32} {N n : Nat} (hx : x = nI N) (h : N ≤ n) (hn : n < 2147483648) : x ≤ nI n := by rw [hx]; exact nI_le h hn
theorem cnle {x : Int32} {N n : Nat} (hx : x = nI N) (h : n < N) (hn : N < 2147483648) : ¬ x ≤ nI n := by rw [hx]; exact nI_ge h hn
end
section
/-! feed and close: how taped goes -/
section FC
variable {a b : Nat}
noncomputable def fdA (a : Nat) : Nat := if a ≤ 880 then a + 20 else a
noncomputable def fdR (a : Nat) : Int32 := if a ≤ 880 then nI (a + 20) else -1
noncomputable def clA (n : Int32) (a : Nat) : Nat := if inB n 0 (nI a) = true then 0 else a
theorem fdA_b (h : a ≤ 900) : fdA a ≤ 900 := by unfold fdA; split <;> omega
theorem clA_b {n : Int32} (h : a ≤ 900) : clA n a ≤ 900 := by unfold clA; split <;> omega
theorem clA_i {n v : Int32} (h : v = nI a) : (if inB n 0 v = true then 0 else v) = nI (clA n a) := by
  rw [h]
  unfold clA
  split
  · rfl
  · rfl
theorem rwx_f {p : Nat} (hp : p < 2) : lkR (rwx p) 151 = [] ∧ rwB (lkR (rwx p) 150) 2 = (0, 900) ∧ rwB (lkR (rwx p) 150) 0 = (iLo, iHi) := by
  rcases lt2 hp with rfl | rfl <;> exact ⟨rfl, rfl, rfl⟩
end FC
end
section
section SA
variable {l : Launch} {X : Nat × (Nat → Int32)} {d : Nat} {w : Nat × Nat} {p r : Nat} {I : Nat → Nat → Int32} {L : Nat → Nat → Int64} {kr : KR}
theorem sX6_answer {v : Int32} (h : kr (some (.int v)) (mk w p r (u2 I 1 13 0) L)) : Ev l X uX6_answer d true 0 0 [.ref 1, .int v] (mk w p r I L) kr := by
  refine Ev.of (by decide) (Nat.le_of_ble_eq_true rfl) ?_
  refine Wf.go tkX6_answer 6 ?_
  conv => whnf
  exact h
theorem sX6_refuse {v : Int32} (h : kr (some (.int (-1))) (mk w p r (u2 I 1 13 v) L)) : Ev l X uX6_refuse d true 0 0 [.ref 1, .int v] (mk w p r I L) kr := by
  refine Ev.of (by decide) (Nat.le_of_ble_eq_true rfl) ?_
  refine Wf.go tkX6_refuse 6 ?_
  conv => whnf
  exact h
theorem sX6_within {x a b : Int32} {M : Mm} (h1 : a ≤ x → x ≤ b → kr (some (.int 1)) M) (h0 : ¬ (a ≤ x ∧ x ≤ b) → kr (some (.int 0)) M) : Ev l X uX6_within d true 0 0 [.int x, .int a, .int b] M kr := by
  refine Ev.of (by decide) (Nat.le_of_ble_eq_true rfl) ?_
  refine Wf.go tkX6_within 12 ?_
  conv => whnf
  refine ⟨fun c1 => ?_, fun c1 => ?_⟩
  · conv => whnf
    exact ⟨Or.inl rfl, h0 (fun z => absurd z.1 (Int32.not_le.mpr c1))⟩
  · conv => whnf
    refine ⟨fun c2 => ?_, fun c2 => ?_⟩
    · conv => whnf
      exact ⟨Or.inl rfl, h0 (fun z => absurd z.2 (Int32.not_le.mpr c2))⟩
    · conv => whnf
      exact ⟨Or.inr rfl, h1 (Int32.not_lt.mp c1) (Int32.not_lt.mp c2)⟩
theorem sX6_hasClose (hp : p = 7 ∨ p = 20) (h1 : 0 < I p 4 → kr (some (.int 1)) (mk w p r I L)) (h0 : ¬ 0 < I p 4 → kr (some (.int 0)) (mk w p r I L)) : Ev l X uX6_hasClose d true 0 0 [.ref 1] (mk w p r I L) kr := by
  refine Ev.of (by decide) (Nat.le_of_ble_eq_true rfl) ?_
  refine Wf.go tkX6_hasClose 12 ?_
  rcases hp with rfl | rfl
  all_goals
    conv => whnf
    refine ⟨fun c1 => ?_, fun c1 => ?_⟩
    · conv => whnf
      exact ⟨Or.inl rfl, h0 (Int32.not_lt.mpr c1)⟩
    · conv => whnf
      exact ⟨Or.inr rfl, h1 (Int32.not_le.mp c1)⟩
/-- a number below a count of the plan -/
theorem sX6_isFace {f : Int32} {N : Nat} (hp : p = 7 ∨ p = 20) (hN : I p 4 = nI N) (hb : N < 1000) (h1 : ∀ j, j < N → f = nI j → kr (some (.int 1)) (mk w p r I L)) (h0 : (¬ ∃ j, j < N ∧ f = nI j) → kr (some (.int 0)) (mk w p r I L)) : Ev l X uX6_isFace d true 0 0 [.ref 1, .int f] (mk w p r I L) kr := by
  refine Ev.of (by decide) (Nat.le_of_ble_eq_true rfl) ?_
  refine Wf.go tkX6_isFace 14 ?_
  rcases hp with rfl | rfl
  all_goals
    conv => whnf
    refine ⟨fun c1 => ?_, fun c1 => ?_⟩
    · conv => whnf
      exact ⟨Or.inl rfl, h0 (not_ix (by omega) (Or.inl c1))⟩
    · conv => whnf
      refine ⟨fun c2 => ?_, fun c2 => ?_⟩
      · conv => whnf
        exact ⟨Or.inl rfl, h0 (not_ix (by omega) (Or.inr (hN ▸ c2)))⟩
      · conv => whnf
        obtain ⟨j, hj, e⟩ := le_nI (n := N) (by omega) c1 (fun z => c2 (by rw [← hN] at z; exact z))
        exact ⟨Or.inr rfl, h1 j hj e⟩
theorem sX6_isCanon {f : Int32} {N : Nat} (hp : p = 7 ∨ p = 20) (hN : I p 10 = nI N) (hb : N < 1000) (h1 : ∀ j, j < N → f = nI j → kr (some (.int 1)) (mk w p r I L)) (h0 : (¬ ∃ j, j < N ∧ f = nI j) → kr (some (.int 0)) (mk w p r I L)) : Ev l X uX6_isCanon d true 0 0 [.ref 1, .int f] (mk w p r I L) kr := by
  refine Ev.of (by decide) (Nat.le_of_ble_eq_true rfl) ?_
  refine Wf.go tkX6_isCanon 14 ?_
  rcases hp with rfl | rfl
  all_goals
    conv => whnf
    refine ⟨fun c1 => ?_, fun c1 => ?_⟩
    · conv => whnf
      exact ⟨Or.inl rfl, h0 (not_ix (by omega) (Or.inl c1))⟩
    · conv => whnf
      refine ⟨fun c2 => ?_, fun c2 => ?_⟩
      · conv => whnf
        exact ⟨Or.inl rfl, h0 (not_ix (by omega) (Or.inr (hN ▸ c2)))⟩
      · conv => whnf
        obtain ⟨j, hj, e⟩ := le_nI (n := N) (by omega) c1 (fun z => c2 (by rw [← hN] at z; exact z))
        exact ⟨Or.inr rfl, h1 j hj e⟩
/-! a plan's own (a: 7 or 20) -/
end SA
end
section
/-! TOKENS of a text: bytes b, n of them; e: where the last one stopped -/
section TOK
noncomputable def isS (c : Nat) : Bool := Nat.ble 97 c && Nat.ble c 122
noncomputable def isD (c : Nat) : Bool := Nat.ble 48 c && Nat.ble c 57
noncomputable def fst (P : Nat → Bool) (n k : Nat) : Nat := (ff P (n - k) k).getD n
variable (b : Nat → Nat) (n : Nat)
/-- where the token begins -/
noncomputable def tst (e : Nat) : Nat := fst (fun j => !(Nat.beq (b j) 32)) n e
noncomputable def wen (s : Nat) : Nat := fst (fun j => !(isS (b j))) n s
noncomputable def den (s : Nat) : Nat := fst (fun j => !(isD (b j))) n s
/-- its sort: 0 the end, 1 a word, 2 a whole, 3 the mark, 4 none such -/
noncomputable def kso (s : Nat) : Nat := if n ≤ s then 0 else if isS (b s) = true then (if wen b n s - s ≤ 8 then 1 else 4) else if isD (b s) = true then (if den b n s - s ≤ 3 then 2 else 4) else if b s = 59 then 3 else 4
noncomputable def ksp (s : Nat) : Nat := if n ≤ s then s else if isS (b s) = true then wen b n s else if isD (b s) = true then den b n s else s + 1
noncomputable def tso (e : Nat) : Nat := kso b n (tst b n e)
noncomputable def tsp (e : Nat) : Nat := ksp b n (tst b n e)
/-- the first j digits from s on; so in Int32; letters in base 32 -/
noncomputable def dv (s : Nat) : Nat → Nat
  | 0 => 0
  | j + 1 => dv s j * 10 + (b (s + j) - 48)
noncomputable def sb (c : Nat) : Int32 := if c < 128 then nI c else nI c - 256
noncomputable def dvI (s : Nat) : Nat → Int32
  | 0 => 0
  | j + 1 => dvI s j * 10 + (sb (b (s + j)) - 48)
noncomputable def enc (s : Nat) : Nat → Int64
  | 0 => 0
  | j + 1 => enc s j * 32 + (sb (b (s + j)) - 97 + 1).toInt64
noncomputable def tvl (e : Nat) : Nat := dv b (tst b n e) (tsp b n e - tst b n e)
noncomputable def ten (e : Nat) : Int64 := enc b (tst b n e) (tsp b n e - tst b n e)
variable {b n}
theorem fst_ge {P : Nat → Bool} {n k : Nat} (h : k ≤ n) : k ≤ fst P n k ∧ fst P n k ≤ n := by
  unfold fst
  cases hf : ff P (n - k) k with
  | none => exact ⟨h, Nat.le_refl _⟩
  | some j =>
    obtain ⟨h1, h2, -⟩ := ff_lt hf
    show k ≤ j ∧ j ≤ n
    omega
theorem ff_no {P : Nat → Bool} : ∀ {n i j : Nat}, ff P n i = some j → ∀ k, i ≤ k → k < j → P k = false
  | 0, i, j, h, _, _, _ => by cases h
  | n + 1, i, j, h, k, h1, h2 => by
    unfold ff at h
    cases hP : P i with
    | true =>
      rw [hP, if_pos rfl] at h
      cases h
      omega
    | false =>
      rw [hP, if_neg (by decide)] at h
      rcases Nat.lt_or_ge i k with z | z
      · exact ff_no h k (by omega) h2
      · rw [show k = i by omega]; exact hP
theorem ff_none {P : Nat → Bool} : ∀ {n i : Nat}, ff P n i = none → ∀ k, i ≤ k → k < i + n → P k = false
  | 0, i, _, k, h1, h2 => by omega
  | n + 1, i, h, k, h1, h2 => by
    unfold ff at h
    cases hP : P i with
    | true => rw [hP, if_pos rfl] at h; cases h
    | false =>
      rw [hP, if_neg (by decide)] at h
      rcases Nat.lt_or_ge i k with z | z
      · exact ff_none h k (by omega) (by omega)
      · rw [show k = i by omega]; exact hP
theorem fst_in {P : Nat → Bool} {n k j : Nat} (h1 : k ≤ j) (h2 : j < fst P n k) : P j = false := by
  unfold fst at h2
  cases hf : ff P (n - k) k with
  | none => rw [hf] at h2; have h2 : j < n := h2; exact ff_none hf j h1 (by omega)
  | some m => rw [hf] at h2; exact ff_no hf j h1 h2
theorem fst_gt {P : Nat → Bool} {n k : Nat} (h : k < n) (hP : P k = false) : k < fst P n k := by
  rcases Nat.lt_or_ge k (fst P n k) with z | z
  · exact z
  · exfalso
    have h1 := (fst_ge (P := P) (n := n) (k := k) (by omega)).1
    have e : fst P n k = k := by omega
    unfold fst at e
    cases hf : ff P (n - k) k with
    | none => rw [hf] at e; have e : n = k := e; omega
    | some m =>
      rw [hf] at e
      have e : m = k := e
      have := (ff_lt hf).2.2
      rw [e, hP] at this
      cases this
theorem tst_b {e : Nat} (h : e ≤ n) : e ≤ tst b n e ∧ tst b n e ≤ n := fst_ge h
theorem ksp_b {s : Nat} (h : s ≤ n) : s ≤ ksp b n s ∧ ksp b n s ≤ n := by
  unfold ksp
  split
  · omega
  · split
    · exact fst_ge h
    · split
      · exact fst_ge h
      · omega
theorem tsp_b {e : Nat} (h : e ≤ n) : tst b n e ≤ tsp b n e ∧ tsp b n e ≤ n := ksp_b (tst_b h).2
/-- behind any token but the end the text is shorter -/
theorem tsp_gt {e : Nat} (h : e ≤ n) (ht : tso b n e ≠ 0) : e < tsp b n e := by
  have h1 := (tst_b (b := b) h).1
  have h2 := (tst_b (b := b) h).2
  unfold tso kso at ht
  unfold tsp ksp
  rcases Nat.lt_or_ge (tst b n e) n with z | z
  · rw [if_neg (by omega)]
    split
    · rename_i hs
      have := fst_gt (P := fun j => !(isS (b j))) z (by show (!(isS (b (tst b n e)))) = false; rw [hs]; rfl)
      show e < fst (fun j => !(isS (b j))) n (tst b n e)
      omega
    · split
      · rename_i hd
        have := fst_gt (P := fun j => !(isD (b j))) z (by show (!(isD (b (tst b n e)))) = false; rw [hd]; rfl)
        show e < fst (fun j => !(isD (b j))) n (tst b n e)
        omega
      · omega
  · rw [if_pos z] at ht
    exact absurd rfl ht
/-- a word has at most 8 letters, small ones -/
theorem word_b {e : Nat} (h : e ≤ n) (ht : tso b n e = 1) : tsp b n e - tst b n e ≤ 8 ∧ 1 ≤ tsp b n e - tst b n e ∧ ∀ j, tst b n e ≤ j → j < tsp b n e → isS (b j) = true := by
  have h2 := (tst_b (b := b) h).2
  unfold tso kso at ht
  unfold tsp ksp
  split at ht
  · omega
  · rename_i z
    rw [if_neg z]
    split at ht
    · rename_i hs
      rw [if_pos hs]
      split at ht
      · rename_i h8
        refine ⟨h8, ?_, fun j h3 h4 => ?_⟩
        · have := fst_gt (P := fun j => !(isS (b j))) (n := n) (k := tst b n e) (by omega) (by show (!(isS (b (tst b n e)))) = false; rw [hs]; rfl)
          have : tst b n e < wen b n (tst b n e) := this
          omega
        · have := fst_in (P := fun j => !(isS (b j))) h3 h4
          have this : (!(isS (b j))) = false := this
          cases hq : isS (b j) with
          | true => rfl
          | false => rw [hq] at this; cases this
      · omega
    · split at ht
      · split at ht <;> omega
      · split at ht <;> omega
/-- a whole has at most 3 digits -/
theorem whole_b {e : Nat} (h : e ≤ n) (ht : tso b n e = 2) : tsp b n e - tst b n e ≤ 3 ∧ ∀ j, tst b n e ≤ j → j < tsp b n e → isD (b j) = true := by
  have h2 := (tst_b (b := b) h).2
  unfold tso kso at ht
  unfold tsp ksp
  split at ht
  · omega
  · rename_i z
    rw [if_neg z]
    split at ht
    · split at ht <;> omega
    · rename_i hs
      rw [if_neg hs]
      split at ht
      · rename_i hd
        rw [if_pos hd]
        split at ht
        · rename_i h3
          refine ⟨h3, fun j h3 h4 => ?_⟩
          have := fst_in (P := fun j => !(isD (b j))) h3 h4
          have this : (!(isD (b j))) = false := this
          cases hq : isD (b j) with
          | true => rfl
          | false => rw [hq] at this; cases this
        · omega
      · split at ht <;> omega
theorem isD_b {c : Nat} (h : isD c = true) : 48 ≤ c ∧ c ≤ 57 := by
  obtain ⟨h1, h2⟩ := andT h
  exact ⟨Nat.le_of_ble_eq_true h1, Nat.le_of_ble_eq_true h2⟩
theorem isS_b {c : Nat} (h : isS c = true) : 97 ≤ c ∧ c ≤ 122 := by
  obtain ⟨h1, h2⟩ := andT h
  exact ⟨Nat.le_of_ble_eq_true h1, Nat.le_of_ble_eq_true h2⟩
theorem sb_lo {c : Nat} (h : c < 128) : sb c = nI c := if_pos h
theorem dv_b {s : Nat} : ∀ {j : Nat}, (∀ k, k < j → isD (b (s + k)) = true) → dv b s j < 10 ^ j
  | 0, _ => Nat.zero_lt_one
  | j + 1, h => by
    have h1 := dv_b (s := s) (j := j) (fun k hk => h k (by omega))
    have h2 := isD_b (h j (by omega))
    show dv b s j * 10 + (b (s + j) - 48) < 10 ^ (j + 1)
    rw [Nat.pow_succ]
    omega
theorem nI_mul (x y : Nat) : nI x * nI y = nI (x * y) := (Int32.ofNat_mul x y).symm
theorem dvI_eq {s : Nat} : ∀ {j : Nat}, (∀ k, k < j → isD (b (s + k)) = true) → dvI b s j = nI (dv b s j)
  | 0, _ => rfl
  | j + 1, h => by
    have h1 := dvI_eq (s := s) (j := j) (fun k hk => h k (by omega))
    have h2 := isD_b (h j (by omega))
    show dvI b s j * 10 + (sb (b (s + j)) - 48) = nI (dv b s j * 10 + (b (s + j) - 48))
    have e : (sb (b (s + j)) - 48 : Int32) = nI (b (s + j) - 48) := by
      rw [sb_lo (by omega)]
      have z : nI (b (s + j)) = nI (b (s + j) - 48) + 48 := by
        rw [show (nI (b (s + j) - 48) + 48 : Int32) = nI (b (s + j) - 48 + 48) from nI_add _ 48, Nat.sub_add_cancel h2.1]
      rw [z]
      exact Int32.add_sub_cancel _ _
    rw [e, h1, show (nI (dv b s j) * 10 : Int32) = nI (dv b s j * 10) from nI_mul _ 10, nI_add]
theorem tvl_b {e : Nat} (h : e ≤ n) (ht : tso b n e = 2) : tvl b n e < 1000 ∧ dvI b (tst b n e) (tsp b n e - tst b n e) = nI (tvl b n e) := by
  obtain ⟨h1, h2⟩ := whole_b h ht
  have h3 : ∀ k, k < tsp b n e - tst b n e → isD (b (tst b n e + k)) = true := fun k hk => h2 _ (by omega) (by omega)
  refine ⟨?_, dvI_eq h3⟩
  have h4 := dv_b h3
  have h5 : 10 ^ (tsp b n e - tst b n e) ≤ 10 ^ 3 := Nat.pow_le_pow_right (by decide) h1
  show dv b _ _ < 1000
  omega
end TOK
end
section
/-! the class's tokens -/
section TKC
variable {l : Launch} {X : Nat × (Nat → Int32)} {d : Nat} {w : Nat × Nat} {p r : Nat} {I : Nat → Nat → Int32} {L : Nat → Nat → Int64} {kr : KR} {b : Nat → Nat} {n e s : Nat}
/-- the text at hand -/
noncomputable def TX (b : Nat → Nat) (n : Nat) (I : Nat → Nat → Int32) : Prop := n ≤ 900 ∧ I 2 2 = nI n ∧ ∀ i, i < n → b i < 256 ∧ I 3 i = sb (b i)
/-- the token at hand -/
noncomputable def TC (b : Nat → Nat) (n e : Nat) (I : Nat → Nat → Int32) (L : Nat → Nat → Int64) : Prop := I 2 4 = nI (tso b n e) ∧ I 2 5 = nI (tst b n e) ∧ I 2 6 = nI (tsp b n e) ∧ (tso b n e = 2 → I 2 7 = nI (tvl b n e)) ∧ (tso b n e = 1 → L 2 8 = ten b n e)
/-- nothing but the token has changed -/
noncomputable def sT (I I' : Nat → Nat → Int32) (L L' : Nat → Nat → Int64) : Prop := (∀ a i, ¬ (a = 2 ∧ 4 ≤ i ∧ i ≤ 7) → I' a i = I a i) ∧ ∀ a i, ¬ (a = 2 ∧ i = 8) → L' a i = L a i
theorem sb32 : ∀ c, c < 256 → (sb c = 32 ↔ Nat.beq c 32 = true) := by decide +kernel
theorem sb59 : ∀ c, c < 256 → (sb c = 59 ↔ c = 59) := by decide +kernel
theorem sbS : ∀ c, c < 256 → (isS c = true ↔ (¬ sb c < 97 ∧ ¬ 122 < sb c)) := by decide +kernel
theorem sbD : ∀ c, c < 256 → (isD c = true ↔ (¬ sb c < 48 ∧ ¬ 57 < sb c)) := by decide +kernel
theorem u2_2 {α : Type} {I : Nat → Nat → α} {a i : Nat} {u v : α} : u2 (u2 I a i u) a i v = u2 I a i v := by
  funext c j
  unfold u2
  split <;> rfl
theorem u2_c {α : Type} {I : Nat → Nat → α} {a i c j : Nat} {u v : α} (h : ¬ (a = c ∧ i = j)) : u2 (u2 I a i u) c j v = u2 (u2 I c j v) a i u := by
  funext x y
  unfold u2
  by_cases h1 : x = c ∧ y = j
  · rw [if_pos h1, if_neg (fun z => h ⟨z.1.symm.trans h1.1, z.2.symm.trans h1.2⟩), if_pos h1]
  · rw [if_neg h1]
    by_cases h2 : x = a ∧ y = i
    · rw [if_pos h2, if_pos h2]
    · rw [if_neg h2, if_neg h2, if_neg h1]
set_option maxRecDepth 20000 in
theorem x_takeWord (ht : TX b n I) (hs : s ≤ n) (h5 : I 2 5 = nI s) (h6 : I 2 6 = nI s) (h : kr none (mk w p r (u2 (u2 I 2 6 (nI (wen b n s))) 2 4 (if wen b n s - s ≤ 8 then 1 else 4)) (u2 L 2 8 (enc b s (wen b n s - s))))) : Ev l X uX4_takeWord d true 0 0 [.ref 2] (mk w p r I L) kr := by
  obtain ⟨h9, h2, hb⟩ := ht
  refine Ev.of (by decide) (Nat.le_of_ble_eq_true rfl) ?_
  have fin : ∀ i, i ≤ n → i = wen b n s → Wf l X uX4_takeWord d true (mC (mk w p r I L) + 0, mS (mk w p r I L) + 0) 85 [(0, .ref 2)] [] (mk w p r (u2 I 2 6 (nI i)) (u2 L 2 8 (enc b s (i - s)))) kr := by
    intro i hi ei
    have hw := (fst_ge (P := fun j => !(isS (b j))) hs).1
    have hw : s ≤ wen b n s := hw
    subst ei
    refine Wf.gc tkX4_takeWord [] ?_
    conv => whnf
    have e1 : (nI (wen b n s) - nI s : Int32) = nI (wen b n s - s) := by
      have z : nI (wen b n s) = nI (wen b n s - s) + nI s := by rw [nI_add, Nat.sub_add_cancel hw]
      rw [z]
      exact Int32.add_sub_cancel _ _
    have e2 : (nI (wen b n s) - I 2 5 : Int32) = nI (wen b n s - s) := by rw [h5]; exact e1
    refine ⟨fun z => ?_, fun z => ?_⟩
    · have z : (8 : Int32) < nI (wen b n s) - I 2 5 := z
      rw [e2, show (8 : Int32) = nI 8 from rfl, nI_ltI (by decide) (by omega)] at z
      rw [if_neg (by omega)] at h
      conv => whnf
      exact h
    · have z : ¬ (8 : Int32) < nI (wen b n s) - I 2 5 := z
      rw [e2, show (8 : Int32) = nI 8 from rfl, nI_ltI (by decide) (by omega)] at z
      rw [if_pos (by omega)] at h
      conv => whnf
      exact h
  have loop : ∀ i, i ≤ n → s ≤ i → Wf l X uX4_takeWord d true (mC (mk w p r I L) + 0, mS (mk w p r I L) + 0) 85 [(0, .ref 2)] [] (mk w p r (u2 I 2 6 (nI (fst (fun j => !(isS (b j))) n i))) (u2 L 2 8 (enc b s (fst (fun j => !(isS (b j))) n i - s)))) kr → Wf l X uX4_takeWord d true (mC (mk w p r I L) + 0, mS (mk w p r I L) + 0) 5 [(0, .ref 2)] [] (mk w p r (u2 I 2 6 (nI i)) (u2 L 2 8 (enc b s (i - s)))) kr := by
    refine srch (e := n) (P := fun j => !(isS (b j))) (Wi := fun i => s ≤ i → Wf l X uX4_takeWord d true (mC (mk w p r I L) + 0, mS (mk w p r I L) + 0) 5 [(0, .ref 2)] [] (mk w p r (u2 I 2 6 (nI i)) (u2 L 2 8 (enc b s (i - s)))) kr) (K := fun o => Wf l X uX4_takeWord d true (mC (mk w p r I L) + 0, mS (mk w p r I L) + 0) 85 [(0, .ref 2)] [] (mk w p r (u2 I 2 6 (nI (o.getD n))) (u2 L 2 8 (enc b s (o.getD n - s)))) kr) ?_ ?_ |> fun q i h1 h2 h3 => q i h1 h3 h2
    · intro hK hsi
      refine Wf.gc tkX4_takeWord [85] ?_
      conv => whnf
      refine b1 (fun z => z ?_) ?_
      · show I 2 2 ≤ nI n
        rw [h2]
        exact Int32.le_refl _
      conv => whnf
      exact hK
    · intro i hi
      obtain ⟨hb1, hb2⟩ := hb i hi
      have head : (¬ (¬ sb (b i) < 97 ∧ ¬ 122 < sb (b i)) → Wf l X uX4_takeWord d true (mC (mk w p r I L) + 0, mS (mk w p r I L) + 0) 85 [(0, .ref 2)] [] (mk w p r (u2 I 2 6 (nI i)) (u2 L 2 8 (enc b s (i - s)))) kr) → ((¬ sb (b i) < 97 ∧ ¬ 122 < sb (b i)) → Wf l X uX4_takeWord d true (mC (mk w p r I L) + 0, mS (mk w p r I L) + 0) 44 [(0, .ref 2)] [] (mk w p r (u2 I 2 6 (nI i)) (u2 L 2 8 (enc b s (i - s)))) kr) → Wf l X uX4_takeWord d true (mC (mk w p r I L) + 0, mS (mk w p r I L) + 0) 5 [(0, .ref 2)] [] (mk w p r (u2 I 2 6 (nI i)) (u2 L 2 8 (enc b s (i - s)))) kr := by
        intro j1 j2
        refine Wf.gc tkX4_takeWord [85, 44] ?_
        conv => whnf
        refine b2 ?_ ?_
        · show ¬ I 2 2 ≤ nI i
          rw [h2]
          exact nI_ge hi (by omega)
        conv => whnf
        refine ⟨i, ix (N := 900) (by omega) (by decide), ?_⟩
        conv => whnf
        refine ⟨fun z => ?_, fun z => ?_⟩
        · have z : I 3 i < 97 := z
          rw [hb2] at z
          conv => whnf
          exact j1 (fun q => q.1 z)
        · have z : ¬ I 3 i < 97 := z
          rw [hb2] at z
          conv => whnf
          refine ⟨i, ix (N := 900) (by omega) (by decide), ?_⟩
          conv => whnf
          refine ⟨fun z2 => ?_, fun z2 => ?_⟩
          · have z2 : 122 < I 3 i := z2
            rw [hb2] at z2
            conv => whnf
            exact j1 (fun q => q.2 z2)
          · have z2 : ¬ 122 < I 3 i := z2
            rw [hb2] at z2
            conv => whnf
            exact j2 ⟨z, z2⟩
      refine ⟨fun hP hK hsi => ?_, fun hP hK hsi => ?_⟩
      · have hP : (!(isS (b i))) = true := hP
        refine head (fun _ => hK) (fun q => ?_)
        rw [(sbS (b i) hb1).mpr q] at hP
        cases hP
      · have hP : (!(isS (b i))) = false := hP
        have hS : isS (b i) = true := by
          cases hq : isS (b i) with
          | true => rfl
          | false => rw [hq] at hP; cases hP
        refine head (fun q => absurd ((sbS (b i) hb1).mp hS) q) (fun _ => ?_)
        refine Wf.gc tkX4_takeWord [5] ?_
        conv => whnf
        refine ⟨i, ix (N := 900) (by omega) (by decide), ?_⟩
        conv => whnf
        have hK := hK (by omega)
        have e1 : i + 1 - s = (i - s) + 1 := by omega
        rw [e1] at hK
        have e2 : enc b s (i - s + 1) = enc b s (i - s) * 32 + (sb (b i) - 97 + 1).toInt64 := by
          show enc b s (i - s) * 32 + (sb (b (s + (i - s))) - 97 + 1).toInt64 = _
          rw [show s + (i - s) = i by omega]
        rw [e2, ← nI_1, ← hb2] at hK
        have e3 : u2 I 2 6 (nI i + 1) = u2 (u2 I 2 6 (nI i)) 2 6 (nI i + 1) := u2_2.symm
        have e4 : u2 L 2 8 (enc b s (i - s) * 32 + (I 3 i - 97 + 1).toInt64) = u2 (u2 L 2 8 (enc b s (i - s))) 2 8 (enc b s (i - s) * 32 + (I 3 i - 97 + 1).toInt64) := u2_2.symm
        rw [e3, e4] at hK
        exact hK
  refine Wf.gc tkX4_takeWord [5] ?_
  conv => whnf
  have q := loop s hs (Nat.le_refl _) (fin _ (fst_ge hs).2 rfl)
  have e0 : u2 I 2 6 (nI s) = I := by
    funext x y
    unfold u2
    split
    · rename_i z; rw [z.1, z.2, h6]
    · rfl
  rw [e0, Nat.sub_self] at q
  exact q
end TKC
end
section
section TKW
variable {l : Launch} {X : Nat × (Nat → Int32)} {d : Nat} {w : Nat × Nat} {p r : Nat} {I : Nat → Nat → Int32} {L : Nat → Nat → Int64} {kr : KR} {b : Nat → Nat} {n e s : Nat}
set_option maxRecDepth 20000 in
theorem x_takeWhole (ht : TX b n I) (hs : s ≤ n) (h5 : I 2 5 = nI s) (h6 : I 2 6 = nI s) (h : kr none (mk w p r (u2 (u2 (u2 I 2 7 (dvI b s (den b n s - s))) 2 6 (nI (den b n s))) 2 4 (if den b n s - s ≤ 3 then 2 else 4)) L)) : Ev l X uX4_takeWhole d true 0 0 [.ref 2] (mk w p r I L) kr := by
  obtain ⟨h9, h2, hb⟩ := ht
  refine Ev.of (by decide) (Nat.le_of_ble_eq_true rfl) ?_
  have fin : ∀ i, i ≤ n → i = den b n s → Wf l X uX4_takeWhole d true (mC (mk w p r I L) + 0, mS (mk w p r I L) + 0) 81 [(0, .ref 2)] [] (mk w p r (u2 (u2 I 2 7 (dvI b s (i - s))) 2 6 (nI i)) L) kr := by
    intro i hi ei
    have hw := (fst_ge (P := fun j => !(isD (b j))) hs).1
    have hw : s ≤ den b n s := hw
    subst ei
    refine Wf.gc tkX4_takeWhole [] ?_
    conv => whnf
    have e1 : (nI (den b n s) - nI s : Int32) = nI (den b n s - s) := by
      have z : nI (den b n s) = nI (den b n s - s) + nI s := by rw [nI_add, Nat.sub_add_cancel hw]
      rw [z]
      exact Int32.add_sub_cancel _ _
    have e2 : (nI (den b n s) - I 2 5 : Int32) = nI (den b n s - s) := by rw [h5]; exact e1
    refine ⟨fun z => ?_, fun z => ?_⟩
    · have z : (3 : Int32) < nI (den b n s) - I 2 5 := z
      rw [e2, show (3 : Int32) = nI 3 from rfl, nI_ltI (by decide) (by omega)] at z
      rw [if_neg (by omega)] at h
      conv => whnf
      exact h
    · have z : ¬ (3 : Int32) < nI (den b n s) - I 2 5 := z
      rw [e2, show (3 : Int32) = nI 3 from rfl, nI_ltI (by decide) (by omega)] at z
      rw [if_pos (by omega)] at h
      conv => whnf
      exact h
  have loop : ∀ i, i ≤ n → s ≤ i → Wf l X uX4_takeWhole d true (mC (mk w p r I L) + 0, mS (mk w p r I L) + 0) 81 [(0, .ref 2)] [] (mk w p r (u2 (u2 I 2 7 (dvI b s ((fst (fun j => !(isD (b j))) n i) - s))) 2 6 (nI (fst (fun j => !(isD (b j))) n i))) L) kr → Wf l X uX4_takeWhole d true (mC (mk w p r I L) + 0, mS (mk w p r I L) + 0) 5 [(0, .ref 2)] [] (mk w p r (u2 (u2 I 2 7 (dvI b s (i - s))) 2 6 (nI i)) L) kr := by
    refine srch (e := n) (P := fun j => !(isD (b j))) (Wi := fun i => s ≤ i → Wf l X uX4_takeWhole d true (mC (mk w p r I L) + 0, mS (mk w p r I L) + 0) 5 [(0, .ref 2)] [] (mk w p r (u2 (u2 I 2 7 (dvI b s (i - s))) 2 6 (nI i)) L) kr) (K := fun o => Wf l X uX4_takeWhole d true (mC (mk w p r I L) + 0, mS (mk w p r I L) + 0) 81 [(0, .ref 2)] [] (mk w p r (u2 (u2 I 2 7 (dvI b s (o.getD n - s))) 2 6 (nI (o.getD n))) L) kr) ?_ ?_ |> fun q i h1 h2 h3 => q i h1 h3 h2
    · intro hK hsi
      refine Wf.gc tkX4_takeWhole [81] ?_
      conv => whnf
      refine b1 (fun z => z ?_) ?_
      · show I 2 2 ≤ nI n
        rw [h2]
        exact Int32.le_refl _
      conv => whnf
      exact hK
    · intro i hi
      obtain ⟨hb1, hb2⟩ := hb i hi
      have head : (¬ (¬ sb (b i) < 48 ∧ ¬ 57 < sb (b i)) → Wf l X uX4_takeWhole d true (mC (mk w p r I L) + 0, mS (mk w p r I L) + 0) 81 [(0, .ref 2)] [] (mk w p r (u2 (u2 I 2 7 (dvI b s (i - s))) 2 6 (nI i)) L) kr) → ((¬ sb (b i) < 48 ∧ ¬ 57 < sb (b i)) → Wf l X uX4_takeWhole d true (mC (mk w p r I L) + 0, mS (mk w p r I L) + 0) 44 [(0, .ref 2)] [] (mk w p r (u2 (u2 I 2 7 (dvI b s (i - s))) 2 6 (nI i)) L) kr) → Wf l X uX4_takeWhole d true (mC (mk w p r I L) + 0, mS (mk w p r I L) + 0) 5 [(0, .ref 2)] [] (mk w p r (u2 (u2 I 2 7 (dvI b s (i - s))) 2 6 (nI i)) L) kr := by
        intro j1 j2
        refine Wf.gc tkX4_takeWhole [81, 44] ?_
        conv => whnf
        refine b2 ?_ ?_
        · show ¬ I 2 2 ≤ nI i
          rw [h2]
          exact nI_ge hi (by omega)
        conv => whnf
        refine ⟨i, ix (N := 900) (by omega) (by decide), ?_⟩
        conv => whnf
        refine ⟨fun z => ?_, fun z => ?_⟩
        · have z : I 3 i < 48 := z
          rw [hb2] at z
          conv => whnf
          exact j1 (fun q => q.1 z)
        · have z : ¬ I 3 i < 48 := z
          rw [hb2] at z
          conv => whnf
          refine ⟨i, ix (N := 900) (by omega) (by decide), ?_⟩
          conv => whnf
          refine ⟨fun z2 => ?_, fun z2 => ?_⟩
          · have z2 : 57 < I 3 i := z2
            rw [hb2] at z2
            conv => whnf
            exact j1 (fun q => q.2 z2)
          · have z2 : ¬ 57 < I 3 i := z2
            rw [hb2] at z2
            conv => whnf
            exact j2 ⟨z, z2⟩
      refine ⟨fun hP hK hsi => ?_, fun hP hK hsi => ?_⟩
      · have hP : (!(isD (b i))) = true := hP
        refine head (fun _ => hK) (fun q => ?_)
        rw [(sbD (b i) hb1).mpr q] at hP
        cases hP
      · have hP : (!(isD (b i))) = false := hP
        have hS : isD (b i) = true := by
          cases hq : isD (b i) with
          | true => rfl
          | false => rw [hq] at hP; cases hP
        refine head (fun q => absurd ((sbD (b i) hb1).mp hS) q) (fun _ => ?_)
        refine Wf.gc tkX4_takeWhole [5] ?_
        conv => whnf
        refine ⟨i, ix (N := 900) (by omega) (by decide), ?_⟩
        conv => whnf
        have hK := hK (by omega)
        have e1 : i + 1 - s = (i - s) + 1 := by omega
        rw [e1] at hK
        have e2 : dvI b s (i - s + 1) = dvI b s (i - s) * 10 + (sb (b i) - 48) := by
          show dvI b s (i - s) * 10 + (sb (b (s + (i - s))) - 48) = _
          rw [show s + (i - s) = i by omega]
        rw [e2, ← nI_1, ← hb2] at hK
        have e3 : u2 (u2 (u2 (u2 I 2 7 (dvI b s (i - s))) 2 6 (nI i)) 2 7 (dvI b s (i - s) * 10 + (I 3 i - 48))) 2 6 (nI i + 1) = u2 (u2 I 2 7 (dvI b s (i - s) * 10 + (I 3 i - 48))) 2 6 (nI i + 1) := by
          rw [u2_c (a := 2) (i := 6) (c := 2) (j := 7) (by decide), u2_2, u2_2]
        rw [← e3] at hK
        exact hK
  refine Wf.gc tkX4_takeWhole [5] ?_
  conv => whnf
  have q := loop s hs (Nat.le_refl _) (fin _ (fst_ge hs).2 rfl)
  have e0 : u2 (u2 I 2 7 0) 2 6 (nI s) = u2 I 2 7 0 := by
    funext x y
    show (if x = 2 ∧ y = 6 then nI s else u2 I 2 7 0 x y) = u2 I 2 7 0 x y
    split
    · rename_i z
      rw [z.1, z.2, u2_o (by decide), h6]
    · rfl
  rw [Nat.sub_self] at q
  have q : Wf l X uX4_takeWhole d true (mC (mk w p r I L) + 0, mS (mk w p r I L) + 0) 5 [(0, .ref 2)] [] (mk w p r (u2 (u2 I 2 7 0) 2 6 (nI s)) L) kr := q
  rw [e0] at q
  exact q
/-- where a token is, in I and L -/
theorem TC_of (he : e ≤ n) {I' : Nat → Nat → Int32} {L' : Nat → Nat → Int64} (h4 : I' 2 4 = nI (tso b n e)) (h5 : I' 2 5 = nI (tst b n e)) (h6 : I' 2 6 = nI (tsp b n e)) (h7 : tso b n e = 2 → I' 2 7 = dvI b (tst b n e) (tsp b n e - tst b n e)) (h8 : tso b n e = 1 → L' 2 8 = enc b (tst b n e) (tsp b n e - tst b n e)) : TC b n e I' L' :=
  ⟨h4, h5, h6, fun z => (h7 z).trans (tvl_b he z).2, h8⟩
set_option maxRecDepth 20000 in
theorem x_take (ht : TX b n I) (he : e ≤ n) (h6 : I 2 6 = nI e) (h : ∀ I' L', sT I I' L L' → TC b n e I' L' → kr none (mk w p r I' L')) : Ev l X uX4_take (d + 1) true 0 0 [.ref 2] (mk w p r I L) kr := by
  obtain ⟨h9, h2, hb⟩ := id ht
  have hs := tst_b (b := b) he
  refine Ev.of (by decide) (Nat.le_of_ble_eq_true rfl) ?_
  -- from the token's first byte on
  have main : ∀ s, s = tst b n e → Wf l X uX4_take (d + 1) true (mC (mk w p r I L) + 0, mS (mk w p r I L) + 0) 46 [(0, .ref 2)] [] (mk w p r (u2 I 2 5 (nI s)) L) kr := by
    intro s es
    have hsn : s ≤ n := by rw [es]; exact hs.2
    have e5 : u2 (u2 I 2 5 (nI s)) 2 6 (nI s) 2 5 = nI s := rfl
    have tx : TX b n (u2 (u2 I 2 5 (nI s)) 2 6 (nI s)) := ⟨h9, h2, hb⟩
    refine Wf.gc tkX4_take [73] ?_
    conv => whnf
    refine ⟨fun z => ?_, fun z => ?_⟩
    · have z : nI s < I 2 2 := z
      rw [h2, nI_ltI (by omega) (by omega)] at z
      obtain ⟨b1, b2⟩ := hb s z
      have nz : ¬ n ≤ s := by omega
      -- a word, a whole, another byte
      have cW : (¬ sb (b s) < 97 ∧ ¬ 122 < sb (b s)) → Wf l X uX4_take (d + 1) true (mC (mk w p r I L) + 0, mS (mk w p r I L) + 0) 101 [(0, .ref 2)] [] (mk w p r (u2 (u2 I 2 5 (nI s)) 2 6 (nI s)) L) kr := by
        intro q
        have hS := (sbS (b s) b1).mpr q
        refine Wf.gc tkX4_take [] ?_
        conv => whnf
        refine x_takeWord (s := s) tx hsn rfl rfl ?_
        conv => whnf
        refine h _ _ ⟨fun a i hn => ?_, fun a i hn => u2_o hn⟩ (TC_of he ?_ ?_ ?_ ?_ ?_)
        · rw [u2_o (by omega), u2_o (by omega), u2_o (by omega), u2_o (by omega)]
        · show (if wen b n s - s ≤ 8 then (1 : Int32) else 4) = nI (tso b n e)
          unfold tso kso
          rw [← es, if_neg nz, if_pos hS]
          split <;> rfl
        · show nI s = _
          rw [es]
        · show nI (wen b n s) = nI (tsp b n e)
          unfold tsp ksp
          rw [← es, if_neg nz, if_pos hS]
        · intro q2
          unfold tso kso at q2
          rw [← es, if_neg nz, if_pos hS] at q2
          split at q2 <;> omega
        · intro _
          show enc b s (wen b n s - s) = _
          unfold tsp ksp
          rw [← es, if_neg nz, if_pos hS]
      have cX : ¬ (¬ sb (b s) < 97 ∧ ¬ 122 < sb (b s)) → Wf l X uX4_take (d + 1) true (mC (mk w p r I L) + 0, mS (mk w p r I L) + 0) 108 [(0, .ref 2)] [] (mk w p r (u2 (u2 I 2 5 (nI s)) 2 6 (nI s)) L) kr := by
        intro q
        have hS : ¬ isS (b s) = true := fun z => q ((sbS (b s) b1).mp z)
        have cD : (¬ sb (b s) < 48 ∧ ¬ 57 < sb (b s)) → Wf l X uX4_take (d + 1) true (mC (mk w p r I L) + 0, mS (mk w p r I L) + 0) 136 [(0, .ref 2)] [] (mk w p r (u2 (u2 I 2 5 (nI s)) 2 6 (nI s)) L) kr := by
          intro q
          have hD := (sbD (b s) b1).mpr q
          refine Wf.gc tkX4_take [] ?_
          conv => whnf
          refine x_takeWhole (s := s) tx hsn rfl rfl ?_
          conv => whnf
          refine h _ _ ⟨fun a i hn => ?_, fun a i hn => rfl⟩ (TC_of he ?_ ?_ ?_ ?_ ?_)
          · rw [u2_o (by omega), u2_o (by omega), u2_o (by omega), u2_o (by omega), u2_o (by omega)]
          · show (if den b n s - s ≤ 3 then (2 : Int32) else 4) = nI (tso b n e)
            unfold tso kso
            rw [← es, if_neg nz, if_neg hS, if_pos hD]
            split <;> rfl
          · show nI s = _
            rw [es]
          · show nI (den b n s) = nI (tsp b n e)
            unfold tsp ksp
            rw [← es, if_neg nz, if_neg hS, if_pos hD]
          · intro _
            show dvI b s (den b n s - s) = _
            unfold tsp ksp
            rw [← es, if_neg nz, if_neg hS, if_pos hD]
          · intro q2
            unfold tso kso at q2
            rw [← es, if_neg nz, if_neg hS, if_pos hD] at q2
            split at q2 <;> omega
        have cO : ¬ (¬ sb (b s) < 48 ∧ ¬ 57 < sb (b s)) → Wf l X uX4_take (d + 1) true (mC (mk w p r I L) + 0, mS (mk w p r I L) + 0) 143 [(0, .ref 2)] [] (mk w p r (u2 (u2 I 2 5 (nI s)) 2 6 (nI s)) L) kr := by
          intro q
          have hD : ¬ isD (b s) = true := fun z => q ((sbD (b s) b1).mp z)
          have fin : ∀ (k : Nat), k = tso b n e → kr none (mk w p r (u2 (u2 (u2 (u2 I 2 5 (nI s)) 2 6 (nI s)) 2 6 (nI s + 1)) 2 4 (nI k)) L) := by
            intro k hk
            refine h _ _ ⟨fun a i hn => ?_, fun a i hn => rfl⟩ (TC_of he ?_ ?_ ?_ ?_ ?_)
            · rw [u2_o (by omega), u2_o (by omega), u2_o (by omega), u2_o (by omega)]
            · show nI k = _
              rw [hk]
            · show nI s = _
              rw [es]
            · show nI s + 1 = nI (tsp b n e)
              unfold tsp ksp
              rw [← es, if_neg nz, if_neg hS, if_neg hD, nI_1]
            · intro q2
              unfold tso kso at q2
              rw [← es, if_neg nz, if_neg hS, if_neg hD] at q2
              split at q2 <;> omega
            · intro q2
              unfold tso kso at q2
              rw [← es, if_neg nz, if_neg hS, if_neg hD] at q2
              split at q2 <;> omega
          refine Wf.gc tkX4_take [] ?_
          conv => whnf
          refine ⟨s, ix (N := 900) (by omega) (by decide), ?_⟩
          conv => whnf
          refine ⟨fun z => ?_, fun z => ?_⟩
          · have z : ¬ I 3 s = 59 := z
            rw [b2, sb59 (b s) b1] at z
            conv => whnf
            exact fin 4 (by unfold tso kso; rw [← es, if_neg nz, if_neg hS, if_neg hD, if_neg z])
          · have z : I 3 s = 59 := z
            rw [b2, sb59 (b s) b1] at z
            conv => whnf
            exact fin 3 (by unfold tso kso; rw [← es, if_neg nz, if_neg hS, if_neg hD, if_pos z])
        refine Wf.gc tkX4_take [136, 143] ?_
        conv => whnf
        refine ⟨s, ix (N := 900) (by omega) (by decide), ?_⟩
        conv => whnf
        refine ⟨fun z => ?_, fun z => ?_⟩
        · have z : I 3 s < 48 := z
          rw [b2] at z
          conv => whnf
          exact cO (fun q => q.1 z)
        · have z : ¬ I 3 s < 48 := z
          rw [b2] at z
          conv => whnf
          refine ⟨s, ix (N := 900) (by omega) (by decide), ?_⟩
          conv => whnf
          refine ⟨fun z2 => ?_, fun z2 => ?_⟩
          · have z2 : 57 < I 3 s := z2
            rw [b2] at z2
            conv => whnf
            exact cO (fun q => q.2 z2)
          · have z2 : ¬ 57 < I 3 s := z2
            rw [b2] at z2
            conv => whnf
            exact cD ⟨z, z2⟩
      conv => whnf
      show Wf l X uX4_take (d + 1) true (mC (mk w p r I L) + 0, mS (mk w p r I L) + 0) 73 [(0, .ref 2)] [] (mk w p r (u2 (u2 I 2 5 (nI s)) 2 6 (nI s)) L) kr
      refine Wf.gc tkX4_take [101, 108] ?_
      conv => whnf
      refine ⟨s, ix (N := 900) (by omega) (by decide), ?_⟩
      conv => whnf
      refine ⟨fun z => ?_, fun z => ?_⟩
      · have z : I 3 s < 97 := z
        rw [b2] at z
        conv => whnf
        exact cX (fun q => q.1 z)
      · have z : ¬ I 3 s < 97 := z
        rw [b2] at z
        conv => whnf
        refine ⟨s, ix (N := 900) (by omega) (by decide), ?_⟩
        conv => whnf
        refine ⟨fun z2 => ?_, fun z2 => ?_⟩
        · have z2 : 122 < I 3 s := z2
          rw [b2] at z2
          conv => whnf
          exact cX (fun q => q.2 z2)
        · have z2 : ¬ 122 < I 3 s := z2
          rw [b2] at z2
          conv => whnf
          exact cW ⟨z, z2⟩
    · have z : ¬ nI s < I 2 2 := z
      rw [h2, nI_ltI (by omega) (by omega)] at z
      have nz : n ≤ s := by omega
      conv => whnf
      have h0 : tso b n e = 0 := by unfold tso kso; rw [← es, if_pos nz]
      show kr none (mk w p r (u2 (u2 (u2 I 2 5 (nI s)) 2 6 (nI s)) 2 4 0) L)
      refine h _ _ ⟨fun a i hn => ?_, fun a i hn => rfl⟩ (TC_of he ?_ ?_ ?_ ?_ ?_)
      · rw [u2_o (by omega), u2_o (by omega), u2_o (by omega)]
      · rw [h0]; rfl
      · show nI s = _
        rw [es]
      · show nI s = nI (tsp b n e)
        unfold tsp ksp
        rw [← es, if_pos nz]
      · intro q; omega
      · intro q; omega
  have loop : ∀ i, i ≤ n → Wf l X uX4_take (d + 1) true (mC (mk w p r I L) + 0, mS (mk w p r I L) + 0) 46 [(0, .ref 2)] [] (mk w p r (u2 I 2 5 (nI (fst (fun j => !(Nat.beq (b j) 32)) n i))) L) kr → Wf l X uX4_take (d + 1) true (mC (mk w p r I L) + 0, mS (mk w p r I L) + 0) 8 [(0, .ref 2)] [] (mk w p r (u2 I 2 5 (nI i)) L) kr := by
    refine srch (e := n) (P := fun j => !(Nat.beq (b j) 32)) (Wi := fun i => Wf l X uX4_take (d + 1) true (mC (mk w p r I L) + 0, mS (mk w p r I L) + 0) 8 [(0, .ref 2)] [] (mk w p r (u2 I 2 5 (nI i)) L) kr) (K := fun o => Wf l X uX4_take (d + 1) true (mC (mk w p r I L) + 0, mS (mk w p r I L) + 0) 46 [(0, .ref 2)] [] (mk w p r (u2 I 2 5 (nI (o.getD n))) L) kr) ?_ ?_
    · intro hK
      refine Wf.gc tkX4_take [46] ?_
      conv => whnf
      refine b1 (fun z => z ?_) ?_
      · show I 2 2 ≤ nI n
        rw [h2]
        exact Int32.le_refl _
      conv => whnf
      exact hK
    · intro i hi
      obtain ⟨hb1, hb2⟩ := hb i hi
      have head : (¬ sb (b i) = 32 → Wf l X uX4_take (d + 1) true (mC (mk w p r I L) + 0, mS (mk w p r I L) + 0) 46 [(0, .ref 2)] [] (mk w p r (u2 I 2 5 (nI i)) L) kr) → (sb (b i) = 32 → Wf l X uX4_take (d + 1) true (mC (mk w p r I L) + 0, mS (mk w p r I L) + 0) 33 [(0, .ref 2)] [] (mk w p r (u2 I 2 5 (nI i)) L) kr) → Wf l X uX4_take (d + 1) true (mC (mk w p r I L) + 0, mS (mk w p r I L) + 0) 8 [(0, .ref 2)] [] (mk w p r (u2 I 2 5 (nI i)) L) kr := by
        intro j1 j2
        refine Wf.gc tkX4_take [46, 33] ?_
        conv => whnf
        refine b2 ?_ ?_
        · show ¬ I 2 2 ≤ nI i
          rw [h2]
          exact nI_ge hi (by omega)
        conv => whnf
        refine ⟨i, ix (N := 900) (by omega) (by decide), ?_⟩
        conv => whnf
        refine ⟨fun z => ?_, fun z => ?_⟩
        · have z : ¬ I 3 i = 32 := z
          rw [hb2] at z
          conv => whnf
          exact j1 z
        · have z : I 3 i = 32 := z
          rw [hb2] at z
          conv => whnf
          exact j2 z
      refine ⟨fun hP hK => ?_, fun hP hK => ?_⟩
      · have hP : (!(Nat.beq (b i) 32)) = true := hP
        refine head (fun _ => hK) (fun q => ?_)
        rw [(sb32 (b i) hb1).mp q] at hP
        cases hP
      · have hP : (!(Nat.beq (b i) 32)) = false := hP
        have hS : Nat.beq (b i) 32 = true := by
          cases hq : Nat.beq (b i) 32 with
          | true => rfl
          | false => rw [hq] at hP; cases hP
        refine head (fun q => absurd ((sb32 (b i) hb1).mpr hS) q) (fun _ => ?_)
        refine Wf.gc tkX4_take [8] ?_
        conv => whnf
        rw [← nI_1] at hK
        have e3 : u2 I 2 5 (nI i + 1) = u2 (u2 I 2 5 (nI i)) 2 5 (nI i + 1) := u2_2.symm
        rw [e3] at hK
        exact hK
  refine Wf.gc tkX4_take [8] ?_
  conv => whnf
  have q := loop e he (main _ rfl)
  rw [← h6] at q
  exact q
end TKW
end
section
/-! words: the class's isWord and what stands on it, exactly -/
section WRD
variable {l : Launch} {X : Nat × (Nat → Int32)} {d : Nat} {M : Mm} {kr : KR} {a : Nat}
theorem tB_and0 : ∀ i, i < 42 → ∀ j, j < 8 → (tB i).getD j 0 &&& 255 = (tB i).getD j 0 := by decide +kernel
theorem tB_and {i j : Nat} (hi : i < 42) (hj : j < (tB i).length) : (tB i).getD j 0 &&& 255 = (tB i).getD j 0 := tB_and0 i hi j (by have := (len7 ⟨i, hi⟩).1; have this : (tB i).length ≤ 7 := this; omega)
theorem tB_rng : ∀ i, i < 42 → ∀ j, j < (tB i).length → ∃ c, c < 128 ∧ 97 ≤ c ∧ (tB i).getD j 0 = nI c := by
  have h : ∀ i, i < 42 → ∀ j, j < 8 → j < (tB i).length → (97 ≤ ((tB i).getD j 0).toInt ∧ ((tB i).getD j 0).toInt < 128) := by decide +kernel
  intro i hi j hj
  have hl := (len7 ⟨i, hi⟩).1
  have hl : (tB i).length ≤ 7 := hl
  obtain ⟨h1, h2⟩ := h i hi j (by omega) hj
  exact ⟨((tB i).getD j 0).toInt.toNat, by omega, by omega, nI_at (by omega) (by omega)⟩
set_option maxRecDepth 20000 in
theorem k_ch1x {j : Nat} (ha : 5100 ≤ a ∧ a < 5142) (hj : j < (tB (a - 5100)).length) (h : ∀ k : Fin 256, (tB (a - 5100)).getD j 0 &&& 255 = nI k.val → kr (some (.int (nI k.val))) M) : Ev l X uJ1_charAt_3b067 (d + 2) true 0 0 [.ref a, .int (nI j)] M kr := by
  refine Ev.ofF (by decide +kernel) (Nat.le_of_ble_eq_true rfl) ?_
  have p0 : Nat.blt 0 a = true := Nat.ble_eq_true_of_le (by omega)
  have hl := len7 ⟨a - 5100, by omega⟩
  have hl1 : (tB (a - 5100)).length ≤ 7 := hl.1
  refine Wf.sIl tkJ1_charAt_3b067 rfl rfl ?_
  refine Wf.sAl tkJ1_charAt_3b067 rfl rfl p0 ?_
  refine Wf.stp1 tkJ1_charAt_3b067 (o := oSln 2) rfl ⟨ha, ?_⟩
  refine Wf.sCs tkJ1_charAt_3b067 rfl rfl rfl ?_
  refine k_ck0 (nI_pos (by omega)) (Int32.not_le.mp (nI_ge hj (by omega))) ?_
  refine Wf.sAl tkJ1_charAt_3b067 rfl rfl p0 ?_
  refine Wf.sIl tkJ1_charAt_3b067 rfl rfl ?_
  refine Wf.stp1 tkJ1_charAt_3b067 (o := oSbl 8) rfl ⟨ha, ?_, ?_⟩
  · intro z
    rcases z with z | z
    · exact nI_pos (by omega) z
    · rw [nI_clamp (by omega)] at z; omega
  refine Wf.sIc tkJ1_charAt_3b067 rfl ?_
  refine Wf.s2 tkJ1_charAt_3b067 rfl ?_
  obtain ⟨k, hk⟩ := and255 ((tB (a - 5100)).getD (nI j).toNatClampNeg 0)
  refine Wf.stp1 tkJ1_charAt_3b067 (o := o1 13 (fun x => (x.toUInt32 % 65536).toInt32)) rfl ?_
  have e : ((((tB (a - 5100)).getD (nI j).toNatClampNeg 0 &&& 255) : Int32).toUInt32 % 65536).toInt32 = nI k.val := by rw [hk]; exact i2c_b k
  show Wf l X uJ1_charAt_3b067 (d + 2) true _ (13 + 1) _ [.int ((((tB (a - 5100)).getD (nI j).toNatClampNeg 0 &&& 255) : Int32).toUInt32 % 65536).toInt32] M kr
  rw [e]
  exact Wf.stp1 tkJ1_charAt_3b067 (o := oTr .char) rfl ⟨nar_c k, h k (by rw [← hk, nI_clamp (by omega)])⟩
set_option maxRecDepth 20000 in
theorem k_charx {j : Nat} (ha : 5000 ≤ a ∧ a < 5042) (hj : j < (tB (a - 5000)).length) (h : kr (some (.int ((tB (a - 5000)).getD j 0))) M) : Ev l X uJ0_charAt_5068e (d + 3) true 0 0 [.ref a, .int (nI j)] M kr := by
  refine Ev.ofF (by decide +kernel) (Nat.le_of_ble_eq_true rfl) ?_
  have p0 : Nat.blt 0 a = true := Nat.ble_eq_true_of_le (by omega)
  refine Wf.sAl tkJ0_charAt_5068e rfl rfl p0 ?_
  refine Wf.sCq tkJ0_charAt_5068e rfl rfl ha rfl ?_
  refine k_latin ha ?_
  refine Wf.sIf tkJ0_charAt_5068e rfl (fun w => absurd w (by decide)) (fun _ => ?_)
  refine Wf.sAl tkJ0_charAt_5068e rfl rfl p0 ?_
  refine Wf.stp1 tkJ0_charAt_5068e (o := oGsv 8) rfl ⟨ha, ?_⟩
  refine Wf.sIl tkJ0_charAt_5068e rfl rfl ?_
  refine Wf.sCs tkJ0_charAt_5068e rfl rfl rfl ?_
  refine k_ch1x ⟨by omega, by omega⟩ (by rw [show a + 100 - 5100 = a - 5000 by omega]; exact hj) (fun k hk => ?_)
  rw [show a + 100 - 5100 = a - 5000 by omega, tB_and (by omega) hj] at hk
  rw [hk] at h
  exact Wf.stp1 tkJ0_charAt_5068e (o := oTr .char) rfl ⟨nar_c k, h⟩
end WRD
section ISWX
variable {l : Launch} {X : Nat × (Nat → Int32)} {d : Nat} {w : Nat × Nat} {p r : Nat} {I : Nat → Nat → Int32} {L : Nat → Nat → Int64} {kr : KR} {b : Nat → Nat} {n e : Nat}
/-- the token at hand is the word of that number -/
noncomputable def isW (b : Nat → Nat) (n i e : Nat) : Bool := Nat.beq (tso b n e) 1 && (Nat.beq (tsp b n e - tst b n e) (tB i).length && (ff (fun j => !(decide (sb (b (tst b n e + j)) = (tB i).getD j 0))) (tB i).length 0).isNone)
noncomputable def bgl (b : Nat → Nat) (n e : Nat) : Bool := isW b n 0 e || (isW b n 1 e || (isW b n 2 e || (isW b n 3 e || (isW b n 4 e || (isW b n 5 e || isW b n 6 e)))))
theorem tso_5 : tso b n e < 5 := by
  unfold tso kso
  repeat' (first | decide | split)
theorem nI_sub {x y : Nat} (h : y ≤ x) : (nI x - nI y : Int32) = nI (x - y) := by
  have z : nI x = nI (x - y) + nI y := by rw [nI_add, Nat.sub_add_cancel h]
  rw [z]
  exact Int32.add_sub_cancel _ _
set_option maxRecDepth 20000 in
theorem x_isWord {wd : Nat} (ht : TX b n I) (he : e ≤ n) (hc : TC b n e I L) (hw : 5000 ≤ wd ∧ wd < 5042) (h : kr (some (.int (bI (isW b n (wd - 5000) e)))) (mk w p r I L)) : Ev l X uX4_isWord (d + 5) true 0 0 [.ref 2, .ref wd] (mk w p r I L) kr := by
  obtain ⟨h9, h2, hb⟩ := ht
  obtain ⟨t4, t5, t6, -, -⟩ := hc
  have hsp := tsp_b (b := b) he
  have p0 : Nat.blt 0 wd = true := Nat.ble_eq_true_of_le (by omega)
  have hl := (len7 ⟨wd - 5000, by omega⟩).1
  have hl : (tB (wd - 5000)).length ≤ 7 := hl
  refine Ev.of (by decide) (Nat.le_of_ble_eq_true rfl) ?_
  refine Wf.sAl tkX4_isWord rfl rfl rfl ?_
  refine Wf.sG tkX4_isWord rfl rfl ?_
  refine Wf.sIc tkX4_isWord rfl ?_
  have no : isW b n (wd - 5000) e = false → Wf l X uX4_isWord (d + 5) true (mC (mk w p r I L) + 0, mS (mk w p r I L) + 0) 24 [(0, .ref 2), (1, .ref wd)] [] (mk w p r I L) kr := by
    intro q
    rw [q] at h
    refine Wf.sIc tkX4_isWord rfl ?_
    exact Wf.sZr tkX4_isWord rfl (Or.inl rfl) h
  refine Wf.sCm (x := I 2 4) (y := 1) tkX4_isWord rfl (fun z => no ?_) (fun z => ?_)
  · have z : ¬ I 2 4 = 1 := z
    unfold isW
    cases hq : Nat.beq (tso b n e) 1 with
    | false => rfl
    | true =>
      have := Nat.eq_of_beq_eq_true hq
      rw [t4, this] at z
      exact absurd rfl z
  have z : I 2 4 = 1 := z
  have s4 := tso_5 (b := b) (n := n) (e := e)
  have t1 : tso b n e = 1 := by
    rw [t4, show (1 : Int32) = nI 1 from rfl, nI_eq (by omega) (by decide)] at z
    exact z
  refine Wf.sAl tkX4_isWord rfl rfl rfl ?_
  refine Wf.sG tkX4_isWord rfl rfl ?_
  refine Wf.sAl tkX4_isWord rfl rfl rfl ?_
  refine Wf.sG tkX4_isWord rfl rfl ?_
  refine Wf.s2 tkX4_isWord rfl ?_
  refine Wf.sAl tkX4_isWord rfl rfl p0 ?_
  refine Wf.sCq (rest := [.int (I 2 6 - I 2 5)]) tkX4_isWord rfl rfl hw rfl ?_
  refine k_len (d := d + 3) hw ?_
  have e1 : (I 2 6 - I 2 5 : Int32) = nI (tsp b n e - tst b n e) := by rw [t6, t5]; exact nI_sub hsp.1
  have nol : ¬ (I 2 6 - I 2 5 : Int32) = nI (tB (wd - 5000)).length → isW b n (wd - 5000) e = false := by
    intro z2
    rw [e1, nI_eq (by omega) (by omega)] at z2
    unfold isW
    cases hq : Nat.beq (tsp b n e - tst b n e) (tB (wd - 5000)).length with
    | false => rw [Bool.false_and, Bool.and_false]
    | true => exact absurd (Nat.eq_of_beq_eq_true hq) z2
  refine Wf.sCm (x := I 2 6 - I 2 5) (y := nI (tB (wd - 5000)).length) tkX4_isWord rfl (fun z2 => ?_) (fun z2 => no (nol z2))
  have z2 : (I 2 6 - I 2 5 : Int32) = nI (tB (wd - 5000)).length := z2
  rw [e1, nI_eq (by omega) (by omega)] at z2
  have hiw : isW b n (wd - 5000) e = (ff (fun j => !(decide (sb (b (tst b n e + j)) = (tB (wd - 5000)).getD j 0))) (tB (wd - 5000)).length 0).isNone := by
    unfold isW
    rw [t1, z2, show Nat.beq 1 1 = true from rfl, show ∀ k, Nat.beq k k = true from fun k => Nat.beq_refl k, Bool.true_and, Bool.true_and]
  rw [hiw] at h
  refine Wf.sIc tkX4_isWord rfl ?_
  refine Wf.sIs tkX4_isWord rfl rfl ?_
  have loop := srch (e := (tB (wd - 5000)).length) (P := fun j => !(decide (sb (b (tst b n e + j)) = (tB (wd - 5000)).getD j 0))) (Wi := fun i => Wf l X uX4_isWord (d + 5) true (mC (mk w p r I L) + 0, mS (mk w p r I L) + 0) 28 [(0, .ref 2), (1, .ref wd), (2, .int (nI i))] [] (mk w p r I L) kr) (K := fun o => kr (some (.int (bI o.isNone))) (mk w p r I L)) ?_ ?_ 0 (Nat.zero_le _)
  · rw [Nat.sub_zero] at loop
    exact loop h
  · intro hK
    refine Wf.sIl tkX4_isWord rfl rfl ?_
    refine Wf.sAl tkX4_isWord rfl rfl p0 ?_
    refine Wf.sCq (rest := [.int (nI (tB (wd - 5000)).length)]) tkX4_isWord rfl rfl hw rfl ?_
    refine k_len (d := d + 3) hw ?_
    refine Wf.sCm (x := nI (tB (wd - 5000)).length) (y := nI (tB (wd - 5000)).length) tkX4_isWord rfl (fun _ => ?_) (fun z => absurd (Int32.le_refl _) z)
    refine Wf.sIc tkX4_isWord rfl ?_
    exact Wf.sZr tkX4_isWord rfl (Or.inr rfl) hK
  · intro i hi
    obtain ⟨hb1, hb2⟩ := hb (tst b n e + i) (by omega)
    have head : (sb (b (tst b n e + i)) = (tB (wd - 5000)).getD i 0 → Wf l X uX4_isWord (d + 5) true (mC (mk w p r I L) + 0, mS (mk w p r I L) + 0) 57 [(0, .ref 2), (1, .ref wd), (2, .int (nI i))] [] (mk w p r I L) kr) → (¬ sb (b (tst b n e + i)) = (tB (wd - 5000)).getD i 0 → kr (some (.int 0)) (mk w p r I L)) → Wf l X uX4_isWord (d + 5) true (mC (mk w p r I L) + 0, mS (mk w p r I L) + 0) 28 [(0, .ref 2), (1, .ref wd), (2, .int (nI i))] [] (mk w p r I L) kr := by
      intro j1 j2
      refine Wf.sIl tkX4_isWord rfl rfl ?_
      refine Wf.sAl tkX4_isWord rfl rfl p0 ?_
      refine Wf.sCq (rest := [.int (nI i)]) tkX4_isWord rfl rfl hw rfl ?_
      refine k_len (d := d + 3) hw ?_
      refine Wf.sCm (x := nI i) (y := nI (tB (wd - 5000)).length) tkX4_isWord rfl (fun z => absurd z (nI_ge hi (by omega))) (fun _ => ?_)
      refine Wf.sAl tkX4_isWord rfl rfl rfl ?_
      refine Wf.sG tkX4_isWord rfl rfl ?_
      refine Wf.sAl tkX4_isWord rfl rfl rfl ?_
      refine Wf.sG tkX4_isWord rfl rfl ?_
      show Wf l X uX4_isWord (d + 5) true _ 44 _ [.int (I 2 5), .ref 3] (mk w p r I L) kr
      rw [t5]
      refine Wf.sIl tkX4_isWord rfl rfl ?_
      refine Wf.s2 tkX4_isWord rfl ?_
      refine Wf.sBal (j := tst b n e + i) tkX4_isWord rfl rfl ⟨nI_add _ i, by omega, show _ < 900 by omega⟩ ?_
      refine Wf.sAl tkX4_isWord rfl rfl p0 ?_
      refine Wf.sIl tkX4_isWord rfl rfl ?_
      refine Wf.sCq (rest := [.int (I 3 (tst b n e + i))]) tkX4_isWord rfl rfl hw rfl ?_
      refine k_charx (d := d + 1) hw hi ?_
      refine Wf.sCm (x := I 3 (tst b n e + i)) (y := (tB (wd - 5000)).getD i 0) tkX4_isWord rfl (fun z => ?_) (fun z => ?_)
      · have z : I 3 (tst b n e + i) = (tB (wd - 5000)).getD i 0 := z
        rw [hb2] at z
        exact j1 z
      · have z : ¬ I 3 (tst b n e + i) = (tB (wd - 5000)).getD i 0 := z
        rw [hb2] at z
        refine Wf.sIc tkX4_isWord rfl ?_
        exact Wf.sZr tkX4_isWord rfl (Or.inl rfl) (j2 z)
    refine ⟨fun hP hK => ?_, fun hP hK => ?_⟩
    · have hP : (!(decide (sb (b (tst b n e + i)) = (tB (wd - 5000)).getD i 0))) = true := hP
      refine head (fun q => ?_) (fun _ => hK)
      rw [decide_eq_true q] at hP
      cases hP
    · have hP : (!(decide (sb (b (tst b n e + i)) = (tB (wd - 5000)).getD i 0))) = false := hP
      refine head (fun _ => ?_) (fun q => ?_)
      · refine Wf.sInc tkX4_isWord rfl rfl rfl ?_
        refine Wf.sGo tkX4_isWord rfl ?_
        rw [nI_1]
        exact hK
      · rw [decide_eq_false q] at hP
        cases hP
theorem bI_t {q : Bool} (h : ¬ bI q = 0) : q = true := by
  cases q with
  | true => rfl
  | false => exact absurd rfl h
theorem bI_f {q : Bool} (h : bI q = 0) : q = false := by
  cases q with
  | true => exact absurd h (by decide)
  | false => rfl
set_option maxRecDepth 20000 in
theorem x_beginsLine (ht : TX b n I) (he : e ≤ n) (hc : TC b n e I L) (h : kr (some (.int (bI (bgl b n e)))) (mk w p r I L)) : Ev l X uX4_beginsLine (d + 6) true 0 0 [.ref 2] (mk w p r I L) kr := by
  refine Ev.of (by decide) (Nat.le_of_ble_eq_true rfl) ?_
  unfold bgl at h
  refine Wf.gc tkX4_beginsLine [] ?_
  conv => whnf
  refine x_isWord (wd := 5000) (d := d) ht he hc (by decide) ?_
  conv => whnf
  refine ⟨fun z => ?_, fun z => ?_⟩
  · rw [bI_t z] at h
    conv => whnf
    exact ⟨Or.inr rfl, h⟩
  rw [bI_f z, Bool.false_or] at h
  conv => whnf
  refine x_isWord (wd := 5001) (d := d) ht he hc (by decide) ?_
  conv => whnf
  refine ⟨fun z => ?_, fun z => ?_⟩
  · rw [bI_t z] at h
    conv => whnf
    exact ⟨Or.inr rfl, h⟩
  rw [bI_f z, Bool.false_or] at h
  conv => whnf
  refine x_isWord (wd := 5002) (d := d) ht he hc (by decide) ?_
  conv => whnf
  refine ⟨fun z => ?_, fun z => ?_⟩
  · rw [bI_t z] at h
    conv => whnf
    exact ⟨Or.inr rfl, h⟩
  rw [bI_f z, Bool.false_or] at h
  conv => whnf
  refine x_isWord (wd := 5003) (d := d) ht he hc (by decide) ?_
  conv => whnf
  refine ⟨fun z => ?_, fun z => ?_⟩
  · rw [bI_t z] at h
    conv => whnf
    exact ⟨Or.inr rfl, h⟩
  rw [bI_f z, Bool.false_or] at h
  conv => whnf
  refine x_isWord (wd := 5004) (d := d) ht he hc (by decide) ?_
  conv => whnf
  refine ⟨fun z => ?_, fun z => ?_⟩
  · rw [bI_t z] at h
    conv => whnf
    exact ⟨Or.inr rfl, h⟩
  rw [bI_f z, Bool.false_or] at h
  conv => whnf
  refine x_isWord (wd := 5005) (d := d) ht he hc (by decide) ?_
  conv => whnf
  refine ⟨fun z => ?_, fun z => ?_⟩
  · rw [bI_t z] at h
    conv => whnf
    exact ⟨Or.inr rfl, h⟩
  rw [bI_f z, Bool.false_or] at h
  conv => whnf
  refine x_isWord (wd := 5006) (d := d) ht he hc (by decide) ?_
  conv => whnf
  refine ⟨fun z => ?_, fun z => ?_⟩
  · rw [bI_f z] at h
    conv => whnf
    exact ⟨Or.inl rfl, h⟩
  · rw [bI_t z] at h
    conv => whnf
    exact ⟨Or.inr rfl, h⟩
/-- a fault told of the token at s -/
noncomputable def fl (I : Nat → Nat → Int32) (k s : Nat) : Nat → Nat → Int32 := u2 (u2 I 2 13 (nI k)) 2 14 (nI s)
theorem x_fails {k : Int32} (hc : TC b n e I L) (h : kr (some (.int 0)) (mk w p r (u2 (u2 I 2 13 k) 2 14 (nI (tst b n e))) L)) : Ev l X uX4_fails d true 0 0 [.ref 2, .int k] (mk w p r I L) kr := by
  refine Ev.of (by decide) (Nat.le_of_ble_eq_true rfl) ?_
  refine Wf.gc tkX4_fails [] ?_
  conv => whnf
  rw [← hc.2.1] at h
  exact ⟨Or.inl rfl, h⟩
/-- a WHOLE within bounds stands here: 0; else the fault -/
noncomputable def bnd (b : Nat → Nat) (n lo hi e : Nat) : Nat := if tso b n e = 2 then (if lo ≤ tvl b n e ∧ tvl b n e ≤ hi then 0 else 4) else 1
set_option maxRecDepth 20000 in
theorem x_bounded {lo hi : Nat} (hlo : lo < 1000) (hhi : hi < 1000) (he : e ≤ n) (hc : TC b n e I L) (h0 : bnd b n lo hi e = 0 → kr (some (.int 1)) (mk w p r I L)) (h1 : bnd b n lo hi e ≠ 0 → kr (some (.int 0)) (mk w p r (fl I (bnd b n lo hi e) (tst b n e)) L)) : Ev l X uX4_bounded (d + 1) true 0 0 [.ref 2, .int (nI lo), .int (nI hi)] (mk w p r I L) kr := by
  have s4 := tso_5 (b := b) (n := n) (e := e)
  refine Ev.of (by decide) (Nat.le_of_ble_eq_true rfl) ?_
  refine Wf.gc tkX4_bounded [] ?_
  conv => whnf
  unfold bnd at h0 h1
  refine ⟨fun z => ?_, fun z => ?_⟩
  · have z : I 2 4 = 2 := z
    rw [hc.1, show (2 : Int32) = nI 2 from rfl, nI_eq (by omega) (by decide)] at z
    rw [if_pos z] at h0 h1
    have hv := (tvl_b he z).1
    have h7 := hc.2.2.2.1 z
    conv => whnf
    refine sX6_within ?_ ?_
    · intro z1 z2
      have z1 : nI lo ≤ I 2 7 := z1
      have z2 : I 2 7 ≤ nI hi := z2
      rw [h7, nI_leI (by omega) (by omega)] at z1 z2
      rw [if_pos ⟨z1, z2⟩] at h0
      conv => whnf
      refine b1 (by decide) ?_
      conv => whnf
      exact ⟨Or.inr rfl, h0 rfl⟩
    · intro z1
      have z1 : ¬ (nI lo ≤ I 2 7 ∧ I 2 7 ≤ nI hi) := z1
      rw [h7, nI_leI (by omega) (by omega), nI_leI (by omega) (by omega)] at z1
      rw [if_neg z1] at h1
      conv => whnf
      refine b2 (by decide) ?_
      conv => whnf
      refine x_fails hc ?_
      conv => whnf
      refine b1 (by decide) ?_
      conv => whnf
      exact ⟨Or.inl rfl, h1 (by decide)⟩
  · have z : ¬ I 2 4 = 2 := z
    rw [hc.1, show (2 : Int32) = nI 2 from rfl, nI_eq (by omega) (by decide)] at z
    rw [if_neg z] at h1
    conv => whnf
    refine x_fails hc ?_
    conv => whnf
    exact ⟨Or.inl rfl, h1 (by decide)⟩
theorem TX_sT {I' : Nat → Nat → Int32} {L' : Nat → Nat → Int64} (ht : TX b n I) (hs : sT I I' L L') : TX b n I' := ⟨ht.1, by rw [hs.1 2 2 (by omega)]; exact ht.2.1, fun i hi => ⟨(ht.2.2 i hi).1, by rw [hs.1 3 i (by omega)]; exact (ht.2.2 i hi).2⟩⟩
/-- a label, then a WHOLE within bounds: the fault, its place -/
noncomputable def lab (b : Nat → Nat) (n i lo hi e : Nat) : Nat × Nat := if isW b n i e = true then (bnd b n lo hi (tsp b n e), tst b n (tsp b n e)) else (1, tst b n e)
set_option maxRecDepth 20000 in
theorem x_labelled {wd lo hi : Nat} (hlo : lo < 1000) (hhi : hi < 1000) (ht : TX b n I) (he : e ≤ n) (hc : TC b n e I L) (hw : 5000 ≤ wd ∧ wd < 5042) (h0 : (lab b n (wd - 5000) lo hi e).1 = 0 → ∀ I' L', sT I I' L L' → TC b n (tsp b n e) I' L' → tso b n (tsp b n e) = 2 → lo ≤ tvl b n (tsp b n e) → tvl b n (tsp b n e) ≤ hi → kr (some (.int 1)) (mk w p r I' L')) (h1 : (lab b n (wd - 5000) lo hi e).1 ≠ 0 → ∀ I' L', sT I I' L L' → kr (some (.int 0)) (mk w p r (fl I' (lab b n (wd - 5000) lo hi e).1 (lab b n (wd - 5000) lo hi e).2) L')) : Ev l X uX4_labelled (d + 6) true 0 0 [.ref 2, .ref wd, .int (nI lo), .int (nI hi)] (mk w p r I L) kr := by
  have p0 : Nat.blt 0 wd = true := Nat.ble_eq_true_of_le (by omega)
  refine Ev.of (by decide) (Nat.le_of_ble_eq_true rfl) ?_
  refine Wf.sAl tkX4_labelled rfl rfl rfl ?_
  refine Wf.sAl tkX4_labelled rfl rfl p0 ?_
  refine Wf.sCv (as := [.ref wd]) (rest := []) tkX4_labelled rfl rfl rfl rfl ?_
  refine x_isWord (d := d) ht he hc hw ?_
  unfold lab at h0 h1
  refine Wf.sIf (x := bI (isW b n (wd - 5000) e)) tkX4_labelled rfl (fun z => ?_) (fun z => ?_)
  · rw [bI_t z, if_pos rfl] at h0 h1
    refine Wf.gc tkX4_labelled [] ?_
    conv => whnf
    have hsp := tsp_b (b := b) he
    refine x_take (d := d + 4) ht hsp.2 hc.2.2.1 (fun I' L' hs hc' => ?_)
    conv => whnf
    refine x_bounded (d := d + 4) hlo hhi hsp.2 hc' (fun q => ?_) (fun q => ?_)
    · conv => whnf
      refine ⟨Or.inr rfl, ?_⟩
      unfold bnd at q
      split at q
      · rename_i z1
        split at q
        · rename_i z2
          exact h0 (by unfold bnd; rw [if_pos z1, if_pos z2]) I' L' hs hc' z1 z2.1 z2.2
        · cases q
      · cases q
    · conv => whnf
      exact ⟨Or.inl rfl, h1 q I' L' hs⟩
  · rw [bI_f z, if_neg (by decide)] at h1
    refine Wf.gc tkX4_labelled [] ?_
    conv => whnf
    refine x_fails hc ?_
    conv => whnf
    exact ⟨Or.inl rfl, h1 (show (1 : Nat) ≠ 0 by decide) I L ⟨fun _ _ _ => rfl, fun _ _ _ => rfl⟩⟩
end ISWX
end
section
/-! names: the class's table of them -/
section NAM
variable {l : Launch} {X : Nat × (Nat → Int32)} {d : Nat} {w : Nat × Nat} {p r : Nat} {I : Nat → Nat → Int32} {L : Nat → Nat → Int64} {kr : KR} {b : Nat → Nat} {n e : Nat}
/-- a name: where it was told first, its length, its sort, its number -/
noncomputable abbrev Nm : Type := Nat × Nat × Nat × Nat
noncomputable def nmD (nm : List Nm) (i : Nat) : Nm := nm.getD i (0, 0, 0, 0)
/-- letters from s on, k of them, in base 32 -/
noncomputable def encN (b : Nat → Nat) (s : Nat) : Nat → Nat
  | 0 => 0
  | j + 1 => encN b s j * 32 + (b (s + j) - 96)
noncomputable def smW (b : Nat → Nat) (s k : Nat) : Prop := k ≤ 8 ∧ 1 ≤ k ∧ ∀ j, j < k → isS (b (s + j)) = true
theorem encN_b {s : Nat} : ∀ {k : Nat}, (∀ j, j < k → isS (b (s + j)) = true) → encN b s k < 32 ^ k
  | 0, _ => Nat.zero_lt_one
  | k + 1, h => by
    have h1 := encN_b (s := s) (k := k) (fun j hj => h j (by omega))
    have h2 := isS_b (h k (by omega))
    show encN b s k * 32 + (b (s + k) - 96) < 32 ^ (k + 1)
    rw [Nat.pow_succ]
    omega
theorem enc_eq {s : Nat} : ∀ {k : Nat}, (∀ j, j < k → isS (b (s + j)) = true) → enc b s k = Int64.ofNat (encN b s k)
  | 0, _ => rfl
  | k + 1, h => by
    have h1 := enc_eq (s := s) (k := k) (fun j hj => h j (by omega))
    have h2 := isS_b (h k (by omega))
    show enc b s k * 32 + (sb (b (s + k)) - 97 + 1).toInt64 = Int64.ofNat (encN b s k * 32 + (b (s + k) - 96))
    have e : (sb (b (s + k)) - 97 + 1 : Int32) = nI (b (s + k) - 96) := by
      rw [sb_lo (by omega), show (97 : Int32) = nI 97 from rfl, nI_sub h2.1, nI_1, show b (s + k) - 97 + 1 = b (s + k) - 96 by omega]
    rw [e, h1, nI_l (by omega), Int64.ofNat_add, Int64.ofNat_mul]
    rfl
theorem encN_inj {s t : Nat} : ∀ {k m : Nat}, (∀ j, j < k → isS (b (s + j)) = true) → (∀ j, j < m → isS (b (t + j)) = true) → encN b s k = encN b t m → k = m ∧ ∀ j, j < k → b (s + j) = b (t + j)
  | 0, 0, _, _, _ => ⟨rfl, fun j hj => absurd hj (Nat.not_lt_zero j)⟩
  | 0, m + 1, _, h2, h => by
    have := isS_b (h2 m (by omega))
    have h : 0 = encN b t m * 32 + (b (t + m) - 96) := h
    omega
  | k + 1, 0, h1, _, h => by
    have := isS_b (h1 k (by omega))
    have h : encN b s k * 32 + (b (s + k) - 96) = 0 := h
    omega
  | k + 1, m + 1, h1, h2, h => by
    have c1 := isS_b (h1 k (by omega))
    have c2 := isS_b (h2 m (by omega))
    have h : encN b s k * 32 + (b (s + k) - 96) = encN b t m * 32 + (b (t + m) - 96) := h
    have e1 : b (s + k) = b (t + m) := by omega
    have e2 : encN b s k = encN b t m := by omega
    obtain ⟨e3, e4⟩ := encN_inj (fun j hj => h1 j (by omega)) (fun j hj => h2 j (by omega)) e2
    subst e3
    refine ⟨rfl, fun j hj => ?_⟩
    rcases Nat.lt_or_ge j k with z | z
    · exact e4 j z
    · rw [show j = k by omega]; exact e1
theorem encN_cg {s t : Nat} : ∀ {k : Nat}, (∀ j, j < k → b (s + j) = b (t + j)) → encN b s k = encN b t k
  | 0, _ => rfl
  | k + 1, h => by
    show encN b s k * 32 + (b (s + k) - 96) = encN b t k * 32 + (b (t + k) - 96)
    rw [h k (by omega), encN_cg (fun j hj => h j (by omega))]
theorem i64_inj {x y : Nat} (hx : x < 2 ^ 40) (hy : y < 2 ^ 40) (h : Int64.ofNat x = Int64.ofNat y) : x = y := by
  have h1 : (Int64.ofNat x).toInt = (Int64.ofNat y).toInt := by rw [h]
  rw [Int64.toInt_ofNat_of_lt (by omega), Int64.toInt_ofNat_of_lt (by omega)] at h1
  omega
/-- the same word -/
noncomputable def sameW (b : Nat → Nat) (s k t m : Nat) : Bool := Nat.beq k m && (ff (fun j => !(Nat.beq (b (s + j)) (b (t + j)))) k 0).isNone
theorem sameW_iff {s k t m : Nat} : sameW b s k t m = true ↔ k = m ∧ ∀ j, j < k → b (s + j) = b (t + j) := by
  constructor
  · intro h
    obtain ⟨h1, h2⟩ := andT h
    refine ⟨Nat.eq_of_beq_eq_true h1, fun j hj => ?_⟩
    cases hf : ff (fun j => !(Nat.beq (b (s + j)) (b (t + j)))) k 0 with
    | some q => rw [hf] at h2; cases h2
    | none =>
      have := ff_none hf j (Nat.zero_le _) (by omega)
      have this : (!(Nat.beq (b (s + j)) (b (t + j)))) = false := this
      cases hq : Nat.beq (b (s + j)) (b (t + j)) with
      | true => exact Nat.eq_of_beq_eq_true hq
      | false => rw [hq] at this; cases this
  · intro h
    obtain ⟨rfl, h2⟩ := h
    unfold sameW
    rw [Nat.beq_refl, Bool.true_and]
    cases hf : ff (fun j => !(Nat.beq (b (s + j)) (b (t + j)))) k 0 with
    | none => rfl
    | some q =>
      obtain ⟨-, q2, q3⟩ := ff_lt hf
      have q3 : (!(Nat.beq (b (s + q)) (b (t + q)))) = true := q3
      rw [h2 q (by omega), Nat.beq_refl] at q3
      cases q3
theorem enc_same {s k t m : Nat} (h1 : smW b s k) (h2 : smW b t m) : enc b s k = enc b t m ↔ sameW b s k t m = true := by
  rw [enc_eq h1.2.2, enc_eq h2.2.2, sameW_iff]
  have p : ∀ {j}, j ≤ 8 → 32 ^ j ≤ 2 ^ 40 := fun {j} hj => by
    have := Nat.pow_le_pow_right (n := 32) (by decide) hj
    have e : (32 : Nat) ^ 8 = 2 ^ 40 := by decide
    omega
  have b1 := encN_b h1.2.2
  have b2 := encN_b h2.2.2
  have p1 := p h1.1
  have p2 := p h2.1
  constructor
  · intro h
    exact encN_inj h1.2.2 h2.2.2 (i64_inj (by omega) (by omega) h)
  · intro h
    obtain ⟨rfl, h⟩ := h
    rw [encN_cg h]
/-- the place of the name at hand in the table -/
noncomputable def nlk (b : Nat → Nat) (n : Nat) (nm : List Nm) (e : Nat) : Option Nat := ff (fun i => sameW b (nmD nm i).1 (nmD nm i).2.1 (tst b n e) (tsp b n e - tst b n e)) nm.length 0
/-- the class's table -/
noncomputable def NC (b : Nat → Nat) (nm : List Nm) (I : Nat → Nat → Int32) (L : Nat → Nat → Int64) : Prop := (I 2 12 = nI nm.length ∧ I 2 13 = 0) ∧ nm.length ≤ 15 ∧ ∀ i, i < nm.length → smW b (nmD nm i).1 (nmD nm i).2.1 ∧ L 4 i = enc b (nmD nm i).1 (nmD nm i).2.1 ∧ I 5 i = nI (nmD nm i).2.2.1 ∧ I 6 i = nI (nmD nm i).2.2.2
theorem wordS (he : e ≤ n) (h : tso b n e = 1) : smW b (tst b n e) (tsp b n e - tst b n e) := by
  obtain ⟨h1, h2, h3⟩ := word_b he h
  exact ⟨h1, h2, fun j hj => h3 _ (by omega) (by omega)⟩
theorem cmp0 {x y : Int64} : lg_cmp x y = 0 ↔ x = y := by
  unfold lg_cmp
  constructor
  · intro h
    split at h
    · cases h
    · split at h
      · assumption
      · cases h
  · intro h
    subst h
    rw [if_neg (fun z => Int64.lt_irrefl z), if_pos rfl]
set_option maxRecDepth 20000 in
theorem x_nameAt {nm : List Nm} (he : e ≤ n) (hc : TC b n e I L) (hn : NC b nm I L) (h1 : tso b n e = 1) (h : kr (some (.int (oI (nlk b n nm e)))) (mk w p r I L)) : Ev l X uX4_nameAt d true 0 0 [.ref 2] (mk w p r I L) kr := by
  obtain ⟨⟨n1, n0⟩, n2, n3⟩ := hn
  have hL := hc.2.2.2.2 h1
  have hw := wordS he h1
  refine Ev.of (by decide) (Nat.le_of_ble_eq_true rfl) ?_
  refine Wf.gc tkX4_nameAt [2] ?_
  conv => whnf
  have loop := srch (e := nm.length) (P := fun i => sameW b (nmD nm i).1 (nmD nm i).2.1 (tst b n e) (tsp b n e - tst b n e)) (Wi := fun i => Wf l X uX4_nameAt d true (mC (mk w p r I L) + 0, mS (mk w p r I L) + 0) 2 [(0, .ref 2), (1, .int (nI i))] [] (mk w p r I L) kr) (K := fun o => kr (some (.int (oI o))) (mk w p r I L)) ?_ ?_ 0 (Nat.zero_le _)
  · rw [Nat.sub_zero] at loop
    exact loop h
  · intro hK
    refine Wf.gc tkX4_nameAt [] ?_
    conv => whnf
    refine b1 (fun z => z ?_) ?_
    · show I 2 12 ≤ nI nm.length
      rw [n1]
      exact Int32.le_refl _
    conv => whnf
    exact hK
  · intro i hi
    obtain ⟨m1, m2, m3, m4⟩ := n3 i hi
    have iff := enc_same m1 hw
    have head : (enc b (nmD nm i).1 (nmD nm i).2.1 = enc b (tst b n e) (tsp b n e - tst b n e) → kr (some (.int (nI i))) (mk w p r I L)) → (¬ enc b (nmD nm i).1 (nmD nm i).2.1 = enc b (tst b n e) (tsp b n e - tst b n e) → Wf l X uX4_nameAt d true (mC (mk w p r I L) + 0, mS (mk w p r I L) + 0) 26 [(0, .ref 2), (1, .int (nI i))] [] (mk w p r I L) kr) → Wf l X uX4_nameAt d true (mC (mk w p r I L) + 0, mS (mk w p r I L) + 0) 2 [(0, .ref 2), (1, .int (nI i))] [] (mk w p r I L) kr := by
      intro j1 j2
      refine Wf.gc tkX4_nameAt [26] ?_
      conv => whnf
      refine b2 ?_ ?_
      · show ¬ I 2 12 ≤ nI i
        rw [n1]
        exact nI_ge hi (by omega)
      conv => whnf
      refine ⟨i, ix (N := 15) (by omega) (by decide), ?_⟩
      conv => whnf
      refine ⟨fun z => ?_, fun z => ?_⟩
      · have z : ¬ lg_cmp (L 4 i) (L 2 8) = 0 := z
        rw [cmp0, m2, hL] at z
        conv => whnf
        exact j2 z
      · have z : lg_cmp (L 4 i) (L 2 8) = 0 := z
        rw [cmp0, m2, hL] at z
        conv => whnf
        exact j1 z
    refine ⟨fun hP hK => ?_, fun hP hK => ?_⟩
    · exact head (fun _ => hK) (fun q => absurd (iff.mpr hP) q)
    · refine head (fun q => ?_) (fun _ => ?_)
      · have := iff.mp q
        rw [this] at hP
        cases hP
      · refine Wf.gc tkX4_nameAt [2] ?_
        conv => whnf
        rw [← nI_1] at hK
        exact hK
end NAM
end
section
/-! names told, names used; kinds -/
section TEL
variable {l : Launch} {X : Nat × (Nat → Int32)} {d : Nat} {w : Nat × Nat} {p r : Nat} {I : Nat → Nat → Int32} {L : Nat → Nat → Int64} {kr : KR} {b : Nat → Nat} {n e : Nat} {nm : List Nm}
/-- a new name here: 0, or the fault -/
noncomputable def tel (b : Nat → Nat) (n : Nat) (nm : List Nm) (e : Nat) : Nat := if tso b n e = 1 ∧ bgl b n e = false then (match nlk b n nm e with
  | none => 0
  | some _ => 3) else 1
/-- a name of a sort here: 0, or the fault; its number -/
noncomputable def nam (b : Nat → Nat) (n : Nat) (nm : List Nm) (so e : Nat) : Nat × Nat := if tso b n e = 1 ∧ bgl b n e = false then (match nlk b n nm e with
  | none => (2, 0)
  | some i => if (nmD nm i).2.2.1 = so then (0, (nmD nm i).2.2.2) else (2, 0)) else (1, 0)
/-- what a line may change -/
noncomputable def sL (q : Nat) (I I' : Nat → Nat → Int32) (L L' : Nat → Nat → Int64) : Prop := (∀ a i, ¬ (a = 2 ∧ 4 ≤ i) → a ≠ 5 → a ≠ 6 → ¬ (q ≤ a ∧ a ≤ q + 12) → I' a i = I a i) ∧ ∀ a i, a ≠ 2 → a ≠ 4 → L' a i = L a i
theorem sL.rf {q : Nat} : sL q I I L L := ⟨fun _ _ _ _ _ _ => rfl, fun _ _ _ _ => rfl⟩
theorem sL.tr {q : Nat} {I' I'' : Nat → Nat → Int32} {L' L'' : Nat → Nat → Int64} (h : sL q I I' L L') (h2 : sL q I' I'' L' L'') : sL q I I'' L L'' := ⟨fun a i z1 z2 z3 z4 => (h2.1 a i z1 z2 z3 z4).trans (h.1 a i z1 z2 z3 z4), fun a i z1 z2 => (h2.2 a i z1 z2).trans (h.2 a i z1 z2)⟩
theorem sT.sL {q : Nat} {I' : Nat → Nat → Int32} {L' : Nat → Nat → Int64} (h : sT I I' L L') : sL q I I' L L' := ⟨fun a i z1 _ _ _ => h.1 a i (by omega), fun a i z1 _ => h.2 a i (by omega)⟩
theorem sL_fl {q k s : Nat} : sL q I (fl I k s) L L := ⟨fun a i z1 _ _ _ => by unfold fl; rw [u2_o (by omega), u2_o (by omega)], fun _ _ _ _ => rfl⟩
theorem TX_sL {q : Nat} {I' : Nat → Nat → Int32} {L' : Nat → Nat → Int64} (hq : q = 7 ∨ q = 20) (ht : TX b n I) (hs : sL q I I' L L') : TX b n I' := ⟨ht.1, by rw [hs.1 2 2 (by omega) (by decide) (by decide) (by omega)]; exact ht.2.1, fun i hi => ⟨(ht.2.2 i hi).1, by rw [hs.1 3 i (by omega) (by decide) (by decide) (by omega)]; exact (ht.2.2 i hi).2⟩⟩
theorem NC_sT {I' : Nat → Nat → Int32} {L' : Nat → Nat → Int64} (hn : NC b nm I L) (hs : sT I I' L L') : NC b nm I' L' := ⟨⟨by rw [hs.1 2 12 (by omega)]; exact hn.1.1, by rw [hs.1 2 13 (by omega)]; exact hn.1.2⟩, hn.2.1, fun i hi => by
  obtain ⟨h1, h2, h3, h4⟩ := hn.2.2 i hi
  exact ⟨h1, by rw [hs.2 4 i (by omega)]; exact h2, by rw [hs.1 5 i (by omega)]; exact h3, by rw [hs.1 6 i (by omega)]; exact h4⟩⟩
theorem nmD_a {x : Nm} : nmD (nm ++ [x]) nm.length = x := by
  unfold nmD
  rw [List.getD_eq_getElem?_getD, List.getElem?_append_right (Nat.le_refl _), Nat.sub_self]
  rfl
theorem nmD_o {x : Nm} {i : Nat} (h : i < nm.length) : nmD (nm ++ [x]) i = nmD nm i := by
  unfold nmD
  rw [List.getD_eq_getElem?_getD, List.getElem?_append_left h, List.getD_eq_getElem?_getD]
set_option maxRecDepth 20000 in
theorem x_tells {so k : Nat} (ht : TX b n I) (he : e ≤ n) (hc : TC b n e I L) (hn : NC b nm I L) (h15 : nm.length < 15) (h0 : tel b n nm e = 0 → ∀ I' L', sL 7 I I' L L' → (∀ a i, a ≠ 2 → a ≠ 5 → a ≠ 6 → I' a i = I a i) → NC b (nm ++ [(tst b n e, tsp b n e - tst b n e, so, k)]) I' L' → TC b n (tsp b n e) I' L' → kr (some (.int 1)) (mk w p r I' L')) (h1 : tel b n nm e ≠ 0 → kr (some (.int 0)) (mk w p r (fl I (tel b n nm e) (tst b n e)) L)) : Ev l X uX4_tells (d + 7) true 0 0 [.ref 2, .int (nI so), .int (nI k)] (mk w p r I L) kr := by
  obtain ⟨⟨n1, n0⟩, n2, n3⟩ := id hn
  have s4 := tso_5 (b := b) (n := n) (e := e)
  refine Ev.of (by decide) (Nat.le_of_ble_eq_true rfl) ?_
  unfold tel at h0 h1
  have form : ¬ (tso b n e = 1 ∧ bgl b n e = false) → Wf l X uX4_tells (d + 7) true (mC (mk w p r I L) + 0, mS (mk w p r I L) + 0) 24 [(0, .ref 2), (1, .int (nI so)), (2, .int (nI k))] [] (mk w p r I L) kr := by
    intro q
    rw [if_neg q] at h1
    refine Wf.gc tkX4_tells [] ?_
    conv => whnf
    refine x_fails hc ?_
    conv => whnf
    exact ⟨Or.inl rfl, h1 (by decide)⟩
  refine Wf.gc tkX4_tells [24] ?_
  conv => whnf
  refine ⟨fun z => ?_, fun z => ?_⟩
  · have z : ¬ I 2 4 = 1 := z
    rw [hc.1, show (1 : Int32) = nI 1 from rfl, nI_eq (by omega) (by decide)] at z
    conv => whnf
    exact form (fun q => z q.1)
  have z : I 2 4 = 1 := z
  rw [hc.1, show (1 : Int32) = nI 1 from rfl, nI_eq (by omega) (by decide)] at z
  conv => whnf
  refine x_beginsLine (d := d) ht he hc ?_
  conv => whnf
  refine ⟨fun z2 => ?_, fun z2 => ?_⟩
  · have z2 := bI_t z2
    conv => whnf
    exact form (fun q => by rw [z2] at q; cases q.2)
  have z2 := bI_f z2
  rw [if_pos ⟨z, z2⟩] at h0 h1
  conv => whnf
  refine b1 ?_ ?_
  · show ¬ ¬ I 2 12 < 15
    intro q
    apply q
    rw [n1]
    exact nI_lt h15 (by decide)
  conv => whnf
  refine x_nameAt he hc hn z ?_
  conv => whnf
  cases hk : nlk b n nm e with
  | some i =>
    rw [hk] at h1
    have hi := ff_lt hk
    refine b2 ?_ ?_
    · show ¬ nI i = -2
      intro q
      have q : (nI i).toInt = (-2 : Int32).toInt := by rw [q]
      rw [nI_toInt (by omega)] at q
      have : (-2 : Int32).toInt = -2 := rfl
      omega
    conv => whnf
    refine x_fails hc ?_
    conv => whnf
    exact ⟨Or.inl rfl, h1 (show (3 : Nat) ≠ 0 by decide)⟩
  | none =>
    rw [hk] at h0
    refine b1 (fun z => z rfl) ?_
    conv => whnf
    refine ⟨nm.length, ⟨n1, by omega, show _ < 15 by omega⟩, ?_⟩
    conv => whnf
    refine ⟨nm.length, ⟨n1, by omega, show _ < 15 by omega⟩, ?_⟩
    conv => whnf
    refine ⟨nm.length, ⟨n1, by omega, show _ < 15 by omega⟩, ?_⟩
    conv => whnf
    have hsp := tsp_b (b := b) he
    show Ev l X uX4_take (d + 6) true 0 0 [.ref 2] (mk w p r (u2 (u2 (u2 I 5 nm.length (nI so)) 6 nm.length (nI k)) 2 12 (I 2 12 + 1)) (u2 L 4 nm.length (L 2 8))) _
    have tx : TX b n (u2 (u2 (u2 I 5 nm.length (nI so)) 6 nm.length (nI k)) 2 12 (I 2 12 + 1)) := ⟨ht.1, ht.2.1, fun i hi => ⟨(ht.2.2 i hi).1, by rw [u2_o (by omega), u2_o (by omega), u2_o (by omega)]; exact (ht.2.2 i hi).2⟩⟩
    refine x_take (d := d + 5) tx hsp.2 (by rw [u2_o (by omega), u2_o (by omega), u2_o (by omega)]; exact hc.2.2.1) (fun I' L' hs hc' => ?_)
    conv => whnf
    refine ⟨Or.inr rfl, h0 rfl I' L' ⟨fun a i z1 z2 z3 z4 => ?_, fun a i z1 z2 => ?_⟩ (fun a i z1 z2 z3 => ?_) ⟨⟨?_, by rw [hs.1 2 13 (by omega), u2_o (by omega), u2_o (by omega), u2_o (by omega)]; exact n0⟩, ?_, fun i hi => ?_⟩ hc'⟩
    · rw [hs.1 a i (by omega), u2_o (by omega), u2_o (by omega), u2_o (by omega)]
    · rw [hs.2 a i (by omega), u2_o (by omega)]
    · rw [hs.1 a i (by omega), u2_o (by omega), u2_o (by omega), u2_o (by omega)]
    · rw [hs.1 2 12 (by omega), u2_s, n1, nI_1, List.length_append]
      rfl
    · rw [List.length_append]
      show nm.length + 1 ≤ 15
      omega
    · rw [List.length_append] at hi
      have hi : i < nm.length + 1 := hi
      rcases Nat.lt_or_ge i nm.length with z5 | z5
      · obtain ⟨m1, m2, m3, m4⟩ := n3 i z5
        rw [nmD_o z5]
        refine ⟨m1, ?_, ?_, ?_⟩
        · rw [hs.2 4 i (by omega), u2_o (by omega)]; exact m2
        · rw [hs.1 5 i (by omega), u2_o (by omega), u2_o (by omega), u2_o (by omega)]; exact m3
        · rw [hs.1 6 i (by omega), u2_o (by omega), u2_o (by omega), u2_o (by omega)]; exact m4
      · have e5 : i = nm.length := by omega
        subst e5
        rw [nmD_a]
        refine ⟨wordS he z, ?_, ?_, ?_⟩
        · rw [hs.2 4 nm.length (by omega), u2_s]; exact hc.2.2.2.2 z
        · rw [hs.1 5 nm.length (by omega), u2_o (by omega), u2_o (by omega), u2_s]
        · rw [hs.1 6 nm.length (by omega), u2_o (by omega), u2_s]
set_option maxRecDepth 20000 in
theorem x_named {so : Nat} (hso : so < 10) (hsr : ∀ i, i < nm.length → (nmD nm i).2.2.1 < 10) (ht : TX b n I) (he : e ≤ n) (hc : TC b n e I L) (hn : NC b nm I L) (h0 : (nam b n nm so e).1 = 0 → kr (some (.int (nI (nam b n nm so e).2))) (mk w p r I L)) (h1 : (nam b n nm so e).1 ≠ 0 → kr (some (.int (-2))) (mk w p r (fl I (nam b n nm so e).1 (tst b n e)) L)) : Ev l X uX4_named (d + 7) true 0 0 [.ref 2, .int (nI so)] (mk w p r I L) kr := by
  obtain ⟨⟨n1, n0⟩, n2, n3⟩ := id hn
  have s4 := tso_5 (b := b) (n := n) (e := e)
  refine Ev.of (by decide) (Nat.le_of_ble_eq_true rfl) ?_
  unfold nam at h0 h1
  have form : ¬ (tso b n e = 1 ∧ bgl b n e = false) → Wf l X uX4_named (d + 7) true (mC (mk w p r I L) + 0, mS (mk w p r I L) + 0) 15 [(0, .ref 2), (1, .int (nI so))] [] (mk w p r I L) kr := by
    intro q
    rw [if_neg q] at h1
    refine Wf.gc tkX4_named [] ?_
    conv => whnf
    refine x_fails hc ?_
    conv => whnf
    exact h1 (show (1 : Nat) ≠ 0 by decide)
  refine Wf.gc tkX4_named [15, 24] ?_
  conv => whnf
  refine ⟨fun z => ?_, fun z => ?_⟩
  · have z : ¬ I 2 4 = 1 := z
    rw [hc.1, show (1 : Int32) = nI 1 from rfl, nI_eq (by omega) (by decide)] at z
    conv => whnf
    exact form (fun q => z q.1)
  have z : I 2 4 = 1 := z
  rw [hc.1, show (1 : Int32) = nI 1 from rfl, nI_eq (by omega) (by decide)] at z
  conv => whnf
  refine x_beginsLine (d := d) ht he hc ?_
  conv => whnf
  have go : bgl b n e = false → Wf l X uX4_named (d + 7) true (mC (mk w p r I L) + 0, mS (mk w p r I L) + 0) 24 [(0, .ref 2), (1, .int (nI so))] [] (mk w p r I L) kr := by
    intro z2
    rw [if_pos ⟨z, z2⟩] at h0 h1
    refine Wf.gc tkX4_named [45] ?_
    conv => whnf
    refine x_nameAt he hc hn z ?_
    conv => whnf
    have no : ∀ v : Int32, ((match nlk b n nm e with
      | none => (2, 0)
      | some i => if (nmD nm i).2.2.1 = so then (0, (nmD nm i).2.2.2) else (2, 0)) : Nat × Nat) = (2, 0) → Wf l X uX4_named (d + 7) true (mC (mk w p r I L) + 0, mS (mk w p r I L) + 0) 45 [(0, .ref 2), (1, .int (nI so)), (2, .int v)] [] (mk w p r I L) kr := by
      intro v q
      rw [q] at h1
      refine Wf.gc tkX4_named [] ?_
      conv => whnf
      refine x_fails hc ?_
      conv => whnf
      exact h1 (show (2 : Nat) ≠ 0 by decide)
    cases hk : nlk b n nm e with
    | none =>
      rw [hk] at no
      refine b1 (fun z => z rfl) ?_
      conv => whnf
      exact no _ rfl
    | some i =>
      rw [hk] at no h0
      have hi := ff_lt hk
      obtain ⟨m1, m2, m3, m4⟩ := n3 i (by omega)
      refine b2 ?_ ?_
      · show ¬ nI i = -2
        intro q
        have q : (nI i).toInt = (-2 : Int32).toInt := by rw [q]
        rw [nI_toInt (by omega)] at q
        have : (-2 : Int32).toInt = -2 := rfl
        omega
      conv => whnf
      refine ⟨i, ix (N := 15) (by omega) (by decide), ?_⟩
      conv => whnf
      have hs10 := hsr i (by omega)
      refine ⟨fun z3 => ?_, fun z3 => ?_⟩
      · have z3 : I 5 i = nI so := z3
        rw [m3, nI_eq (by omega) (by omega)] at z3
        have h0 := h0 (by show (if (nmD nm i).2.2.1 = so then ((0, (nmD nm i).2.2.2) : Nat × Nat) else (2, 0)).1 = 0; rw [if_pos z3])
        have h0 : kr (some (.int (nI (if (nmD nm i).2.2.1 = so then ((0, (nmD nm i).2.2.2) : Nat × Nat) else (2, 0)).2))) (mk w p r I L) := h0
        rw [if_pos z3, ← m4] at h0
        conv => whnf
        refine ⟨i, ix (N := 15) (by omega) (by decide), ?_⟩
        conv => whnf
        exact h0
      · have z3 : ¬ I 5 i = nI so := z3
        rw [m3, nI_eq (by omega) (by omega)] at z3
        conv => whnf
        exact no _ (if_neg z3)
  refine ⟨fun z2 => ?_, fun z2 => ?_⟩
  · conv => whnf
    exact go (bI_f z2)
  · have z2 := bI_t z2
    conv => whnf
    exact form (fun q => by rw [z2] at q; cases q.2)
/-- the kind of a face here -/
noncomputable def kin (b : Nat → Nat) (n e : Nat) : Option Nat := if isW b n 13 e = true then some 0 else if isW b n 14 e = true then some 1 else if isW b n 15 e = true then some 2 else none
set_option maxRecDepth 20000 in
theorem x_kindHere (ht : TX b n I) (he : e ≤ n) (hc : TC b n e I L) (h : kr (some (.int (oI (kin b n e)))) (mk w p r I L)) : Ev l X uX4_kindHere (d + 6) true 0 0 [.ref 2] (mk w p r I L) kr := by
  refine Ev.of (by decide) (Nat.le_of_ble_eq_true rfl) ?_
  unfold kin at h
  refine Wf.gc tkX4_kindHere [] ?_
  conv => whnf
  refine x_isWord (wd := 5013) (d := d) ht he hc (by decide) ?_
  conv => whnf
  refine ⟨fun z => ?_, fun z => ?_⟩
  · rw [if_neg (by rw [show isW b n 13 e = false from bI_f z]; decide)] at h
    conv => whnf
    refine x_isWord (wd := 5014) (d := d) ht he hc (by decide) ?_
    conv => whnf
    refine ⟨fun z => ?_, fun z => ?_⟩
    · rw [if_neg (by rw [show isW b n 14 e = false from bI_f z]; decide)] at h
      conv => whnf
      refine x_isWord (wd := 5015) (d := d) ht he hc (by decide) ?_
      conv => whnf
      refine ⟨fun z => ?_, fun z => ?_⟩
      · rw [if_neg (by rw [show isW b n 15 e = false from bI_f z]; decide)] at h
        conv => whnf
        exact h
      · rw [if_pos (show isW b n 15 e = true from bI_t z)] at h
        conv => whnf
        exact h
    · rw [if_pos (show isW b n 14 e = true from bI_t z)] at h
      conv => whnf
      exact h
  · rw [if_pos (show isW b n 13 e = true from bI_t z)] at h
    conv => whnf
    exact h
end TEL
end
section
/-! LINES: what a text says up to a place, as numbers by places (as the reference's row has them, 300 + c: the face of canon c), the walls, the names -/
section PST
noncomputable def uF (F : Nat → Nat) (k v : Nat) : Nat → Nat := fun j => if j = k then v else F j
theorem uF_s {F : Nat → Nat} {k v : Nat} : uF F k v k = v := if_pos rfl
theorem uF_o {F : Nat → Nat} {k v j : Nat} (h : j ≠ k) : uF F k v j = F j := if_neg h
noncomputable abbrev Ps : Type := (Nat → Nat) × Int32 × List Nm × Nat
noncomputable abbrev Rs : Type := (Nat × Nat) ⊕ Ps
/-- k tokens further -/
noncomputable def tn (b : Nat → Nat) (n : Nat) : Nat → Nat → Nat
  | 0, e => e
  | k + 1, e => tsp b n (tn b n k e)
theorem tn_b {b : Nat → Nat} {n e : Nat} (h : e ≤ n) : ∀ k, tn b n k e ≤ n
  | 0 => h
  | k + 1 => (tsp_b (tn_b h k)).2
noncomputable def isWl (W : Int32) (k : Nat) : Bool := !(decide ((W >>> (nI k &&& 31)) &&& 1 = 0))
noncomputable def fov (F : Nat → Nat) (v : Nat) : Option Nat := ff (fun g => Nat.beq (F (14 + 4 * g)) v) (F 4) 0
noncomputable def toc (F : Nat → Nat) (f : Nat) : Option Nat := ff (fun c => Nat.beq (F (300 + c)) f) (F 5) 0
noncomputable def usd (F : Nat → Nat) (c : Nat) : Option Nat := ff (fun u => Nat.beq (F (53 + 2 * u)) c) (F 7) 0
variable (b : Nat → Nat) (n : Nat)
noncomputable def nw (e so k : Nat) : Nm := (tst b n e, tsp b n e - tst b n e, so, k)
noncomputable def lnClose (F : Nat → Nat) (W : Int32) (nm : List Nm) (e : Nat) : Rs :=
  if (lab b n 7 2 5 (tn b n 1 e)).1 ≠ 0 then .inl (lab b n 7 2 5 (tn b n 1 e))
  else if (lab b n 8 2 4 (tn b n 3 e)).1 ≠ 0 then .inl (lab b n 8 2 4 (tn b n 3 e))
  else if (lab b n 9 0 100 (tn b n 5 e)).1 ≠ 0 then .inl (lab b n 9 0 100 (tn b n 5 e))
  else .inr (uF (uF (uF (uF F 0 (tvl b n (tn b n 2 e))) 1 (tvl b n (tn b n 4 e))) 2 (tvl b n (tn b n 6 e))) 9 1, W, nm, tn b n 7 e)
noncomputable def lnWall (F : Nat → Nat) (W : Int32) (nm : List Nm) (e : Nat) : Rs :=
  if 5 ≤ F 3 then .inl (5, tst b n e)
  else if 0 < F 6 then .inl (7, tst b n e)
  else if bnd b n 0 (F 0 * F 1 - 1) (tn b n 1 e) ≠ 0 then .inl (bnd b n 0 (F 0 * F 1 - 1) (tn b n 1 e), tst b n (tn b n 1 e))
  else if isWl W (tvl b n (tn b n 1 e)) = true then .inl (3, tst b n (tn b n 1 e))
  else .inr (uF F 3 (F 3 + 1), W ||| ((1 : Int32) <<< (nI (tvl b n (tn b n 1 e)) &&& 31)), nm, tn b n 2 e)
noncomputable def lnFace (F : Nat → Nat) (W : Int32) (nm : List Nm) (e : Nat) : Rs :=
  if 6 ≤ F 4 then .inl (5, tst b n e)
  else if tel b n nm (tn b n 1 e) ≠ 0 then .inl (tel b n nm (tn b n 1 e), tst b n (tn b n 1 e))
  else match kin b n (tn b n 2 e) with
    | none => .inl (1, tst b n (tn b n 2 e))
    | some kd =>
      if (lab b n 10 1 99 (tn b n 3 e)).1 ≠ 0 then .inl (lab b n 10 1 99 (tn b n 3 e))
      else if (lab b n 11 0 9 (tn b n 5 e)).1 ≠ 0 then .inl (lab b n 11 0 9 (tn b n 5 e))
      else if (lab b n 12 0 (F 0 * F 1 - 1) (tn b n 7 e)).1 ≠ 0 then .inl (lab b n 12 0 (F 0 * F 1 - 1) (tn b n 7 e))
      else if (fov F (tvl b n (tn b n 8 e))).isSome = true then .inl (3, tst b n (tn b n 8 e))
      else .inr (uF (uF (uF (uF (uF F (11 + 4 * F 4) kd) (12 + 4 * F 4) (tvl b n (tn b n 4 e))) (13 + 4 * F 4) (tvl b n (tn b n 6 e))) (14 + 4 * F 4) (tvl b n (tn b n 8 e))) 4 (F 4 + 1), W, nm ++ [nw b n (tn b n 1 e) 1 (F 4)], tn b n 9 e)
noncomputable def lnCanon (F : Nat → Nat) (W : Int32) (nm : List Nm) (e : Nat) : Rs :=
  if 5 ≤ F 5 then .inl (5, tst b n e)
  else if tel b n nm (tn b n 1 e) ≠ 0 then .inl (tel b n nm (tn b n 1 e), tst b n (tn b n 1 e))
  else if (nam b n (nm ++ [nw b n (tn b n 1 e) 2 (F 5)]) 1 (tn b n 2 e)).1 ≠ 0 then .inl ((nam b n (nm ++ [nw b n (tn b n 1 e) 2 (F 5)]) 1 (tn b n 2 e)).1, tst b n (tn b n 2 e))
  else if (toc F (nam b n (nm ++ [nw b n (tn b n 1 e) 2 (F 5)]) 1 (tn b n 2 e)).2).isSome = true then .inl (3, tst b n (tn b n 2 e))
  else if (lab b n 16 1 30 (tn b n 3 e)).1 ≠ 0 then .inl (lab b n 16 1 30 (tn b n 3 e))
  else if (lab b n 17 1 9 (tn b n 5 e)).1 ≠ 0 then .inl (lab b n 17 1 9 (tn b n 5 e))
  else .inr (uF (uF (uF (uF F (300 + F 5) (nam b n (nm ++ [nw b n (tn b n 1 e) 2 (F 5)]) 1 (tn b n 2 e)).2) (35 + 2 * F 5) (tvl b n (tn b n 4 e))) (36 + 2 * F 5) (tvl b n (tn b n 6 e))) 5 (F 5 + 1), W, nm ++ [nw b n (tn b n 1 e) 2 (F 5)], tn b n 7 e)
noncomputable def lnWalker (F : Nat → Nat) (W : Int32) (nm : List Nm) (e : Nat) : Rs :=
  if 4 ≤ F 6 then .inl (5, tst b n e)
  else if tel b n nm (tn b n 1 e) ≠ 0 then .inl (tel b n nm (tn b n 1 e), tst b n (tn b n 1 e))
  else if (lab b n 18 0 (F 0 * F 1 - 1) (tn b n 2 e)).1 ≠ 0 then .inl (lab b n 18 0 (F 0 * F 1 - 1) (tn b n 2 e))
  else if isWl W (tvl b n (tn b n 3 e)) = true then .inl (7, tst b n (tn b n 3 e))
  else if (lab b n 19 0 (F 0 * F 1 - 1) (tn b n 4 e)).1 ≠ 0 then .inl (lab b n 19 0 (F 0 * F 1 - 1) (tn b n 4 e))
  else if isWl W (tvl b n (tn b n 5 e)) = true then .inl (7, tst b n (tn b n 5 e))
  else .inr (uF (uF (uF F (45 + 2 * F 6) (tvl b n (tn b n 3 e))) (46 + 2 * F 6) (tvl b n (tn b n 5 e))) 6 (F 6 + 1), W, nm ++ [nw b n (tn b n 1 e) 3 (F 6)], tn b n 6 e)
noncomputable def lnUnsure (F : Nat → Nat) (W : Int32) (nm : List Nm) (e : Nat) : Rs :=
  if 4 ≤ F 7 then .inl (5, tst b n e)
  else if (nam b n nm 2 (tn b n 1 e)).1 ≠ 0 then .inl ((nam b n nm 2 (tn b n 1 e)).1, tst b n (tn b n 1 e))
  else if (usd F (nam b n nm 2 (tn b n 1 e)).2).isSome = true then .inl (3, tst b n (tn b n 1 e))
  else if bnd b n 1 30 (tn b n 2 e) ≠ 0 then .inl (bnd b n 1 30 (tn b n 2 e), tst b n (tn b n 2 e))
  else .inr (uF (uF (uF F (53 + 2 * F 7) (nam b n nm 2 (tn b n 1 e)).2) (54 + 2 * F 7) (tvl b n (tn b n 2 e))) 7 (F 7 + 1), W, nm, tn b n 3 e)
noncomputable def lnDropped (F : Nat → Nat) (W : Int32) (nm : List Nm) (e : Nat) : Rs :=
  if (nam b n nm 1 (tn b n 1 e)).1 ≠ 0 then .inl ((nam b n nm 1 (tn b n 1 e)).1, tst b n (tn b n 1 e))
  else if F (61 + (nam b n nm 1 (tn b n 1 e)).2) ≠ 0 then .inl (3, tst b n (tn b n 1 e))
  else if (lab b n 20 1 40 (tn b n 2 e)).1 ≠ 0 then .inl (lab b n 20 1 40 (tn b n 2 e))
  else .inr (uF (uF F (61 + (nam b n nm 1 (tn b n 1 e)).2) (tvl b n (tn b n 3 e))) 8 (F 8 + 1), W, nm, tn b n 4 e)
noncomputable def ln (F : Nat → Nat) (W : Int32) (nm : List Nm) (e : Nat) : Rs :=
  if bgl b n e = false then .inl (1, tst b n e)
  else if isW b n 0 e = true then (if 0 < F 0 then .inl (3, tst b n e) else lnClose b n F W nm e)
  else if F 0 = 0 then .inl (6, tst b n e)
  else if isW b n 1 e = true then lnWall b n F W nm e
  else if isW b n 2 e = true then lnFace b n F W nm e
  else if isW b n 3 e = true then lnCanon b n F W nm e
  else if isW b n 4 e = true then lnWalker b n F W nm e
  else if isW b n 5 e = true then lnUnsure b n F W nm e
  else lnDropped b n F W nm e
/-- all lines -/
noncomputable def rdT : Nat → Ps → Rs
  | 0, P => .inl (1, tst b n P.2.2.2)
  | f + 1, P => match ln b n P.1 P.2.1 P.2.2.1 P.2.2.2 with
    | .inl er => .inl er
    | .inr P' => if tso b n P'.2.2.2 = 0 then (if 0 < P'.1 4 then .inr P' else .inl (6, tst b n P'.2.2.2)) else if tso b n P'.2.2.2 = 3 then rdT f (P'.1, P'.2.1, P'.2.2.1, tsp b n P'.2.2.2) else .inl (1, tst b n P'.2.2.2)
end PST
section PLC
variable {l : Launch} {X : Nat × (Nat → Int32)} {d : Nat} {w : Nat × Nat} {p r : Nat} {I : Nat → Nat → Int32} {L : Nat → Nat → Int64} {kr : KR} {b : Nat → Nat} {n e : Nat} {nm : List Nm} {F : Nat → Nat} {W : Int32}
/-- the class's plan q -/
noncomputable def PC (q : Nat) (F : Nat → Nat) (W : Int32) (I : Nat → Nat → Int32) : Prop := (I q 0 = nI (F 0) ∧ I q 1 = nI (F 1) ∧ I q 2 = nI (F 2) ∧ I q 3 = W ∧ I q 4 = nI (F 4) ∧ I q 10 = nI (F 5) ∧ I q 14 = nI (F 6) ∧ I q 17 = nI (F 7)) ∧ (∀ f, f < F 4 → I (q + 1) f = nI (F (11 + 4 * f)) ∧ I (q + 2) f = nI (F (12 + 4 * f)) ∧ I (q + 3) f = nI (F (13 + 4 * f)) ∧ I (q + 4) f = nI (F (14 + 4 * f))) ∧ (∀ f, f < 6 → I (q + 5) f = nI (F (61 + f))) ∧ (∀ c, c < F 5 → I (q + 6) c = nI (F (300 + c)) ∧ I (q + 7) c = nI (F (35 + 2 * c)) ∧ I (q + 8) c = nI (F (36 + 2 * c))) ∧ (∀ k, k < F 6 → I (q + 9) k = nI (F (45 + 2 * k)) ∧ I (q + 10) k = nI (F (46 + 2 * k))) ∧ (∀ u, u < F 7 → I (q + 11) u = nI (F (53 + 2 * u)) ∧ I (q + 12) u = nI (F (54 + 2 * u)))
theorem PC_cg {q : Nat} {I' : Nat → Nat → Int32} (h : PC q F W I) (h0 : ∀ i, i < 20 → I' q i = I q i) (h1 : ∀ f, f < F 4 → I' (q + 1) f = I (q + 1) f ∧ I' (q + 2) f = I (q + 2) f ∧ I' (q + 3) f = I (q + 3) f ∧ I' (q + 4) f = I (q + 4) f) (h2 : ∀ f, f < 6 → I' (q + 5) f = I (q + 5) f) (h3 : ∀ c, c < F 5 → I' (q + 6) c = I (q + 6) c ∧ I' (q + 7) c = I (q + 7) c ∧ I' (q + 8) c = I (q + 8) c) (h4 : ∀ k, k < F 6 → I' (q + 9) k = I (q + 9) k ∧ I' (q + 10) k = I (q + 10) k) (h5 : ∀ u, u < F 7 → I' (q + 11) u = I (q + 11) u ∧ I' (q + 12) u = I (q + 12) u) : PC q F W I' := by
  obtain ⟨⟨a0, a1, a2, a3, a4, a5, a6, a7⟩, b1, b2, b3, b4, b5⟩ := h
  refine ⟨⟨by rw [h0 0 (by decide)]; exact a0, by rw [h0 1 (by decide)]; exact a1, by rw [h0 2 (by decide)]; exact a2, by rw [h0 3 (by decide)]; exact a3, by rw [h0 4 (by decide)]; exact a4, by rw [h0 10 (by decide)]; exact a5, by rw [h0 14 (by decide)]; exact a6, by rw [h0 17 (by decide)]; exact a7⟩, fun f hf => ?_, fun f hf => by rw [h2 f hf]; exact b2 f hf, fun c hc => ?_, fun k hk => ?_, fun u hu => ?_⟩
  · obtain ⟨z1, z2, z3, z4⟩ := h1 f hf
    rw [z1, z2, z3, z4]
    exact b1 f hf
  · obtain ⟨z1, z2, z3⟩ := h3 c hc
    rw [z1, z2, z3]
    exact b3 c hc
  · obtain ⟨z1, z2⟩ := h4 k hk
    rw [z1, z2]
    exact b4 k hk
  · obtain ⟨z1, z2⟩ := h5 u hu
    rw [z1, z2]
    exact b5 u hu
theorem PC_eq {q : Nat} {I' : Nat → Nat → Int32} (h : PC q F W I) (he : ∀ a i, q ≤ a → a ≤ q + 12 → I' a i = I a i) : PC q F W I' :=
  PC_cg h (fun i _ => he _ i (by omega) (by omega)) (fun f _ => ⟨he _ f (by omega) (by omega), he _ f (by omega) (by omega), he _ f (by omega) (by omega), he _ f (by omega) (by omega)⟩) (fun f _ => he _ f (by omega) (by omega)) (fun c _ => ⟨he _ c (by omega) (by omega), he _ c (by omega) (by omega), he _ c (by omega) (by omega)⟩) (fun k _ => ⟨he _ k (by omega) (by omega), he _ k (by omega) (by omega)⟩) (fun u _ => ⟨he _ u (by omega) (by omega), he _ u (by omega) (by omega)⟩)
theorem PC_sT {q : Nat} {I' : Nat → Nat → Int32} {L' : Nat → Nat → Int64} (hq : 7 ≤ q) (h : PC q F W I) (hs : sT I I' L L') : PC q F W I' := PC_eq h (fun a i z1 z2 => hs.1 a i (by omega))
/-- a new entry of an array behind those that count -/
theorem PC_new {q : Nat} {j i : Nat} {v : Int32} (h : PC q F W I) (hj : (j = 1 ∨ j = 2 ∨ j = 3 ∨ j = 4) ∧ F 4 ≤ i ∨ (j = 6 ∨ j = 7 ∨ j = 8) ∧ F 5 ≤ i ∨ (j = 9 ∨ j = 10) ∧ F 6 ≤ i ∨ (j = 11 ∨ j = 12) ∧ F 7 ≤ i) : PC q F W (u2 I (q + j) i v) :=
  PC_cg h (fun k _ => u2_o (by omega)) (fun f hf => ⟨u2_o (by omega), u2_o (by omega), u2_o (by omega), u2_o (by omega)⟩) (fun f hf => u2_o (by omega)) (fun c hc => ⟨u2_o (by omega), u2_o (by omega), u2_o (by omega)⟩) (fun k hk => ⟨u2_o (by omega), u2_o (by omega)⟩) (fun u hu => ⟨u2_o (by omega), u2_o (by omega)⟩)
/-- the class's state behind some lines -/
noncomputable def SC (b : Nat → Nat) (n q : Nat) (P : Ps) (I : Nat → Nat → Int32) (L : Nat → Nat → Int64) : Prop := TX b n I ∧ P.2.2.2 ≤ n ∧ TC b n P.2.2.2 I L ∧ NC b P.2.2.1 I L ∧ PC q P.1 P.2.1 I
theorem fl_13 {k s : Nat} : fl I k s 2 13 = nI k := by unfold fl; rw [u2_o (by decide), u2_s]
theorem fl_14 {k s : Nat} : fl I k s 2 14 = nI s := by unfold fl; rw [u2_s]
end PLC
end
section
/-! the plan's own questions -/
section PLQ
variable {l : Launch} {X : Nat × (Nat → Int32)} {d : Nat} {w : Nat × Nat} {p r : Nat} {I : Nat → Nat → Int32} {L : Nat → Nat → Int64} {kr : KR} {F : Nat → Nat} {W : Int32}
theorem b1' {P A B : Prop} (hp : P) (a : A) : (P → A) ∧ (¬ P → B) := ⟨fun _ => a, fun z => absurd hp z⟩
theorem b2' {P A B : Prop} (hn : ¬ P) (b : B) : (P → A) ∧ (¬ P → B) := ⟨fun z => absurd z hn, fun _ => b⟩
set_option maxRecDepth 20000 in
theorem x_faceOver {q v : Nat} (hq : q = 7 ∨ q = 20) (hv : v < 1000) (hF : ∀ f, f < F 4 → F (14 + 4 * f) < 1000) (hN : F 4 ≤ 6) (hp : PC q F W I) (h : kr (some (.int (oI (fov F v)))) (mk w p r I L)) : Ev l X uX3_faceOver d true 0 0 [.ref q, .int (nI v)] (mk w p r I L) kr := by
  obtain ⟨⟨a0, a1, a2, a3, a4, a5, a6, a7⟩, b1, b2, b3, b4, b5⟩ := hp
  refine Ev.of (by decide) (Nat.le_of_ble_eq_true rfl) ?_
  rcases hq with rfl | rfl
  · refine Wf.gc tkX3_faceOver [2] ?_
    conv => whnf
    have loop := srch (e := F 4) (P := fun g => Nat.beq (F (14 + 4 * g)) v) (Wi := fun i => Wf l X uX3_faceOver d true (mC (mk w p r I L) + 0, mS (mk w p r I L) + 0) 2 [(0, .ref 7), (1, .int (nI v)), (2, .int (nI i))] [] (mk w p r I L) kr) (K := fun o => kr (some (.int (oI o))) (mk w p r I L)) ?_ ?_ 0 (Nat.zero_le _)
    · rw [Nat.sub_zero] at loop
      exact loop h
    · intro hK
      refine Wf.gc tkX3_faceOver [] ?_
      conv => whnf
      refine b1' (by show I 7 4 ≤ nI (F 4); rw [a4]; exact Int32.le_refl _) ?_
      conv => whnf
      exact hK
    · intro i hi
      have m3 : I 11 i = nI (F (14 + 4 * i)) := (b1 i hi).2.2.2
      have head : (F (14 + 4 * i) = v → kr (some (.int (nI i))) (mk w p r I L)) → (¬ F (14 + 4 * i) = v → Wf l X uX3_faceOver d true (mC (mk w p r I L) + 0, mS (mk w p r I L) + 0) 22 [(0, .ref 7), (1, .int (nI v)), (2, .int (nI i))] [] (mk w p r I L) kr) → Wf l X uX3_faceOver d true (mC (mk w p r I L) + 0, mS (mk w p r I L) + 0) 2 [(0, .ref 7), (1, .int (nI v)), (2, .int (nI i))] [] (mk w p r I L) kr := by
        intro j1 j2
        refine Wf.gc tkX3_faceOver [22] ?_
        conv => whnf
        refine b2' (by show ¬ I 7 4 ≤ nI i; rw [a4]; exact nI_ge hi (by omega)) ?_
        conv => whnf
        refine ⟨i, ix (N := 6) (by omega) (by decide), ?_⟩
        conv => whnf
        refine ⟨fun z => ?_, fun z => ?_⟩
        · have z : ¬ I 11 i = nI v := z
          rw [m3, nI_eq (by have := hF i hi; omega) (by omega)] at z
          conv => whnf
          exact j2 z
        · have z : I 11 i = nI v := z
          rw [m3, nI_eq (by have := hF i hi; omega) (by omega)] at z
          conv => whnf
          exact j1 z
      refine ⟨fun hP hK => ?_, fun hP hK => ?_⟩
      · exact head (fun _ => hK) (fun q => absurd (Nat.eq_of_beq_eq_true hP) q)
      · refine head (fun q => ?_) (fun _ => ?_)
        · have hP : Nat.beq (F (14 + 4 * i)) v = false := hP
          rw [q, Nat.beq_refl] at hP
          cases hP
        · refine Wf.gc tkX3_faceOver [2] ?_
          conv => whnf
          rw [← nI_1] at hK
          exact hK
  · refine Wf.gc tkX3_faceOver [2] ?_
    conv => whnf
    have loop := srch (e := F 4) (P := fun g => Nat.beq (F (14 + 4 * g)) v) (Wi := fun i => Wf l X uX3_faceOver d true (mC (mk w p r I L) + 0, mS (mk w p r I L) + 0) 2 [(0, .ref 20), (1, .int (nI v)), (2, .int (nI i))] [] (mk w p r I L) kr) (K := fun o => kr (some (.int (oI o))) (mk w p r I L)) ?_ ?_ 0 (Nat.zero_le _)
    · rw [Nat.sub_zero] at loop
      exact loop h
    · intro hK
      refine Wf.gc tkX3_faceOver [] ?_
      conv => whnf
      refine b1' (by show I 20 4 ≤ nI (F 4); rw [a4]; exact Int32.le_refl _) ?_
      conv => whnf
      exact hK
    · intro i hi
      have m3 : I 24 i = nI (F (14 + 4 * i)) := (b1 i hi).2.2.2
      have head : (F (14 + 4 * i) = v → kr (some (.int (nI i))) (mk w p r I L)) → (¬ F (14 + 4 * i) = v → Wf l X uX3_faceOver d true (mC (mk w p r I L) + 0, mS (mk w p r I L) + 0) 22 [(0, .ref 20), (1, .int (nI v)), (2, .int (nI i))] [] (mk w p r I L) kr) → Wf l X uX3_faceOver d true (mC (mk w p r I L) + 0, mS (mk w p r I L) + 0) 2 [(0, .ref 20), (1, .int (nI v)), (2, .int (nI i))] [] (mk w p r I L) kr := by
        intro j1 j2
        refine Wf.gc tkX3_faceOver [22] ?_
        conv => whnf
        refine b2' (by show ¬ I 20 4 ≤ nI i; rw [a4]; exact nI_ge hi (by omega)) ?_
        conv => whnf
        refine ⟨i, ix (N := 6) (by omega) (by decide), ?_⟩
        conv => whnf
        refine ⟨fun z => ?_, fun z => ?_⟩
        · have z : ¬ I 24 i = nI v := z
          rw [m3, nI_eq (by have := hF i hi; omega) (by omega)] at z
          conv => whnf
          exact j2 z
        · have z : I 24 i = nI v := z
          rw [m3, nI_eq (by have := hF i hi; omega) (by omega)] at z
          conv => whnf
          exact j1 z
      refine ⟨fun hP hK => ?_, fun hP hK => ?_⟩
      · exact head (fun _ => hK) (fun q => absurd (Nat.eq_of_beq_eq_true hP) q)
      · refine head (fun q => ?_) (fun _ => ?_)
        · have hP : Nat.beq (F (14 + 4 * i)) v = false := hP
          rw [q, Nat.beq_refl] at hP
          cases hP
        · refine Wf.gc tkX3_faceOver [2] ?_
          conv => whnf
          rw [← nI_1] at hK
          exact hK
set_option maxRecDepth 20000 in
theorem x_toldCanonOf {q v : Nat} (hq : q = 7 ∨ q = 20) (hv : v < 1000) (hF : ∀ f, f < F 5 → F (300 + f) < 1000) (hN : F 5 ≤ 5) (hp : PC q F W I) (h : kr (some (.int (oI (toc F v)))) (mk w p r I L)) : Ev l X uX3_toldCanonOf d true 0 0 [.ref q, .int (nI v)] (mk w p r I L) kr := by
  obtain ⟨⟨a0, a1, a2, a3, a4, a5, a6, a7⟩, b1, b2, b3, b4, b5⟩ := hp
  refine Ev.of (by decide) (Nat.le_of_ble_eq_true rfl) ?_
  rcases hq with rfl | rfl
  · refine Wf.gc tkX3_toldCanonOf [2] ?_
    conv => whnf
    have loop := srch (e := F 5) (P := fun g => Nat.beq (F (300 + g)) v) (Wi := fun i => Wf l X uX3_toldCanonOf d true (mC (mk w p r I L) + 0, mS (mk w p r I L) + 0) 2 [(0, .ref 7), (1, .int (nI v)), (2, .int (nI i))] [] (mk w p r I L) kr) (K := fun o => kr (some (.int (oI o))) (mk w p r I L)) ?_ ?_ 0 (Nat.zero_le _)
    · rw [Nat.sub_zero] at loop
      exact loop h
    · intro hK
      refine Wf.gc tkX3_toldCanonOf [] ?_
      conv => whnf
      refine b1' (by show I 7 10 ≤ nI (F 5); rw [a5]; exact Int32.le_refl _) ?_
      conv => whnf
      exact hK
    · intro i hi
      have m3 : I 13 i = nI (F (300 + i)) := (b3 i hi).1
      have head : (F (300 + i) = v → kr (some (.int (nI i))) (mk w p r I L)) → (¬ F (300 + i) = v → Wf l X uX3_toldCanonOf d true (mC (mk w p r I L) + 0, mS (mk w p r I L) + 0) 22 [(0, .ref 7), (1, .int (nI v)), (2, .int (nI i))] [] (mk w p r I L) kr) → Wf l X uX3_toldCanonOf d true (mC (mk w p r I L) + 0, mS (mk w p r I L) + 0) 2 [(0, .ref 7), (1, .int (nI v)), (2, .int (nI i))] [] (mk w p r I L) kr := by
        intro j1 j2
        refine Wf.gc tkX3_toldCanonOf [22] ?_
        conv => whnf
        refine b2' (by show ¬ I 7 10 ≤ nI i; rw [a5]; exact nI_ge hi (by omega)) ?_
        conv => whnf
        refine ⟨i, ix (N := 5) (by omega) (by decide), ?_⟩
        conv => whnf
        refine ⟨fun z => ?_, fun z => ?_⟩
        · have z : ¬ I 13 i = nI v := z
          rw [m3, nI_eq (by have := hF i hi; omega) (by omega)] at z
          conv => whnf
          exact j2 z
        · have z : I 13 i = nI v := z
          rw [m3, nI_eq (by have := hF i hi; omega) (by omega)] at z
          conv => whnf
          exact j1 z
      refine ⟨fun hP hK => ?_, fun hP hK => ?_⟩
      · exact head (fun _ => hK) (fun q => absurd (Nat.eq_of_beq_eq_true hP) q)
      · refine head (fun q => ?_) (fun _ => ?_)
        · have hP : Nat.beq (F (300 + i)) v = false := hP
          rw [q, Nat.beq_refl] at hP
          cases hP
        · refine Wf.gc tkX3_toldCanonOf [2] ?_
          conv => whnf
          rw [← nI_1] at hK
          exact hK
  · refine Wf.gc tkX3_toldCanonOf [2] ?_
    conv => whnf
    have loop := srch (e := F 5) (P := fun g => Nat.beq (F (300 + g)) v) (Wi := fun i => Wf l X uX3_toldCanonOf d true (mC (mk w p r I L) + 0, mS (mk w p r I L) + 0) 2 [(0, .ref 20), (1, .int (nI v)), (2, .int (nI i))] [] (mk w p r I L) kr) (K := fun o => kr (some (.int (oI o))) (mk w p r I L)) ?_ ?_ 0 (Nat.zero_le _)
    · rw [Nat.sub_zero] at loop
      exact loop h
    · intro hK
      refine Wf.gc tkX3_toldCanonOf [] ?_
      conv => whnf
      refine b1' (by show I 20 10 ≤ nI (F 5); rw [a5]; exact Int32.le_refl _) ?_
      conv => whnf
      exact hK
    · intro i hi
      have m3 : I 26 i = nI (F (300 + i)) := (b3 i hi).1
      have head : (F (300 + i) = v → kr (some (.int (nI i))) (mk w p r I L)) → (¬ F (300 + i) = v → Wf l X uX3_toldCanonOf d true (mC (mk w p r I L) + 0, mS (mk w p r I L) + 0) 22 [(0, .ref 20), (1, .int (nI v)), (2, .int (nI i))] [] (mk w p r I L) kr) → Wf l X uX3_toldCanonOf d true (mC (mk w p r I L) + 0, mS (mk w p r I L) + 0) 2 [(0, .ref 20), (1, .int (nI v)), (2, .int (nI i))] [] (mk w p r I L) kr := by
        intro j1 j2
        refine Wf.gc tkX3_toldCanonOf [22] ?_
        conv => whnf
        refine b2' (by show ¬ I 20 10 ≤ nI i; rw [a5]; exact nI_ge hi (by omega)) ?_
        conv => whnf
        refine ⟨i, ix (N := 5) (by omega) (by decide), ?_⟩
        conv => whnf
        refine ⟨fun z => ?_, fun z => ?_⟩
        · have z : ¬ I 26 i = nI v := z
          rw [m3, nI_eq (by have := hF i hi; omega) (by omega)] at z
          conv => whnf
          exact j2 z
        · have z : I 26 i = nI v := z
          rw [m3, nI_eq (by have := hF i hi; omega) (by omega)] at z
          conv => whnf
          exact j1 z
      refine ⟨fun hP hK => ?_, fun hP hK => ?_⟩
      · exact head (fun _ => hK) (fun q => absurd (Nat.eq_of_beq_eq_true hP) q)
      · refine head (fun q => ?_) (fun _ => ?_)
        · have hP : Nat.beq (F (300 + i)) v = false := hP
          rw [q, Nat.beq_refl] at hP
          cases hP
        · refine Wf.gc tkX3_toldCanonOf [2] ?_
          conv => whnf
          rw [← nI_1] at hK
          exact hK
set_option maxRecDepth 20000 in
theorem x_unsureOf {q v : Nat} (hq : q = 7 ∨ q = 20) (hv : v < 1000) (hF : ∀ f, f < F 7 → F (53 + 2 * f) < 1000) (hN : F 7 ≤ 4) (hp : PC q F W I) (h : kr (some (.int (oI (usd F v)))) (mk w p r I L)) : Ev l X uX3_unsureOf d true 0 0 [.ref q, .int (nI v)] (mk w p r I L) kr := by
  obtain ⟨⟨a0, a1, a2, a3, a4, a5, a6, a7⟩, b1, b2, b3, b4, b5⟩ := hp
  refine Ev.of (by decide) (Nat.le_of_ble_eq_true rfl) ?_
  rcases hq with rfl | rfl
  · refine Wf.gc tkX3_unsureOf [2] ?_
    conv => whnf
    have loop := srch (e := F 7) (P := fun g => Nat.beq (F (53 + 2 * g)) v) (Wi := fun i => Wf l X uX3_unsureOf d true (mC (mk w p r I L) + 0, mS (mk w p r I L) + 0) 2 [(0, .ref 7), (1, .int (nI v)), (2, .int (nI i))] [] (mk w p r I L) kr) (K := fun o => kr (some (.int (oI o))) (mk w p r I L)) ?_ ?_ 0 (Nat.zero_le _)
    · rw [Nat.sub_zero] at loop
      exact loop h
    · intro hK
      refine Wf.gc tkX3_unsureOf [] ?_
      conv => whnf
      refine b1' (by show I 7 17 ≤ nI (F 7); rw [a7]; exact Int32.le_refl _) ?_
      conv => whnf
      exact hK
    · intro i hi
      have m3 : I 18 i = nI (F (53 + 2 * i)) := (b5 i hi).1
      have head : (F (53 + 2 * i) = v → kr (some (.int (nI i))) (mk w p r I L)) → (¬ F (53 + 2 * i) = v → Wf l X uX3_unsureOf d true (mC (mk w p r I L) + 0, mS (mk w p r I L) + 0) 22 [(0, .ref 7), (1, .int (nI v)), (2, .int (nI i))] [] (mk w p r I L) kr) → Wf l X uX3_unsureOf d true (mC (mk w p r I L) + 0, mS (mk w p r I L) + 0) 2 [(0, .ref 7), (1, .int (nI v)), (2, .int (nI i))] [] (mk w p r I L) kr := by
        intro j1 j2
        refine Wf.gc tkX3_unsureOf [22] ?_
        conv => whnf
        refine b2' (by show ¬ I 7 17 ≤ nI i; rw [a7]; exact nI_ge hi (by omega)) ?_
        conv => whnf
        refine ⟨i, ix (N := 4) (by omega) (by decide), ?_⟩
        conv => whnf
        refine ⟨fun z => ?_, fun z => ?_⟩
        · have z : ¬ I 18 i = nI v := z
          rw [m3, nI_eq (by have := hF i hi; omega) (by omega)] at z
          conv => whnf
          exact j2 z
        · have z : I 18 i = nI v := z
          rw [m3, nI_eq (by have := hF i hi; omega) (by omega)] at z
          conv => whnf
          exact j1 z
      refine ⟨fun hP hK => ?_, fun hP hK => ?_⟩
      · exact head (fun _ => hK) (fun q => absurd (Nat.eq_of_beq_eq_true hP) q)
      · refine head (fun q => ?_) (fun _ => ?_)
        · have hP : Nat.beq (F (53 + 2 * i)) v = false := hP
          rw [q, Nat.beq_refl] at hP
          cases hP
        · refine Wf.gc tkX3_unsureOf [2] ?_
          conv => whnf
          rw [← nI_1] at hK
          exact hK
  · refine Wf.gc tkX3_unsureOf [2] ?_
    conv => whnf
    have loop := srch (e := F 7) (P := fun g => Nat.beq (F (53 + 2 * g)) v) (Wi := fun i => Wf l X uX3_unsureOf d true (mC (mk w p r I L) + 0, mS (mk w p r I L) + 0) 2 [(0, .ref 20), (1, .int (nI v)), (2, .int (nI i))] [] (mk w p r I L) kr) (K := fun o => kr (some (.int (oI o))) (mk w p r I L)) ?_ ?_ 0 (Nat.zero_le _)
    · rw [Nat.sub_zero] at loop
      exact loop h
    · intro hK
      refine Wf.gc tkX3_unsureOf [] ?_
      conv => whnf
      refine b1' (by show I 20 17 ≤ nI (F 7); rw [a7]; exact Int32.le_refl _) ?_
      conv => whnf
      exact hK
    · intro i hi
      have m3 : I 31 i = nI (F (53 + 2 * i)) := (b5 i hi).1
      have head : (F (53 + 2 * i) = v → kr (some (.int (nI i))) (mk w p r I L)) → (¬ F (53 + 2 * i) = v → Wf l X uX3_unsureOf d true (mC (mk w p r I L) + 0, mS (mk w p r I L) + 0) 22 [(0, .ref 20), (1, .int (nI v)), (2, .int (nI i))] [] (mk w p r I L) kr) → Wf l X uX3_unsureOf d true (mC (mk w p r I L) + 0, mS (mk w p r I L) + 0) 2 [(0, .ref 20), (1, .int (nI v)), (2, .int (nI i))] [] (mk w p r I L) kr := by
        intro j1 j2
        refine Wf.gc tkX3_unsureOf [22] ?_
        conv => whnf
        refine b2' (by show ¬ I 20 17 ≤ nI i; rw [a7]; exact nI_ge hi (by omega)) ?_
        conv => whnf
        refine ⟨i, ix (N := 4) (by omega) (by decide), ?_⟩
        conv => whnf
        refine ⟨fun z => ?_, fun z => ?_⟩
        · have z : ¬ I 31 i = nI v := z
          rw [m3, nI_eq (by have := hF i hi; omega) (by omega)] at z
          conv => whnf
          exact j2 z
        · have z : I 31 i = nI v := z
          rw [m3, nI_eq (by have := hF i hi; omega) (by omega)] at z
          conv => whnf
          exact j1 z
      refine ⟨fun hP hK => ?_, fun hP hK => ?_⟩
      · exact head (fun _ => hK) (fun q => absurd (Nat.eq_of_beq_eq_true hP) q)
      · refine head (fun q => ?_) (fun _ => ?_)
        · have hP : Nat.beq (F (53 + 2 * i)) v = false := hP
          rw [q, Nat.beq_refl] at hP
          cases hP
        · refine Wf.gc tkX3_unsureOf [2] ?_
          conv => whnf
          rw [← nI_1] at hK
          exact hK
theorem x_cells {q : Nat} (hq : q = 7 ∨ q = 20) (h0 : F 0 ≤ 5) (h1 : F 1 ≤ 4) (hp : PC q F W I) (h : kr (some (.int (nI (F 0 * F 1)))) (mk w p r I L)) : Ev l X uX3_cells d true 0 0 [.ref q] (mk w p r I L) kr := by
  obtain ⟨⟨a0, a1, a2, a3, a4, a5, a6, a7⟩, b1, b2, b3, b4, b5⟩ := hp
  refine Ev.of (by decide) (Nat.le_of_ble_eq_true rfl) ?_
  rw [← nI_mul, ← a0, ← a1] at h
  rcases hq with rfl | rfl
  all_goals
    refine Wf.gc tkX3_cells [] ?_
    conv => whnf
    exact h
theorem x_isWall {q k : Nat} (hq : q = 7 ∨ q = 20) (hp : PC q F W I) (h : kr (some (.int (bI (isWl W k)))) (mk w p r I L)) : Ev l X uX3_isWall d true 0 0 [.ref q, .int (nI k)] (mk w p r I L) kr := by
  obtain ⟨⟨a0, a1, a2, a3, a4, a5, a6, a7⟩, b1, b2, b3, b4, b5⟩ := hp
  refine Ev.of (by decide) (Nat.le_of_ble_eq_true rfl) ?_
  unfold isWl at h
  rw [← a3] at h
  rcases hq with rfl | rfl
  · refine Wf.gc tkX3_isWall [] ?_
    conv => whnf
    refine ⟨fun z => ?_, fun z => ?_⟩
    · have z : (I 7 3 >>> (nI k &&& 31)) &&& 1 = 0 := z
      rw [decide_eq_true z] at h
      conv => whnf
      exact ⟨Or.inl rfl, h⟩
    · have z : ¬ (I 7 3 >>> (nI k &&& 31)) &&& 1 = 0 := z
      rw [decide_eq_false z] at h
      conv => whnf
      exact ⟨Or.inr rfl, h⟩
  · refine Wf.gc tkX3_isWall [] ?_
    conv => whnf
    refine ⟨fun z => ?_, fun z => ?_⟩
    · have z : (I 20 3 >>> (nI k &&& 31)) &&& 1 = 0 := z
      rw [decide_eq_true z] at h
      conv => whnf
      exact ⟨Or.inl rfl, h⟩
    · have z : ¬ (I 20 3 >>> (nI k &&& 31)) &&& 1 = 0 := z
      rw [decide_eq_false z] at h
      conv => whnf
      exact ⟨Or.inr rfl, h⟩
/-- Integer.bitCount as it computes -/
noncomputable def ush (x y : Int32) : Int32 := (x.toUInt32 >>> (y.toUInt32 &&& Int32.toUInt32 31)).toInt32
noncomputable def pc1 (x : Int32) : Int32 := x - (ush x 1 &&& 1431655765)
noncomputable def pc2 (x : Int32) : Int32 := (x &&& 858993459) + (ush x 2 &&& 858993459)
noncomputable def pc3 (x : Int32) : Int32 := (x + ush x 4) &&& 252645135
noncomputable def pc4 (x : Int32) : Int32 := x + ush x 8
noncomputable def pc5 (x : Int32) : Int32 := x + ush x 16
noncomputable def pcI (x : Int32) : Int32 := pc5 (pc4 (pc3 (pc2 (pc1 x)))) &&& 63
set_option maxRecDepth 20000 in
theorem x_bitCount {v : Int32} {M : Mm} (h : kr (some (.int (pcI v))) M) : Ev l X uJ6_bitCount_0f7a4 d true 0 0 [.int v] M kr := by
  refine Ev.ofF (by decide +kernel) (Nat.le_of_ble_eq_true rfl) ?_
  refine Wf.gc tkJ6_bitCount_0f7a4 [] ?_
  conv => whnf
  exact h
theorem x_wallCount {q : Nat} (hq : q = 7 ∨ q = 20) (hp : PC q F W I) (h : kr (some (.int (pcI W))) (mk w p r I L)) : Ev l X uX3_wallCount (d + 1) true 0 0 [.ref q] (mk w p r I L) kr := by
  obtain ⟨⟨a0, a1, a2, a3, a4, a5, a6, a7⟩, b1, b2, b3, b4, b5⟩ := hp
  refine Ev.of (by decide) (Nat.le_of_ble_eq_true rfl) ?_
  rw [← a3] at h
  rcases hq with rfl | rfl
  all_goals
    refine Wf.gc tkX3_wallCount [] ?_
    conv => whnf
    refine x_bitCount ?_
    conv => whnf
    exact h
end PLQ
end
