/-! THE CLAIM OUT OF ONE WALK OF THE LAW'S BODY. Your part is whole_start (and what it stands on); all else here is the same for every law, but numbers. -/
noncomputable def R_law : String := "GargoyleCloseLaw"
noncomputable def lw_P (b : Addr) (xs : List Int32) (args : Array Value) (s : State) : Prop := args = #[.ref b] ∧ s.IntsAt b xs ∧ xs.length ≤ 3072 ∧ (Jvm.Cond.and given_1 narrow_1).before args s = true
noncomputable def lw_Q (_ : Array Value) (s : State) (o : Outcome) (t : State) : Prop := o = .returned (some (.int 1)) ∧ Framed s o t [] 601024 7293034
noncomputable def lw_Z (below : List Frame) (a : Array Value) (s : State) : State → Prop := fun t => ∃ o, t.status = .running ∧ Ended t below o ∧ lw_Q a s o t
/-- the law's own end, with 1 on the stack, nothing written that was there before, its room as the claim has it -/
theorem lw_ret {p : Program} {l : Launch} {e : Env} {s : State} {m : MethodId} {below : List Frame} {meth : Method} {c : Code} {b : Nat} (hx : p.tables.exec = Jvm.exec) (hb : c.code = code) (hr : meth.sig.returnType = ret) (hlocks : meth.locks = false) {pc : Nat} {H : Heap} {ls : Array Slot} (hdg : decode code pc = .ok (.ireturn, 1)) : W p l e room_1 s m #[Value.ref b] below meth c H [] 601024 7293034 (lw_Z below #[Value.ref b] s) (F0 m pc ls [.int 1]) := by
  intro T hT X
  obtain ⟨fs, hret, hrun, hended, hW, hframe⟩ := X.leave (v := some (.int 1)) (hlocks := hlocks) (fun h => by rw [hr] at h; cases h)
  have hmeth' : T.vm.method? m = some meth := X.method'
  refine ⟨T.setFrames fs, ?_, .returned (some (.int 1)), hrun, hended, rfl, ⟨_, rfl⟩, hW, hframe⟩
  jvm_step X.here [X.here.top, hx, hb, hdg, hmeth', hr, ret, narrow_b1]
  (try refine ⟨rfl, ?_⟩); (try refine ⟨rfl, ?_⟩)
  first | (intro acts; rw [hret _ acts rfl rfl rfl]) | rw [hret _ _ rfl rfl rfl]
  exact Steps.refl _
/-- what holds at the law's entry: the machine, the code, the tables' words (any of lw_tbl by 'hts w (by decide +kernel)'), the script of L ints xs at the cell b, what the Statement gives of the start (any of its parts by flat_of_before) -/
noncomputable def lw_At (p : Program) (s : State) (m : MethodId) (meth : Method) (c : Code) (b L : Nat) (xs : Nat → Int32) : Prop :=
  p.tables.exec = Jvm.exec ∧ c.code = code ∧ meth.sig.returnType = ret ∧ c.maxLocals = 7 ∧ s.vm.findClass R_law = some m.cls ∧ (∀ w ∈ lw_tbl, w.before #[Value.ref b] s = true) ∧ va_X b L xs s s.heap ∧ b < s.heap.size ∧ meth.locks = false ∧ (Jvm.Cond.and given_1 narrow_1).before #[Value.ref b] s = true ∧ meth.name = "law"
/-! the start: the Strings, the classes, the statics as the premises and the tables say -/
theorem tbl_all {ws : List Cond} (ps : List Nat) (hp : ws = ps.filterMap (fun i => lw_tbl[i]?)) : ∀ w ∈ ws, w ∈ lw_tbl := by
  intro w hw
  rw [hp] at hw
  obtain ⟨i, -, hi⟩ := List.mem_filterMap.mp hw
  exact List.mem_of_getElem? hi
noncomputable def gvn : List Cond := flatC (Jvm.Cond.and given_1 narrow_1)
noncomputable def tq (i : Nat) : String × Nat × String × Nat := tQ.getD i (RX4, 0, "", 0)
noncomputable def strM (i : Nat) : Term := .string (tq i).1 (tq i).2.1
noncomputable def strV (i : Nat) : Term := .field (strM i) "java/lang/String" "value" "[B"
noncomputable def strA (i : Nat) : List Cond := [Cond.exactly (strM i) "java/lang/String", Cond.eq (.field (strM i) "java/lang/String" "coder" "B") (.int 0), Cond.arrayOf (strV i) .byte, Cond.eq (.length (strV i)) (.int (Int32.ofNat (tB i).length))]
noncomputable def strE (i : Nat) : List Cond := (List.range (tB i).length).map (fun j => Cond.eq (.elem (strV i) (.int (Int32.ofNat j))) (.int ((tB i).getD j 0)))
noncomputable def strC (i : Nat) : List Cond := strA i ++ strE i
noncomputable def psS : List (List Nat) := [[19, 20, 21, 22, 23, 24, 25, 26, 27], [28, 29, 30, 31, 32, 33, 34, 35], [36, 37, 38, 39, 40, 41, 42, 43], [44, 45, 46, 47, 48, 49, 50, 51, 52], [53, 54, 55, 56, 57, 58, 59, 60, 61, 62], [63, 64, 65, 66, 67, 68, 69, 70, 71, 72], [73, 74, 75, 76, 77, 78, 79, 80, 81, 82, 83], [84, 85, 86, 87, 88, 89, 90, 91], [92, 93, 94, 95, 96, 97, 98, 99], [100, 101, 102, 103, 104, 105, 106, 107], [130, 131, 132, 133, 134, 135, 136, 137, 138], [139, 140, 141, 142, 143, 144, 145, 146, 147], [148, 149, 150, 151, 152, 153], [108, 109, 110, 111, 112, 113, 114], [115, 116, 117, 118, 119, 120, 121, 122], [123, 124, 125, 126, 127, 128, 129], [154, 155, 156, 157, 158, 159, 160, 161, 162], [163, 164, 165, 166, 167, 168, 169, 170, 171], [172, 173, 174, 175, 176, 177, 178, 179], [180, 181, 182, 183, 184, 185], [186, 187, 188, 189, 190, 191, 192], [193, 194, 195, 196, 197, 198, 199, 200, 201], [230, 231, 232, 233, 234, 235, 236, 237], [239, 240, 241, 242, 243, 244, 245, 246], [248, 249, 250, 251, 252, 253, 254, 255, 256], [258, 259, 260, 261, 262, 263, 264, 265, 266, 267], [269, 270, 271, 272, 273, 274, 275, 276, 277, 278], [280, 281, 282, 283, 284, 285, 286, 287, 288, 289, 290], [203, 204, 205, 206, 207, 208, 209, 210], [212, 213, 214, 215, 216, 217, 218, 219], [221, 222, 223, 224, 225, 226, 227, 228], [317, 318, 319, 320, 321, 322, 323, 324, 325], [327, 328, 329, 330, 331, 332, 333, 334, 335], [337, 338, 339, 340, 341, 342], [292, 293, 294, 295, 296, 297, 298], [300, 301, 302, 303, 304, 305, 306, 307], [309, 310, 311, 312, 313, 314, 315], [344, 345, 346, 347, 348, 349, 350, 351, 352], [354, 355, 356, 357, 358, 359, 360, 361, 362], [364, 365, 366, 367, 368, 369, 370, 371], [373, 374, 375, 376, 377, 378], [380, 381, 382, 383, 384, 385, 386]]
set_option maxRecDepth 100000 in
theorem strC_eq : (List.range 42).map strC = psS.map (fun ps => ps.filterMap (fun j => gvn[j]?)) := by decide +kernel
set_option maxRecDepth 100000 in
theorem tB_len : ∀ i ∈ List.range 42, (tB i).length < 2 ^ 31 := by decide +kernel
set_option maxRecDepth 100000 in
theorem tQ_at : ∀ x ∈ tQ, x.2.2.2 < 42 ∧ tq x.2.2.2 = x := by decide +kernel
set_option maxRecDepth 100000 in
theorem tQ_ref : ∀ w ∈ tQ.map (fun x => Cond.stringRef x.1 x.2.1 x.2.2.1), w ∈ lw_tbl := tbl_all [532, 585, 586, 587, 588, 589, 590, 599, 611, 612, 654, 655, 656, 651, 652, 653, 673, 674, 679, 680, 693, 1416, 1458, 1474, 1487, 1488, 1489, 1490, 1431, 1456, 1457, 1498, 1499, 1500, 1495, 1496, 1497, 1509, 1510, 1515, 1520, 1529] (by decide +kernel)
set_option maxRecDepth 100000 in
theorem wN_in : ∀ w ∈ wN.map (fun x => Cond.methodLinkNest x.1 x.2.1 x.2.2 RX6), w ∈ lw_tbl := tbl_all [156, 214, 324, 356, 391, 405, 608] (by decide +kernel)
set_option maxRecDepth 100000 in
theorem wD_in : ∀ w ∈ wD.map (fun x => Cond.declares x), w ∈ lw_tbl := tbl_all [1182, 1184, 1186] (by decide +kernel)
theorem strC_in {i : Nat} (hi : i < 42) : ∀ w ∈ strC i, w ∈ gvn := by
  have h := congrArg (fun L => L[i]?) strC_eq
  simp only [List.getElem?_map, List.getElem?_range hi, Option.map_some] at h
  cases hp : psS[i]? with
  | none => rw [hp] at h; cases h
  | some ps =>
    rw [hp] at h
    have h2 : strC i = ps.filterMap (fun j => gvn[j]?) := Option.some.inj h
    intro w hw
    rw [h2] at hw
    obtain ⟨j, -, hj⟩ := List.mem_filterMap.mp hw
    exact List.mem_of_getElem? hj
theorem str_at {args : Array Value} {s : State} {A : Nat → Prop} (hs : ∀ c ∈ gvn, c.before args s = true) (hA : ∀ a : Nat, a < s.heap.size → ¬ A a) {i : Nat} (hi : i < 42) : ∃ q : Nat × Nat, (strM i).eval args s none [] s = some (.ref q.1) ∧ va_O "java/lang/String" q.1 A s s.heap ∧ va_OF "java/lang/String" "coder" "B" (.int 0) q.1 A s s.heap ∧ va_OF "java/lang/String" "value" "[B" (.ref q.2) q.1 A s s.heap ∧ va_T .byte q.2 (tB i).length (fun j => .int ((tB i).getD j 0)) A s s.heap := by
  have hm : ∀ w ∈ strC i, w.before args s = true := fun w hw => hs w (strC_in hi w hw)
  have h1 : (Cond.exactly (strM i) "java/lang/String").before args s = true := hm _ (List.mem_append_left _ (List.mem_of_getElem? (i := 0) rfl))
  have h2 : (Cond.eq (.field (strM i) "java/lang/String" "coder" "B") (.int 0)).before args s = true := hm _ (List.mem_append_left _ (List.mem_of_getElem? (i := 1) rfl))
  have h3 : (Cond.arrayOf (strV i) .byte).before args s = true := hm _ (List.mem_append_left _ (List.mem_of_getElem? (i := 2) rfl))
  have h4 : (Cond.eq (.length (strV i)) (.int (Int32.ofNat (tB i).length))).before args s = true := hm _ (List.mem_append_left _ (List.mem_of_getElem? (i := 3) rfl))
  have h5 : ∀ j : Nat, j < (tB i).length → (Cond.eq (.elem (strV i) (.int (Int32.ofNat j))) (.int ((tB i).getD j 0))).before args s = true := fun j hj => hm _ (List.mem_append_right _ (List.mem_map.mpr ⟨j, List.mem_range.mpr hj, rfl⟩))
  have hz : ∀ j : Nat, j < 1 → j = 0 := fun j hj => by omega
  obtain ⟨adK, adV, h, hev⟩ := vk_Sof (args := args) (s := s) (N := 1) (tm := fun _ => strM i) (len := [(tB i).length]) (byt := [tB i]) (A := A) (fun j hj => by rw [hz j hj]; exact tB_len i (List.mem_range.mpr hi)) (fun _ _ => h1) (fun _ _ => h2) (fun _ _ => h3) (fun j hj => by rw [hz j hj]; exact h4) (fun j hj k hk => by rw [hz j hj] at hk ⊢; exact h5 k hk) (fun j k hj hk hne => absurd ((hz j hj).trans (hz k hk).symm) hne) hA
  exact ⟨(adK 0, adV 0), hev 0 (by omega), h.1 0 (by omega)⟩
theorem arr2_spec {args : Array Value} {s : State} (h : (Cond.arrayOver (.array .int)).before args s = true) : ∃ (comp c : ClassId) (k : Class), s.vm.findClass (FieldType.array .int).toString = some comp ∧ s.vm.classes[c]? = some k ∧ k.kind = .array comp (.array .int) ∧ s.vm.findClass ("[" ++ (FieldType.array .int).toString) = some c := by
  simp only [Cond.before, Cond.holds, Cond.value, beq_iff_eq] at h
  cases hc : s.vm.findClass (FieldType.array .int).toString with
  | none => simp [hc] at h
  | some comp =>
    simp only [hc, Option.bind_some, Option.bind_eq_some_iff, Option.map_eq_some_iff] at h
    obtain ⟨c, hi, k, hk, hb⟩ := h
    obtain ⟨hlt, hp, -⟩ := Array.findIdx?_eq_some_iff_getElem.mp hi
    have hkk : s.vm.classes[c] = k := (Array.getElem?_eq_some_iff.mp hk).2
    rw [hkk] at hp
    cases hkind : k.kind with
    | array component ty =>
      rw [hkind] at hb hp
      simp at hb hp
      exact ⟨comp, c, k, rfl, hk, by rw [hkind, hp, hb.1], hb.2⟩
    | _ => rw [hkind] at hb; simp at hb
set_option maxRecDepth 100000 in
theorem sx_start {s : State} {b L : Nat} {xs : Nat → Int32} (hts : ∀ w ∈ lw_tbl, w.before #[Value.ref b] s = true) (hs : ∀ c ∈ gvn, c.before #[Value.ref b] s = true) (hX : va_X b L xs s s.heap) (hbl : b < s.heap.size) : ∃ (D : va_G) (g : Nat → ClassId) (ad : Nat → Nat), ad 4999 = b ∧ sx D g ad (L, xs) (fun q => s.heap.size ≤ q) s s.heap := by
  have hw : ∀ w ∈ wB, w.before #[Value.ref b] s = true := fun w h => hts w (List.mem_filter.mp h).1
  have hA : ∀ a : Nat, a < s.heap.size → ¬ (s.heap.size ≤ a) := fun a h => Nat.not_le_of_lt h
  obtain ⟨c0, i0, k0⟩ := u_known hw inB0 (hw _ nwi_0)
  obtain ⟨c1, i1, k1⟩ := u_known hw inB1 (hw _ nwi_1)
  obtain ⟨c2, i2, k2⟩ := u_known hw inB2 (hw _ nwi_2)
  obtain ⟨c3, i3, k3⟩ := u_known hw inB3 (hw _ nwi_3)
  obtain ⟨c4, i4, k4⟩ := u_known hw inB4 (hw _ nwi_4)
  obtain ⟨c5, i5, k5⟩ := u_known hw inB5 (hw _ nwi_5)
  obtain ⟨c6, i6, k6⟩ := u_known hw inB6 (hw _ nwi_6)
  obtain ⟨c7, i7, k7⟩ := u_known hw inB7 (hw _ nwi_7)
  obtain ⟨g8, m8, p8, f8, e8, n8⟩ := Cond.arrayClass_spec (type := .byte) (hw _ ar_byte)
  obtain ⟨g9, m9, p9, f9, e9, n9⟩ := Cond.arrayClass_spec (type := .int) (hw _ ar_int)
  obtain ⟨gA, mA, pA, fA, eA, nA⟩ := Cond.arrayClass_spec (type := .long) (hw _ ar_long)
  have haO : (Cond.arrayOver (.object RX2)).before #[Value.ref b] s = true := hts (.arrayOver (.object RX2)) (List.mem_of_getElem? (i := 353) (by decide +kernel))
  obtain ⟨pB, gB, mB, fB, -, eB, nB, qB⟩ := Cond.arrayOver_spec haO
  have haP : (Cond.arrayOver (.array .int)).before #[Value.ref b] s = true := hts (.arrayOver (.array .int)) (List.mem_of_getElem? (i := 410) (by decide +kernel))
  obtain ⟨pC, gC, mC0, fC, eC, nC, qC⟩ := arr2_spec haP
  have hpC : pC = g9 := Option.some.inj (fC.symm.trans f9)
  have h0 : ∀ i : Nat, ∃ q : Nat × Nat, i < 42 → (strM i).eval #[Value.ref b] s none [] s = some (.ref q.1) ∧ va_O "java/lang/String" q.1 (fun q => s.heap.size ≤ q) s s.heap ∧ va_OF "java/lang/String" "coder" "B" (.int 0) q.1 (fun q => s.heap.size ≤ q) s s.heap ∧ va_OF "java/lang/String" "value" "[B" (.ref q.2) q.1 (fun q => s.heap.size ≤ q) s s.heap ∧ va_T .byte q.2 (tB i).length (fun j => .int ((tB i).getD j 0)) (fun q => s.heap.size ≤ q) s s.heap := by
    intro i
    by_cases hi : i < 42
    · obtain ⟨q, hq⟩ := str_at hs hA hi
      exact ⟨q, fun _ => hq⟩
    · exact ⟨(0, 0), fun h => absurd h hi⟩
  obtain ⟨ad1, had⟩ := Classical.axiomOfChoice h0
  have ad2 : ∃ ad : Nat → Nat, ad 4999 = b ∧ (∀ i : Nat, i < 42 → ad (5000 + i) = (ad1 i).1) ∧ ∀ i : Nat, i < 42 → ad (5100 + i) = (ad1 i).2 := by
    refine ⟨fun n => if n = 4999 then b else if n < 5100 then (ad1 (n - 5000)).1 else (ad1 (n - 5100)).2, if_pos rfl, fun i hi => ?_, fun i hi => ?_⟩
    · show (if 5000 + i = 4999 then b else if 5000 + i < 5100 then (ad1 (5000 + i - 5000)).1 else (ad1 (5000 + i - 5100)).2) = _
      rw [if_neg (by omega), if_pos (by omega), Nat.add_sub_cancel_left]
    · show (if 5100 + i = 4999 then b else if 5100 + i < 5100 then (ad1 (5100 + i - 5000)).1 else (ad1 (5100 + i - 5100)).2) = _
      rw [if_neg (by omega), if_neg (by omega), Nat.add_sub_cancel_left]
  obtain ⟨ad, hb0, had1, had2⟩ := ad2
  refine ⟨(fun c => [c0, c1, c2, c3, c4, c5, c6, c7].getD c c0, fun c => [i0, i1, i2, i3, i4, i5, i6, i7].getD c i0), fun n => [g8, g9, gA, gB, gC].getD (n - 8) g8, ad, hb0, ⟨?_, ?_⟩, ?_, ⟨va_AO.of haO, ?_, ⟨?_, ?_⟩, ?_, ?_⟩, ?_, ?_, ?_, ?_⟩
  · intro c q hq
    have hc : c < 8 := (List.getElem?_eq_some_iff.mp hq).1
    rcases (show c = 0 ∨ c = 1 ∨ c = 2 ∨ c = 3 ∨ c = 4 ∨ c = 5 ∨ c = 6 ∨ c = 7 by omega) with rfl | rfl | rfl | rfl | rfl | rfl | rfl | rfl
    · cases (Option.some.inj (show some ((RX0, TX0, 8) : vw_C) = some q from hq)); exact k0
    · cases (Option.some.inj (show some ((RX1, TX1, 9) : vw_C) = some q from hq)); exact k1
    · cases (Option.some.inj (show some ((RX2, TX2, 6) : vw_C) = some q from hq)); exact k2
    · cases (Option.some.inj (show some ((RX3, TX3, 20) : vw_C) = some q from hq)); exact k3
    · cases (Option.some.inj (show some ((RX4, TX4, 15) : vw_C) = some q from hq)); exact k4
    · cases (Option.some.inj (show some ((RX5, TX5, 2) : vw_C) = some q from hq)); exact k5
    · cases (Option.some.inj (show some ((RX6, TX6, 14) : vw_C) = some q from hq)); exact k6
    · cases (Option.some.inj (show some ((RX7, TX7, 44) : vw_C) = some q from hq)); exact k7
  · intro k q hq
    have hc : k < 5 := (List.getElem?_eq_some_iff.mp hq).1
    rcases (show k = 0 ∨ k = 1 ∨ k = 2 ∨ k = 3 ∨ k = 4 by omega) with rfl | rfl | rfl | rfl | rfl
    · cases (Option.some.inj (show some ((g8, .byte) : ClassId × FieldType) = some q from hq)); exact ⟨fun n z => ⟨(fun k h => by cases h), m8, e8, p8, n8⟩, f8⟩
    · cases (Option.some.inj (show some ((g9, .int) : ClassId × FieldType) = some q from hq)); exact ⟨fun n z => ⟨(fun k h => by cases h), m9, e9, p9, n9⟩, f9⟩
    · cases (Option.some.inj (show some ((gA, .long) : ClassId × FieldType) = some q from hq)); exact ⟨fun n z => ⟨(fun k h => by cases h), mA, eA, pA, nA⟩, fA⟩
    · cases (Option.some.inj (show some ((gB, .object RX2) : ClassId × FieldType) = some q from hq)); exact ⟨fun n z => ⟨(fun k h => by cases h), mB, eB, pB, nB⟩, ⟨mB, pB, eB, nB, fB, qB⟩⟩
    · cases (Option.some.inj (show some ((gC, .array .int) : ClassId × FieldType) = some q from hq)); exact ⟨fun n z => ⟨(fun k h => by cases h), mC0, eC, pC, nC⟩, qC⟩
  · intro x hx
    exact va_Nw.of rfl (hts _ (wN_in _ (List.mem_map.mpr ⟨x, hx, rfl⟩)))
  · exact ⟨mC0, eC, by rw [nC, hpC]; rfl⟩
  · exact sq.of (hts (.laysStatic "java/lang/Throwable" "UNASSIGNED_STACK" "[Ljava/lang/StackTraceElement;") (List.mem_of_getElem? (i := 1206) (by decide +kernel))) (hs (.isRef (.static "java/lang/Throwable" "UNASSIGNED_STACK" "[Ljava/lang/StackTraceElement;")) (List.mem_of_getElem? (i := 9) (by decide +kernel))) hA
  · exact sq.of (hts (.laysStatic "java/lang/Throwable" "SUPPRESSED_SENTINEL" "Ljava/util/List;") (List.mem_of_getElem? (i := 1208) (by decide +kernel))) (hs (.isRef (.static "java/lang/Throwable" "SUPPRESSED_SENTINEL" "Ljava/util/List;")) (List.mem_of_getElem? (i := 10) (by decide +kernel))) hA
  · exact va_Nw.of rfl (hts (.castable NSE NSE) (List.mem_of_getElem? (i := 1181) (by decide +kernel)))
  · intro x hx
    exact va_Nw.of rfl (hts _ (wD_in _ (List.mem_map.mpr ⟨x, hx, rfl⟩)))
  · intro i hi
    rw [had1 i hi, had2 i hi]
    exact (had i hi).2
  · intro x hx
    obtain ⟨h42, hxe⟩ := tQ_at x hx
    rw [had1 _ h42]
    have hev := (had _ h42).1
    unfold strM at hev
    rw [hxe] at hev
    exact vk_R.of (hts _ (tQ_ref _ (List.mem_map.mpr ⟨x, hx, rfl⟩))) hev
  · exact ⟨va_Zof (hts (.laysStatic "java/lang/String" "COMPACT_STRINGS" "Z") (List.mem_of_getElem? (i := 546) (by decide +kernel))) (hts (.initialized "java/lang/String") (List.mem_of_getElem? (i := 136) (by decide +kernel))) (va_eqi (hs (.eq (.static "java/lang/String" "COMPACT_STRINGS" "Z") (.int 1)) (List.mem_of_getElem? (i := 4) (by decide +kernel)))) hA, va_Zqof (hts (.laysStatic "jdk/internal/util/Preconditions" "SIOOBE_FORMATTER" "Ljava/util/function/BiFunction;") (List.mem_of_getElem? (i := 562) (by decide +kernel))) (hts (.initialized "jdk/internal/util/Preconditions") (List.mem_of_getElem? (i := 138) (by decide +kernel))) (hs (.isRef (.static "jdk/internal/util/Preconditions" "SIOOBE_FORMATTER" "Ljava/util/function/BiFunction;")) (List.mem_of_getElem? (i := 5) (by decide +kernel))) hA⟩
  · refine ⟨?_, ?_, ?_⟩
    · rw [hb0]; exact hX
    · rw [hb0]; exact hbl
    · rw [hb0]; exact hA b hbl
theorem whole_start {p : Program} {e : Env} {s : State} {m : MethodId} {below : List Frame} {meth : Method} {c : Code} (l : Launch) (hflags : l.flags = flags0) {b L : Nat} {xs : Nat → Int32} (hL : L ≤ 3072) (C0 : lw_At p s m meth c b L xs) : W p l e room_1 s m #[Value.ref b] below meth c s.heap [] 0 0 (lw_Z below #[Value.ref b] s) (entryFrame m ([Value.ref b] : List Value).toArray 7) := by
  obtain ⟨hx, hb, hr, hml, hown, hts, hX, hbl, hlocks, hgv, hname⟩ := C0
  have hs : ∀ w ∈ gvn, w.before #[Value.ref b] s = true := flat_of_before _ hgv
  have hw : ∀ w ∈ wB, w.before #[Value.ref b] s = true := fun w h => hts w (List.mem_filter.mp h).1
  obtain ⟨D, g, ad, had, hsx⟩ := sx_start hts hs hX hbl
  have hl0 : l.stackTraces = false := by
    unfold Launch.stackTraces
    rw [hflags]
    decide +kernel
  have hl := lv_entry ([Value.ref b]) (n := 7) (Nat.le_of_ble_eq_true rfl)
  rw [lg_entry_eq]
  generalize (lg_sl ([Value.ref b]) ++ List.replicate (7 - (lg_sl ([Value.ref b])).length) Slot.unset).toArray = la at hl ⊢
  have hl2 : lv_has la 7 (lm ad [(0, .ref 4999)]) := by
    rw [show lm ad [(0, .ref 4999)] = [(0, .ref b)] from by show [(0, iv ad (.ref 4999))] = _; rw [iv_ref (by decide), had]]
    exact hl
  have hfx : fx (L, xs) uL p s m #[Value.ref b] meth c D g ad (fun q => s.heap.size ≤ q) := ⟨hx, hb, hml, hr, hlocks, hown, hname, hw, fun _ h => h, hsx⟩
  have hwl : wl g ad (mkD [] 0 I00) = [] := rfl
  have hrl : rl D g (fun q => s.heap.size ≤ q) false 0 ad (mkD [] 0 I00).1 s ad (mkD [] 0 I00) s.heap [] := by
    refine ⟨?_, ?_, va_S.rf, ?_, Nat.zero_le _, Nat.zero_le _, fun _ _ => rfl, fun h => by cases h⟩
    · rw [hwl]; intro k q h; cases h
    · rw [hwl]; exact ⟨fun i j x y h => (by cases h), fun k q h => (by cases h)⟩
    · intro a i
      cases a <;> exact Nat.zero_le _
  have hW := GargWhole hl0 (xs := xs) (kr := fun r _ => r = some (.int 1)) hL (fun _ => rfl) p e room_1 s m #[Value.ref b] below meth c (lw_Z below #[Value.ref b] s) D g ad (fun q => s.heap.size ≤ q) 0 (mkD [] 0 I00).1 0 0 ad s.heap [] la hfx (Nat.le_of_ble_eq_true rfl) (Nat.le_of_ble_eq_true rfl) (Nat.le_of_ble_eq_true rfl) (Nat.le_of_ble_eq_true rfl) (Nat.zero_le _) (Nat.zero_le _) (Nat.zero_le _) (Nat.zero_le _) hrl hl2 ?_
  · exact hW
  · intro pc' r M' ad' H' locs' la' hkr hr1 h1 h2 h3 h4 ht
    subst hkr
    have w3 : mC M' ≤ 1000 := h3
    have w4 : mS M' ≤ 10000 := h4
    rcases ht with ⟨v, ty, e0, e1, e2, e3⟩ | ⟨v, e0, -⟩ | ⟨e0, -⟩
    · refine W.widen (k := 601024) (n := 7293034) (by omega) (by omega) ?_
      refine va_forget (fun q hq => hr1.2.2.1.2.2 q hq) ?_
      exact lw_ret hx hb hr hlocks e3
    · cases e0
    · cases e0
set_option maxHeartbeats 4000000 in
theorem lw_walk (l : Launch) (hflags : l.flags = flags0) (b : Addr) (xs : List Int32) : MetFree l x (headSpec (Jvm.Cond.code x code maxLocals ret :: tables_1) room_1) (lw_P b xs) (fun _ _ _ _ _ => True) lw_Q := by
  refine MetFree.of_bodyS (code := code) (maxLocals := maxLocals) (ret := ret) (by decide) ?_ ?_
  · intro args s m h hn
    obtain ⟨meth, c, h1, h2, h3, h4, h5, h6, -, -⟩ := Cond.code_spec hn (atoms_spec (ws := Jvm.Cond.code x code maxLocals ret :: tables_1) h _ List.mem_cons_self)
    exact ⟨meth, c, h1, h2, h3, h4, h5, h6⟩
  · intro p e s m args below meth c s₁ B hml0 hP _
    obtain ⟨rfl, hx, hbd, hgv⟩ := hP
    obtain ⟨scr, harrAt, hlist, hof, hsmall⟩ := hx
    obtain ⟨hcb, hkn, -, -⟩ := State.arrayAt?_spec harrAt
    have hown : s.vm.findClass R_law = some m.cls := findClass_of_methodNamed B.named
    have hts0 : ∀ c ∈ (Jvm.Cond.code x code maxLocals ret :: tables_1), c.before #[Value.ref b] s = true := atoms_spec (ws := Jvm.Cond.code x code maxLocals ret :: tables_1) B.pre
    have hts : ∀ w ∈ lw_tbl, w.before #[Value.ref b] s = true := k2_hts_sels lw_privs (fun w hw => hts0 w (List.mem_cons_of_mem _ hw)) lw_privs_ok
    have hml : c.maxLocals = 7 := B.maxLocals_eq (hts0 _ List.mem_cons_self)
    have X₀ : Stand p l e room_1 s m #[Value.ref b] below meth c s₁ [] 0 0 := Stand.of_body B
    have hh0 : s₁.heap = s.heap := by rw [B.state]; rfl
    have hsz : scr.slots.size = xs.length := by rw [← Array.length_toList, hlist, List.length_map]
    have hval : ∀ j : Nat, j < xs.length → scr.slots[j]? = some (.int (xs.getD j 0)) := fun j hj => by
      rw [← Array.getElem?_toList, hlist]
      simp [hj]
    have hbl : b < s.heap.size := (Array.getElem?_eq_some_iff.mp hcb).1
    have hX : va_X b xs.length (fun j => xs.getD j 0) s s.heap := ⟨scr, hcb, hof, hkn, hsz, hval⟩
    have K : W p l e room_1 s m #[Value.ref b] below meth c s₁.heap [] 0 0 (lw_Z below #[Value.ref b] s) (entryFrame m ([Value.ref b] : List Value).toArray 7) := by
      rw [hh0]
      exact whole_start l hflags hbd ⟨B.exec, B.bytes, B.returns, hml, hown, hts, hX, hbl, B.notSynchronized, hgv, (name_of_methodNamed B.named B.method).1⟩
    obtain ⟨t, a1, o, b1, b2, b3⟩ := K s₁ rfl X₀
    exact ⟨t, o, a1, b1, b2, b3⟩
theorem lw_pre_spec {args : Array Value} {s : State} (h : (Jvm.Cond.and given_1 narrow_1).before args s = true) (hr : rest_1_c.before args s = true) : ∃ (b : Addr) (xs : List Int32), lw_P b xs args s := by
  have hs := flat_of_before _ h
  have hq := flat_of_before _ hr
  have hc : (Cond.count 1).before args s = true := hs _ (by decide +kernel)
  have harr : (Cond.arrayOf (.arg 0) .int).before args s = true := hs _ (by decide +kernel)
  have hle : (Cond.le (.length (.arg 0)) (.int 3072)).before args s = true := hs _ (by decide +kernel)
  have hlen : (Cond.isInt (.length (.arg 0))).before args s = true := hq _ (by decide +kernel)
  have hall : (Cond.all (.arg 0) (.isInt (.elem (.arg 0) (.index 0)))).before args s = true := hq _ (by decide +kernel)
  obtain ⟨b, xs, hb, hx⟩ := State.ints_of_pre rfl harr hlen hall
  have hsm : xs.length < 2 ^ 31 := hx.choose_spec.2.2.2
  have hev : (Term.length (.arg 0)).eval args s none [] s = some (.int xs.length.toInt32) := hx.length_eval hb
  have hv := Cond.le_ints hev (show (Term.int 3072).eval args s none [] s = some (.int 3072) from rfl)
  have hd : xs.length.toInt32 ≤ 3072 := by
    simpa [Cond.before, Cond.holds, hv] using hle
  have hN : xs.length ≤ 3072 := (Int32.ofNat_le_ofNat hsm (by decide)).mp (show Int32.ofNat xs.length ≤ Int32.ofNat 3072 from hd)
  exact ⟨b, xs, Cond.one_arg hc (show args[0]? = some (.ref b) from hb), hx, hN, h⟩
theorem lw_comes (l : Launch) (hflags : l.flags = flags0) : Comes l x (Jvm.Cond.code x code maxLocals ret :: tables_1) room_1 (fun tb e args s => Calls_1 tb e args s ∧ rest_1 tb e args s ∧ Pre_1 tb e args s)
    (fun _ _ args s o t => lw_Q args s o t) := by
  intro p e ha hc hk s m args below hf hfit hheap happ hpre
  obtain ⟨b, xs, hP⟩ := lw_pre_spec hpre.2.2 hpre.2.1
  obtain ⟨k, o, h1, h2, h3, hQ⟩ := lw_walk l hflags b xs p e ha hc hk s m args below hf ((Spec.applies_iff_loose hf).mp happ).1 hP trivial
  exact ⟨k, o, h1, h2, h3, hQ⟩
theorem lw_frame {s t : State} {o : Outcome} {args : Array Value} (h : Framed s o t [] 601024 7293034) :
    Framed s o t (fieldLocs frame_1_writes args s ++ arrayLocs frame_1_arrays args s ++ staticLocs frame_1_statics s) 601024 7293034 := h
theorem lw_limb (L : Cond) (hL : ∀ (args : Array Value) (s t : State), L.after args s (.returned (some (.int 1))) t = true) :
    ArmFor flags0 classFile x code maxLocals ret World_1 tables_1 room_1 Calls_1 rest_1 Pre_1
      (fun tb e a s o t => postC L tb e a s o t ∧ Framed s o t (fieldLocs frame_1_writes a s ++ arrayLocs frame_1_arrays a s ++ staticLocs frame_1_statics s) 601024 7293034) := by
  intro l hflags _ _ p e ha hc hk s m args below hf hfit hheap happ hpre
  obtain ⟨k, o, h1, h2, h3, rfl, hF⟩ := lw_comes l hflags p e ha hc hk s m args below hf hfit hheap happ hpre
  exact ⟨k, _, h1, h2, h3, hL args s _, lw_frame hF⟩
theorem i_vc : Claimed_1_1 ∧ Claimed_1_2 := ⟨lw_limb limb_1_1 (fun args s t => by simp [limb_1_1, Cond.after, Cond.holds, Cond.value]), lw_limb limb_1_2 (fun args s t => Cond.after_iff.mpr (by
  first | (rw [show limb_1_2 = Cond.eq .result (.int 1) from rfl, Cond.eq_ints (x := 1) (y := 1) rfl rfl]; simp; done) | (simp [limb_1_2, Cond.value, Term.eval]; done)))⟩
