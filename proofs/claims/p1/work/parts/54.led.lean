section LED
variable {l : Launch} {X : Nat × (Nat → Int32)} {d : Nat} {w : Nat × Nat} {L : Nat → Nat → Int64} {i0 : Int32}
/-- it threw: a new NoSuchElementException; all else is as it was -/
def qT : Array Value → State → Outcome → State → Prop := fun _ st o t => ∃ (x : Addr) (ce : Cell), o = .threw x ∧ st.WarmedH t.vm ∧ st.sameButNew ({ t with vm := st.vm } : State) [] 1 6 ∧ t.heap[x]? = some ce ∧ st.heap.size ≤ x ∧ st.vm.findClass NSE = some ce.cls ∧ ce.vm = .none
set_option maxHeartbeats 4000000 in
set_option maxRecDepth 20000 in
theorem led6 (hl0 : l.stackTraces = false) (D : va_G) (g : Nat → ClassId) (ad : Nat → Nat) (A : Nat → Prop) : MetFree l uX6_led.1 (headSpec (wz uX6_led) (rz (d + 9) 1 6)) (pz D g ad X A [.ref 1, .int i0] (mk w 7 0 I0 L)) (fun _ _ _ _ _ => True) qT := by
  refine MetFree.of_bodyS (code := cX6_led) (maxLocals := 4) (ret := some .int) (by decide) ?_ ?_
  · intro args s m h hn
    obtain ⟨meth, c, h1, h2, h3, h4, h5, h6, -, -⟩ := Cond.code_spec hn (atoms_spec (ws := wz uX6_led) h _ List.mem_cons_self)
    exact ⟨meth, c, h1, h2, h3, h4, h5, h6⟩
  · intro p e s m args below meth c s₁ B hml hv _
    obtain ⟨rfl, hP, hD, hA, hk, hn, hs⟩ := hv
    have hx := B.exec
    have hb := B.bytes
    have hlocks := B.notSynchronized
    have hts0 := atoms_spec (ws := wz uX6_led) B.pre
    have hts : ∀ w ∈ wB, w.before (([.ref 1, .int i0] : List Value).map (iv ad)).toArray s = true := fun w hw => hts0 w (List.mem_cons_of_mem _ hw)
    have hown : s.vm.findClass RX6 = some m.cls := findClass_of_methodNamed B.named
    have hhan := B.noHandlers (hts0 _ List.mem_cons_self)
    have hh0 : s₁.heap = s.heap := by rw [B.state]; rfl
    have hK := hs.1
    have hl := lv_entry ([.ref (ad 1), .int i0]) (n := 4) (Nat.le_of_ble_eq_true rfl)
    have key : W p l e (headSpec (wz uX6_led) (rz (d + 9) 1 6)).room s m (([.ref 1, .int i0] : List Value).map (iv ad)).toArray below meth c s.heap [] 0 0 (fun t => ∃ o, t.status = .running ∧ Ended t below o ∧ qT (([.ref 1, .int i0] : List Value).map (iv ad)).toArray s o t) (entryFrame m ([.ref (ad 1), .int i0] : List Value).toArray 4) := by
      rw [lg_entry_eq]
      generalize (lg_sl ([.ref (ad 1), .int i0]) ++ List.replicate (4 - (lg_sl ([.ref (ad 1), .int i0])).length) Slot.unset).toArray = ls at hl ⊢
      have hl : lv_has ls 4 [(0, .ref (ad 1)), (1, .int i0)] := hl
      refine lv_iconst (v := 0) hx hb (idX6_led (0, .iconst 0, 1) (List.mem_of_getElem? (i := 0) rfl)) (by decide) ?_
      refine lv_istore_n (lv' := [(2, .int 0), (0, .ref (ad 1)), (1, .int i0)]) hx hb (idX6_led (1, .istore_n 2, 1) (List.mem_of_getElem? (i := 1) rfl)) rfl hl (by decide) rfl (fun ls hl => ?_)
      refine lv_iconst (v := 0) hx hb (idX6_led (2, .iconst 0, 1) (List.mem_of_getElem? (i := 2) rfl)) (by decide) ?_
      refine lv_istore_n (lv' := [(3, .int 0), (2, .int 0), (0, .ref (ad 1)), (1, .int i0)]) hx hb (idX6_led (3, .istore_n 3, 1) (List.mem_of_getElem? (i := 3) rfl)) rfl hl (by decide) rfl (fun ls hl => ?_)
      refine lv_iload_n hx hb (idX6_led (4, .iload_n 3, 1) (List.mem_of_getElem? (i := 4) rfl)) rfl (lv_at hl 0 rfl) ?_
      refine lv_aload_n hx hb (idX6_led (5, .aload_n 0, 1) (List.mem_of_getElem? (i := 5) rfl)) rfl (lv_at hl 2 rfl) ?_
      have he1 := wl_at (g := g) (ad := ad) (M := mk w 7 0 I0 L) (a := 1) (by decide) (Nat.le_of_ble_eq_true rfl)
      rw [en_o (c := 6) rfl (by decide)] at he1
      refine va_get hx hb hts inB6 hown hK hP 0 he1 (show vwCl[6]? = some (RX6, TX6, 14) from rfl) 1 (by decide) (hts _ flX6_19) (fun _ z => z) (v := .ref (ad 7)) (by rw [eo_at (by decide)]; rfl) (idX6_led (6, .getfield 19, 3) (List.mem_of_getElem? (i := 6) rfl)) ?_
      have he7 := wl_at (g := g) (ad := ad) (M := mk w 7 0 I0 L) (a := 7) (by decide) (Nat.le_of_ble_eq_true rfl)
      rw [en_o (c := 3) rfl (by decide)] at he7
      refine va_get hx hb hts inB3 hown hK hP 6 he7 (show vwCl[3]? = some (RX3, TX3, 20) from rfl) 4 (by decide) (hts _ flX6_97) (fun _ z => z) (v := .int 0) (by rw [eo_at (by decide)]; rfl) (idX6_led (9, .getfield 97, 3) (List.mem_of_getElem? (i := 7) rfl)) ?_
      refine lv_icmp_ge (tgt := 55) hx hb (idX6_led (12, .if_icmp .ge 43, 3) (List.mem_of_getElem? (i := 8) rfl)) (by decide) (fun _ => ?_) (fun z => absurd (show (0 : Int32) ≤ 0 by decide) z)
      obtain ⟨cN, kN, hfN, hkN, -⟩ := Cond.instantiable_spec (hts _ nsN)
      refine W.newcK (n := 6) hx hb hown (hts _ clX6_327) (hts _ nsN) (hts _ nsI) rfl (idX6_led (55, .new 327, 3) (List.mem_of_getElem? (i := 28) rfl)) (Nat.le_refl 1) (Nat.le_refl 6) hfN rfl (fun H1 kC hkC e1 z1 o1 => ?_)
      refine lv_dup hx hb (idX6_led (58, .dup, 1) (List.mem_of_getElem? (i := 29) rfl)) rfl ?_
      intro T hT XT
      have htr : e.platform.stackTraces = false := by rw [XT.admits.platform]; exact hl0
      obtain ⟨U, u1, u2, u3, u4, u5, ce, u6, u7⟩ := XT.ctorThrow0 hx htr (own := RX6) (cls := NSE) (names := ["java/lang/RuntimeException", "java/lang/Exception"]) (ic := 329) hown (by decide +kernel) (by decide +kernel) (thA_h hts hs.2.2.1) (fun y hy => absurd hy List.not_mem_nil) (a := s.heap.size) (cX := cN) (kX := kC) hfN hkC (by rw [hT]; exact e1) (Nat.le_refl _) (g := F0 m 59 ls [.ref s.heap.size, .ref s.heap.size]) rfl (hl.1.trans hml.symm) rfl rfl (rest := []) rfl (by rw [hb]; exact (idX6_led (59, .invokespecial 329, 3) (List.mem_of_getElem? (i := 30) rfl))) (by rw [hb]; exact (idX6_led (62, .athrow, 1) (List.mem_of_getElem? (i := 31) rfl))) (fun y hy => by
        have h0 : c.exceptionTable.size = 0 := by simpa [Array.isEmpty] using hhan
        have h1 : c.exceptionTable.toList = [] := List.eq_nil_of_length_eq_zero (by simpa using h0)
        rw [h1] at hy
        cases hy) (by show 2 + 3 < d + 9; omega) (by
        show 2 * (F0 m 59 ls [.ref s.heap.size, .ref s.heap.size]).monitorRoom + 1 + (13 * (2 + 1) + 41) ≤ 64 * (d + 9)
        have hr : 2 * (F0 m 59 ls [.ref s.heap.size, .ref s.heap.size]).monitorRoom + (([] : List Value).map fun v => v.category).sum ≤ 8 := lv_room (by decide)
        have hr : 2 * (F0 m 59 ls [.ref s.heap.size, .ref s.heap.size]).monitorRoom ≤ 8 := hr
        omega) hlocks
      exact ⟨U, u1, .threw s.heap.size, u2, u3, s.heap.size, ce, rfl, u4, u5, u6, Nat.le_refl _, u7.cls, u7.vm⟩
    obtain ⟨t, a1, o, b1, b2, b3⟩ := key s₁ hh0 (Stand.of_body B)
    exact ⟨t, o, a1, b1, b2, b3⟩
end LED
