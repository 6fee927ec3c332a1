/-! the class's led: an answer, or a throw; the memory stays as it is -/
section LED
variable {l : Launch} {X : Nat × (Nat → Int32)} {d : Nat} {M : Mm} {i0 : Int32}
theorem kp_nil {M M' : Mm} (h1 : M'.1 = M.1) (h : kp [] M M') : M' = M := by
  obtain ⟨a, I, L, Rf⟩ := M
  obtain ⟨a', I', L', Rf'⟩ := M'
  have e0 : a' = a := h1
  have e1 : I' = I := by funext b j; exact (h b j rfl).1
  have e2 : L' = L := by funext b j; exact (h b j rfl).2.2
  have e3 : Rf' = Rf := by funext b j; exact (h b j rfl).2.1
  rw [e0, e1, e2, e3]
/-- where it ends: at its return, or where the throwable is made -/
def ledE (pc : Nat) (r : Option Value) : Prop := (pc = 45 ∧ ∃ v : Int32, r = some (.int v)) ∨ (pc = 55 ∧ r = none)
theorem led_hf (hI : Iv Pt8 M) (he : eO 1 M) {f : Nat} (hf : f ≤ 5) : Ev l X uX2_hasFallen d true 0 0 [.ref 33, .int (nI f)] M (fun r M' => M' = M ∧ ∃ x : Int32, r = some (.int x)) := by
  have e1 : (nI f).toInt = (f : Int) := nI_toInt (by omega)
  refine vc116 d [.ref 33, .int (nI f)] M _ hI he ⟨⟨rfl, List.mem_singleton.mpr rfl⟩, ⟨rfl, by rw [e1]; show (0 : Int) ≤ _; omega, by rw [e1]; show _ ≤ (5 : Int); omega⟩, trivial⟩ (fun f hf => absurd hf List.not_mem_nil) (fun r M' hJ hp => ⟨kp_nil hJ.1 hJ.2.2.1, ?_⟩)
  obtain ⟨v, rfl, hk⟩ := posts_ok (t := 0) (by decide +kernel) hp
  exact iV hk (fun x e => ⟨x, by rw [e]⟩)
theorem led_co (hI : Iv Pt8 M) (he : eO 1 M) {f : Int32} : Ev l X uX6_canonOf d true 0 0 [.ref 1, .int f] M (fun r M' => M' = M ∧ ∃ x : Int32, r = some (.int x)) := by
  refine vc117 d [.ref 1, .int f] M _ hI he ⟨⟨rfl, List.mem_singleton.mpr rfl⟩, ⟨rfl, i32_lo _, i32_hi _⟩, trivial⟩ (fun f hf => absurd hf List.not_mem_nil) (fun r M' hJ hp => ⟨kp_nil hJ.1 hJ.2.2.1, ?_⟩)
  obtain ⟨v, rfl, hk⟩ := posts_ok (t := 0) (by decide +kernel) hp
  exact iV hk (fun x e => ⟨x, by rw [e]⟩)
theorem led_pl (hI : Iv Pt8 M) : ∃ (P n : Nat), mR M 1 1 = P ∧ kk M P 3 = true ∧ n ≤ 6 ∧ mI M P 4 = nI n := by
  have r1 := hI.2.2.1 1 1 (by decide)
  have r1 : mR M 1 1 = 7 ∨ mR M 1 1 = 20 := by
    have r1 : mR M 1 1 ∈ [7, 20] := r1
    rcases List.mem_cons.mp r1 with z | z
    · exact Or.inl z
    · exact Or.inr (List.mem_singleton.mp z)
  have cnt : ∀ x : Int32, 0 ≤ x.toInt → x.toInt ≤ 6 → ∃ n : Nat, n ≤ 6 ∧ x = nI n := fun x h0 h6 => ⟨x.toInt.toNat, by omega, nI_at h0 (by omega)⟩
  rcases r1 with e | e
  · obtain ⟨b1, b2⟩ := hI.2.2.2 7 4 (by decide)
    obtain ⟨n, h1, h2⟩ := cnt (mI M 7 4) b1 b2
    exact ⟨7, n, e, kk_ok hI rfl, h1, h2⟩
  · obtain ⟨b1, b2⟩ := hI.2.2.2 20 4 (by decide)
    obtain ⟨n, h1, h2⟩ := cnt (mI M 20 4) b1 b2
    exact ⟨20, n, e, kk_ok hI rfl, h1, h2⟩

set_option maxRecDepth 20000 in
theorem led_wt (hI : Iv Pt8 M) (he : eO 1 M) : Wt l X uX6_led (d + 1) ledE 0 [(0, .ref 1), (1, .int i0)] [] M := by
  obtain ⟨P, n, hP, kP, hn, hc⟩ := led_pl hI
  have k1 : kk M 1 6 = true := kk_ok hI rfl
  have k33 : kk M 33 2 = true := kk_ok hI rfl
  have r3 : mR M 1 3 = 33 := List.mem_singleton.mp (hI.2.2.1 1 3 (by decide))
  -- the head of the loop
  have head : ∀ (f : Nat) (ah : Int32), (nI n ≤ nI f → Wt l X uX6_led (d + 1) ledE 55 [(0, .ref 1), (1, .int i0), (2, .int ah), (3, .int (nI f))] [] M) → (¬ nI n ≤ nI f → Wt l X uX6_led (d + 1) ledE 15 [(0, .ref 1), (1, .int i0), (2, .int ah), (3, .int (nI f))] [] M) → Wt l X uX6_led (d + 1) ledE 4 [(0, .ref 1), (1, .int i0), (2, .int ah), (3, .int (nI f))] [] M := by
    intro f ah j1 j2
    refine wt_il (i := 3) rfl (idX6_led (4, .iload_n 3, 1) (List.mem_of_getElem? (i := 4) rfl)) rfl ?_
    refine wt_al (i := 0) rfl (idX6_led (5, .aload_n 0, 1) (List.mem_of_getElem? (i := 5) rfl)) rfl (by decide) ?_
    refine wt_get (c := 6) (k := 1) (t := 2) rfl inB6 (by decide) flX6_19 (idX6_led (6, .getfield 19, 3) (List.mem_of_getElem? (i := 6) rfl)) k1 ?_
    show Wt l X uX6_led (d + 1) ledE 9 _ [.ref (mR M 1 1), .int (nI f)] M
    rw [hP]
    refine wt_get (c := 3) (k := 4) (t := 0) rfl inB3 (by decide) flX6_97 (idX6_led (9, .getfield 97, 3) (List.mem_of_getElem? (i := 7) rfl)) kP ?_
    show Wt l X uX6_led (d + 1) ledE 12 _ [.int (mI M P 4), .int (nI f)] M
    rw [hc]
    exact wt_ge (t := 55) (by decide) (idX6_led (12, .if_icmp .ge 43, 3) (List.mem_of_getElem? (i := 8) rfl)) j1 j2
  have step : ∀ (f : Nat) (ah : Int32), (∀ ah' : Int32, Wt l X uX6_led (d + 1) ledE 4 [(0, .ref 1), (1, .int i0), (2, .int ah'), (3, .int (nI (f + 1)))] [] M) → Wt l X uX6_led (d + 1) ledE 49 [(0, .ref 1), (1, .int i0), (2, .int ah), (3, .int (nI f))] [] M := by
    intro f ah j
    refine wt_inc (i := 3) (v := 1) (by decide) (by decide) (idX6_led (49, .iinc 3 1, 3) (List.mem_of_getElem? (i := 26) rfl)) rfl rfl ?_
    rw [nI_1]
    exact wt_go (t := 4) (by decide) (idX6_led (52, .goto (-48), 3) (List.mem_of_getElem? (i := 27) rfl)) (j ah)
  have loop : ∀ f, f ≤ n → ∀ ah : Int32, Wt l X uX6_led (d + 1) ledE 4 [(0, .ref 1), (1, .int i0), (2, .int ah), (3, .int (nI f))] [] M := by
    refine dwn _ n ?_ ?_
    · intro ah
      exact head n ah (fun _ => wt_end (r := none) (Or.inr ⟨rfl, rfl⟩)) (fun z => absurd (nI_le (Nat.le_refl n) (by omega)) z)
    · intro f hf j ah
      refine head f ah (fun z => absurd z (nI_ge hf (by omega))) (fun _ => ?_)
      refine wt_al (i := 0) rfl (idX6_led (15, .aload_n 0, 1) (List.mem_of_getElem? (i := 9) rfl)) rfl (by decide) ?_
      refine wt_get (c := 6) (k := 3) (t := 2) rfl inB6 (by decide) flX6_29 (idX6_led (16, .getfield 29, 3) (List.mem_of_getElem? (i := 10) rfl)) k1 ?_
      show Wt l X uX6_led (d + 1) ledE 19 _ [.ref (mR M 1 3)] M
      rw [r3]
      refine wt_il (i := 3) rfl (idX6_led (19, .iload_n 3, 1) (List.mem_of_getElem? (i := 11) rfl)) rfl ?_
      refine wt_cv (c := 2) (n := 1) (as := [.int (nI f)]) (rest := []) cv_X2_hasFallen rfl (by decide) mlX6_122 (idX6_led (20, .invokevirtual 122, 3) (List.mem_of_getElem? (i := 12) rfl)) rfl k33 (Nat.zero_le _) (led_hf (f := f) hI he (by omega)) (fun r hr => ?_)
      obtain ⟨x, rfl⟩ := hr
      show Wt l X uX6_led (d + 1) ledE 23 _ [.int x] M
      refine wt_ifne (t := 49) (by decide) (idX6_led (23, .ifCond .ne 26, 3) (List.mem_of_getElem? (i := 13) rfl)) (fun _ => step f ah j) (fun _ => ?_)
      refine wt_al (i := 0) rfl (idX6_led (26, .aload_n 0, 1) (List.mem_of_getElem? (i := 14) rfl)) rfl (by decide) ?_
      refine wt_il (i := 3) rfl (idX6_led (27, .iload_n 3, 1) (List.mem_of_getElem? (i := 15) rfl)) rfl ?_
      refine wt_cv (c := 6) (n := 1) (as := [.int (nI f)]) (rest := []) cv_X6_canonOf rfl (by decide) mlX6_128 (idX6_led (28, .invokevirtual 128, 3) (List.mem_of_getElem? (i := 16) rfl)) rfl k1 (Nat.zero_le _) (led_co hI he) (fun r hr => ?_)
      obtain ⟨y, rfl⟩ := hr
      show Wt l X uX6_led (d + 1) ledE 31 _ [.int y] M
      refine wt_bi (v := -2) (by decide) (idX6_led (31, .bipush (-2), 2) (List.mem_of_getElem? (i := 17) rfl)) ?_
      refine wt_eq (t := 39) (by decide) (idX6_led (33, .if_icmp .eq 6, 3) (List.mem_of_getElem? (i := 18) rfl)) (fun _ => ?_) (fun _ => wt_go (t := 49) (by decide) (idX6_led (36, .goto 13, 3) (List.mem_of_getElem? (i := 19) rfl)) (step f ah j))
      refine wt_il (i := 2) rfl (idX6_led (39, .iload_n 2, 1) (List.mem_of_getElem? (i := 20) rfl)) rfl ?_
      refine wt_il (i := 1) rfl (idX6_led (40, .iload_n 1, 1) (List.mem_of_getElem? (i := 21) rfl)) rfl ?_
      refine wt_ne (t := 46) (by decide) (idX6_led (41, .if_icmp .ne 5, 3) (List.mem_of_getElem? (i := 22) rfl)) (fun _ => ?_) (fun _ => ?_)
      · refine wt_inc (i := 2) (v := 1) (by decide) (by decide) (idX6_led (46, .iinc 2 1, 3) (List.mem_of_getElem? (i := 25) rfl)) rfl rfl ?_
        exact step f (ah + 1) j
      · refine wt_il (i := 3) rfl (idX6_led (44, .iload_n 3, 1) (List.mem_of_getElem? (i := 23) rfl)) rfl ?_
        exact wt_end (r := some (.int (nI f))) (Or.inl ⟨rfl, _, rfl⟩)
  refine wt_ic (v := 0) (by decide) (idX6_led (0, .iconst 0, 1) (List.mem_of_getElem? (i := 0) rfl)) ?_
  refine wt_is (i := 2) rfl (by decide) (idX6_led (1, .istore_n 2, 1) (List.mem_of_getElem? (i := 1) rfl)) rfl ?_
  refine wt_ic (v := 0) (by decide) (idX6_led (2, .iconst 0, 1) (List.mem_of_getElem? (i := 2) rfl)) ?_
  refine wt_is (i := 3) rfl (by decide) (idX6_led (3, .istore_n 3, 1) (List.mem_of_getElem? (i := 3) rfl)) rfl ?_
  exact loop 0 (Nat.zero_le n) 0
/-- it returned, or threw a new NoSuchElementException; the memory is as it was -/
def qT (D : va_G) (g : Nat → ClassId) (ad : Nat → Nat) (A : Nat → Prop) (M : Mm) : Array Value → State → Outcome → State → Prop := fun _ st o t =>
  ((∃ (v : Int32) (L : List Loc), o = .returned (some (.int v)) ∧ st.WarmedH t.vm ∧ st.sameButNew ({ t with vm := st.vm } : State) L 0 0 ∧ ∀ x ∈ L, A x.base) ∨
   (∃ (x : Addr) (ce : Cell) (L : List Loc), o = .threw x ∧ st.WarmedH t.vm ∧ st.sameButNew ({ t with vm := st.vm } : State) L 1 6 ∧ (∀ y ∈ L, A y.base) ∧ t.heap[x]? = some ce ∧ st.vm.findClass NSE = some ce.cls ∧ ce.vm = .none)) ∧ va_P D vwCl (wl g ad M) t.heap ∧ va_F A st t
set_option maxHeartbeats 4000000 in
set_option maxRecDepth 20000 in
theorem led6 (hl0 : l.stackTraces = false) (hI : Iv Pt8 M) (he0 : eO 1 M) (D : va_G) (g : Nat → ClassId) (ad : Nat → Nat) (A : Nat → Prop) : MetFree l uX6_led.1 (headSpec (wz uX6_led) (rz (d + 9) 1 6)) (pz D g ad X A [.ref 1, .int i0] M) (fun _ _ _ _ _ => True) (qT D g ad A M) := by
  refine MetFree.of_bodyS (code := cX6_led) (maxLocals := 4) (ret := some .int) (by decide) ?_ ?_
  · intro args s m h hn
    obtain ⟨meth, c, h1, h2, h3, h4, h5, h6, -, -⟩ := Cond.code_spec hn (atoms_spec (ws := wz uX6_led) h _ List.mem_cons_self)
    exact ⟨meth, c, h1, h2, h3, h4, h5, h6⟩
  · intro p e s m args below meth c s₁ B hml hv _
    obtain ⟨rfl, hP, hD, hA, hk, hn, hs⟩ := hv
    have hx := B.exec
    have hb := B.bytes
    have hlocks := B.notSynchronized
    have hts0 := atoms_spec (ws := wz uX6_led) B.pre
    have hts : ∀ w ∈ wB, w.before (([.ref 1, .int i0] : List Value).map (iv ad)).toArray s = true := fun w hw => hts0 w (List.mem_cons_of_mem _ hw)
    have hown : s.vm.findClass RX6 = some m.cls := findClass_of_methodNamed B.named
    have hhan := B.noHandlers (hts0 _ List.mem_cons_self)
    have hh0 : s₁.heap = s.heap := by rw [B.state]; rfl
    have hfx : fx X uX6_led p s m (([.ref 1, .int i0] : List Value).map (iv ad)).toArray meth c D g ad A := ⟨hx, hb, hml, B.returns, hlocks, hown, (name_of_methodNamed B.named B.method).1, hts, hA, hs⟩
    have hl := lv_entry (([.ref 1, .int i0] : List Value).map (iv ad)) (n := 4) (by rw [sl_len]; exact Nat.le_of_ble_eq_true rfl)
    have key : W p l e (headSpec (wz uX6_led) (rz (d + 9) 1 6)).room s m (([.ref 1, .int i0] : List Value).map (iv ad)).toArray below meth c s.heap [] 0 0 (fun t => ∃ o, t.status = .running ∧ Ended t below o ∧ qT D g ad A M (([.ref 1, .int i0] : List Value).map (iv ad)).toArray s o t) (entryFrame m (([.ref 1, .int i0] : List Value).map (iv ad)).toArray 4) := by
      rw [lg_entry_eq]
      rw [lv_args_iv] at hl
      generalize (lg_sl (([.ref 1, .int i0] : List Value).map (iv ad)) ++ List.replicate (4 - (lg_sl (([.ref 1, .int i0] : List Value).map (iv ad))).length) Slot.unset).toArray = ls at hl ⊢
      refine led_wt (l := l) (X := X) (d := d + 8) (i0 := i0) hI he0 p e (headSpec (wz uX6_led) (rz (d + 9) 1 6)).room s m _ below meth c _ D g ad A s.heap [] ls hfx (Nat.le_refl (d + 9)) (Nat.le_refl (64 * (d + 9))) ⟨hP, hD, va_S.rf, hk, hn⟩ hl (fun pc' r H' locs' la' hE hr hl' => ?_)
      rcases hE with ⟨rfl, v, rfl⟩ | ⟨rfl, rfl⟩
      · intro T hT XT
        have hw := W.iret (p := p) (l := l) (e := e) (R := (headSpec (wz uX6_led) (rz (d + 9) 1 6)).room) (s := s) (m := m) (args := (([.ref 1, .int i0] : List Value).map (iv ad)).toArray) (below := below) (meth := meth) (c := c) (H := H') (locs := locs') (cells := 0) (slots := 0) (ls := la') (v := v) (Qc := fun _ _ o t => o = .returned (some (.int v)) ∧ t.heap = H') (free := A) hx hb B.returns (fun t e1 _ => ⟨rfl, e1⟩) hr.2.2.1.2.2 (idX6_led (45, .ireturn, 1) (List.mem_of_getElem? (i := 24) rfl)) hlocks
        obtain ⟨t, a1, o, b1, b2, ⟨b3, b4⟩, L, ⟨-, b5, b6⟩, b7⟩ := hw T hT XT
        exact ⟨t, a1, o, b1, b2, Or.inl ⟨v, L, b3, b5, b6, b7⟩, by rw [b4]; exact hr.1, hr.2.2.1.F b4⟩
      · intro T hT XT
        have X0 := st_base XT
        have hwm : s.WarmedH T.vm := XT.warmed
        have hwm' : s.WarmedH (T.setFrames (.invoking m (([.ref 1, .int i0] : List Value).map (iv ad)).toArray :: below)).vm := hwm
        have hts' : ∀ w ∈ wB, w.before (([.ref 1, .int i0] : List Value).map (iv ad)).toArray (T.setFrames (.invoking m (([.ref 1, .int i0] : List Value).map (iv ad)).toArray :: below)) = true := fun w hw => word_at hwm' (good_of_word (List.mem_filter.mp hw).2) (hts _ hw)
        have hown' : (T.setFrames (.invoking m (([.ref 1, .int i0] : List Value).map (iv ad)).toArray :: below)).vm.findClass RX6 = some m.cls := by
          show T.vm.findClass RX6 = some m.cls
          rw [hwm.alike.findClass]
          exact hown
        have hs1 : sx D g ad X A s T.heap := sx_kept hs (by rw [hT]; exact hr.2.2.1.1) (fun a h1 h2 => by rw [hT]; exact hr.2.2.1.2.1 a h1 h2)
        have hs' : sx D g ad X A (T.setFrames (.invoking m (([.ref 1, .int i0] : List Value).map (iv ad)).toArray :: below)) T.heap := sx_warm hwm' hs1
        generalize hsp : T.setFrames (.invoking m (([.ref 1, .int i0] : List Value).map (iv ad)).toArray :: below) = sp at X0 hts' hown' hs'
        have ehp : sp.heap = T.heap := by rw [← hsp]; rfl
        have evp : sp.vm = T.vm := by rw [← hsp]; rfl
        have key2 : W p l e (headSpec (wz uX6_led) (rz (d + 9) 1 6)).room sp m (([.ref 1, .int i0] : List Value).map (iv ad)).toArray below meth c sp.heap [] 0 0 (fun U => U.status = .running ∧ Ended U below (.threw sp.heap.size) ∧ sp.WarmedH U.vm ∧ sp.sameButNew ({ U with vm := sp.vm } : State) [] 1 6 ∧ ∃ ce, U.heap[sp.heap.size]? = some ce ∧ sp.vm.findClass NSE = some ce.cls ∧ ce.vm = .none) (F0 m 55 la' []) := by
          obtain ⟨cN, kN, hfN, hkN, -⟩ := Cond.instantiable_spec (hts' _ nsN)
          refine W.newcK (n := 6) hx hb hown' (hts' _ clX6_327) (hts' _ nsN) (hts' _ nsI) rfl (idX6_led (55, .new 327, 3) (List.mem_of_getElem? (i := 28) rfl)) (Nat.le_refl 1) (Nat.le_refl 6) hfN rfl (fun H1 kC hkC e1 z1 o1 => ?_)
          refine lv_dup hx hb (idX6_led (58, .dup, 1) (List.mem_of_getElem? (i := 29) rfl)) rfl ?_
          intro T2 hT2 XT2
          have htr : e.platform.stackTraces = false := by rw [XT2.admits.platform]; exact hl0
          obtain ⟨U, u1, u2, u3, u4, u5, ce, u6, u7⟩ := XT2.ctorThrow0 hx htr (own := RX6) (cls := NSE) (names := ["java/lang/RuntimeException", "java/lang/Exception"]) (ic := 329) hown' (by decide +kernel) (by decide +kernel) (thA_h hts' (by rw [ehp]; exact hs'.2.2.1)) (fun y hy => absurd hy List.not_mem_nil) (a := sp.heap.size) (cX := cN) (kX := kC) hfN hkC (by rw [hT2]; exact e1) (Nat.le_refl _) (g := F0 m 59 la' [.ref sp.heap.size, .ref sp.heap.size]) rfl (hl'.1.trans hml.symm) rfl rfl (rest := []) rfl (by rw [hb]; exact (idX6_led (59, .invokespecial 329, 3) (List.mem_of_getElem? (i := 30) rfl))) (by rw [hb]; exact (idX6_led (62, .athrow, 1) (List.mem_of_getElem? (i := 31) rfl))) (fun y hy => by
            have h0 : c.exceptionTable.size = 0 := by simpa [Array.isEmpty] using hhan
            have h1 : c.exceptionTable.toList = [] := List.eq_nil_of_length_eq_zero (by simpa using h0)
            rw [h1] at hy
            cases hy) (by show 2 + 3 < d + 9; omega) (by
            show 2 * (F0 m 59 la' [.ref sp.heap.size, .ref sp.heap.size]).monitorRoom + 1 + (13 * (2 + 1) + 41) ≤ 64 * (d + 9)
            have hr : 2 * (F0 m 59 la' [.ref sp.heap.size, .ref sp.heap.size]).monitorRoom + (([] : List Value).map fun v => v.category).sum ≤ 8 := lv_room (by decide)
            have hr : 2 * (F0 m 59 la' [.ref sp.heap.size, .ref sp.heap.size]).monitorRoom ≤ 8 := hr
            omega) hlocks
          exact ⟨U, u1, u2, u3, u4, u5, ce, u6, u7.cls, u7.vm⟩
        obtain ⟨U, a1, b1, b2, b3, b4, ce, b5, b6, b7⟩ := key2 T ehp.symm X0
        have hold : ∀ a, a < T.heap.size → U.heap[a]? = T.heap[a]? := fun a ha => by
          have hc0 : sp.heap[a]? = some (T.heap[a]'ha) := by rw [ehp]; exact Array.getElem?_eq_getElem ha
          have z := State.sameButNew.old_cell b4 hc0
          have z : U.heap[a]? = some (T.heap[a]'ha) := z
          rw [z, Array.getElem?_eq_getElem ha]
        have hgrow : T.heap.size ≤ U.heap.size := by
          have z : sp.heap.size ≤ U.heap.size := b4.2.1
          rw [ehp] at z
          exact z
        have hB2 : (T.setVm s.vm).sameButNew ({ U with vm := s.vm } : State) [] 1 6 := by
          have z := b4.setVm s.vm
          obtain ⟨q1, q2, q3, q4, q5, q6⟩ := z
          rw [← hsp] at q1 q2 q3 q4 q5 q6
          refine ⟨?_, q2, q3, q4, q5, q6⟩
          refine q1.trans ?_
          have ef : ((T.setFrames (.invoking m (([.ref 1, .int i0] : List Value).map (iv ad)).toArray :: below)).setVm s.vm).setFrames (({ U with vm := sp.vm } : State).setVm s.vm).frames = (T.setVm s.vm).setFrames (({ U with vm := s.vm } : State)).frames := State.setFrames_setFrames (T.setVm s.vm) _ _
          rw [hsp] at ef ⊢
          rw [ef]
          rfl
        refine ⟨U, a1, .threw sp.heap.size, b1, b2, Or.inr ⟨sp.heap.size, ce, locs' ++ [], rfl, State.WarmedH.trans hwm (by rw [← hsp] at b3; exact b3), XT.same.trans hB2, fun y hy => by
          rw [List.append_nil] at hy
          exact hr.2.2.1.2.2 y hy, b5, by rw [evp, hwm.alike.findClass] at b6; exact b6, b7⟩, ?_, ?_⟩
        · exact hr.1.kept (fun k y hy => by
            rw [← hT]
            exact hold y.1 (by rw [hT]; exact (hr.1 k y hy).lt))
        · refine ⟨Nat.le_trans hr.2.2.1.1 (by rw [← hT]; exact hgrow), fun a h1 h2 => ?_⟩
          rw [hold a (by rw [hT]; exact Nat.lt_of_lt_of_le h1 hr.2.2.1.1), hT]
          exact hr.2.2.1.2.1 a h1 h2
    obtain ⟨t, a1, o, b1, b2, b3⟩ := key s₁ hh0 (Stand.of_body B)
    exact ⟨t, o, a1, b1, b2, b3⟩
end LED
