/-! the law's led: it catches the throw of the class's led -/
section LLED
variable {l : Launch} {X : Nat × (Nat → Int32)} {d : Nat} {M : Mm} {i0 : Int32} {kr : KR}
def uLl : Md := (yL_led, cL_led, 4, some .int)
/-- a cell more has been made, of six slots at the most -/
def gw (M : Mm) : Mm := ((mN M, mC M + 1, mS M + 6, M.1.2.2.2), M.2)
theorem wl_gw {g : Nat → ClassId} {ad : Nat → Nat} {M : Mm} : wl g ad (gw M) = wl g ad M := rfl
theorem lled_tail {na : Bool} {b : Nat × Nat} {v : Int32} (h10 : kk M 167 10 = true) (hlen : 0 < (mK M 167).2) (h : ∀ w : Int64, kr (some (.int 0)) (wL M 167 0 w)) : Wf l X uLl d na b 7 [] [.int v, .int 0, .ref 167] M kr := by
  refine OK.go (ok_i2l (idL_led (7, .i2l, 1) (List.mem_of_getElem? (i := 5) rfl))) ?_
  show Wf l X uLl d na b 8 [] [.long v.toInt64, .int 0, .ref 167] M kr
  refine OK.go (ok_lastore (idL_led (8, .lastore, 1) (List.mem_of_getElem? (i := 6) rfl))) ?_
  simp only [oLas, h10, cond_true]
  refine ⟨0, ⟨nI_0.symm, by decide, hlen⟩, ?_⟩
  show Wf l X uLl d na b 9 [] [] (wL M 167 0 v.toInt64) kr
  refine OK.go (ok_goto (t := 15) (by decide) (idL_led (9, .goto 6, 3) (List.mem_of_getElem? (i := 7) rfl))) ?_
  show Wf l X uLl d na b 15 [] [] (wL M 167 0 v.toInt64) kr
  refine OK.go (ok_iconst (v := 0) (by decide) (idL_led (15, .iconst 0, 1) (List.mem_of_getElem? (i := 11) rfl))) ?_
  show Wf l X uLl d na b 16 [] [.int 0] (wL M 167 0 v.toInt64) kr
  exact OK.go (ok_ir rfl (idL_led (16, .ireturn, 1) (List.mem_of_getElem? (i := 12) rfl))) (h _)
set_option maxHeartbeats 4000000 in
set_option maxRecDepth 20000 in
theorem ledL (hl0 : l.stackTraces = false) (hI : Iv Pt8 M) (he0 : eO 1 M) (h0 : ∀ w : Int64, kr (some (.int 0)) (gw (wL M 167 0 w))) (h1 : kr (some (.int 1)) (gw M)) (D : va_G) (g : Nat → ClassId) (ad : Nat → Nat) (A : Nat → Prop) : Met l yL_led wzL (rz (d + 10) 1 6) (pz D g ad X A [.ref 1, .int i0, .ref 167] M) (qz D g ad A false M kr) 1 6 A := by
  refine va_MetW (cc := cL_led) (maxL := 4) (ret := some .int) (hh := [(0, 9, 12, 13)]) (by decide) rfl ?_
  intro p e s m args below meth c s₁ B hml hv
  obtain ⟨rfl, hP, hD, hA, hk, hn, hs⟩ := hv
  have hx := B.exec
  have hb := B.bytes
  have hlocks := B.notSynchronized
  have hts0 := atoms_spec (ws := wzL) B.pre
  have hts : ∀ w ∈ wB, w.before (([.ref 1, .int i0, .ref 167] : List Value).map (iv ad)).toArray s = true := fun w hw => hts0 w (List.mem_cons_of_mem _ hw)
  have hown : s.vm.findClass RL = some m.cls := findClass_of_methodNamed B.named
  have htab : c.exceptionTable.toList.map (fun h => (h.startPc, h.endPc, h.handlerPc, h.catchType)) = [(0, 9, 12, 13)] := by
    obtain ⟨m9, meth9, c9, hn9, g1, g2, g3, g4, g5, -⟩ := Cond.codeWith_spec (hts0 _ List.mem_cons_self)
    cases B.named.symm.trans hn9
    cases B.method.symm.trans g1
    cases (Stand.of_body B).code.symm.trans g2
    exact g5
  have hK := hs.1
  have k1 : kk M 1 6 = true := kk_ok hI rfl
  have k167 : kk M 167 10 = true := kk_ok hI rfl
  have hlen : 0 < (mK M 167).2 := by rw [hI.2.1 167 (by decide)]; decide
  obtain ⟨a0, a1, a2⟩ := kk_of k1
  have hfx : fx X uLl p s m (([.ref 1, .int i0, .ref 167] : List Value).map (iv ad)).toArray meth c D g ad A := ⟨hx, hb, hml, B.returns, hlocks, hown, (name_of_methodNamed B.named B.method).1, hts, hA, hs⟩
  have hl := lv_entry ([.ref (ad 1), .int i0, .ref (ad 167)]) (n := 4) (Nat.le_of_ble_eq_true rfl)
  show W p l e (headSpec wzL (rz (d + 10) 1 6)).room s m (([.ref 1, .int i0, .ref 167] : List Value).map (iv ad)).toArray below meth c s.heap [] 0 0 (MQ below (qz D g ad A false M kr) (([.ref 1, .int i0, .ref 167] : List Value).map (iv ad)).toArray s 1 6 A) (entryFrame m ([.ref (ad 1), .int i0, .ref (ad 167)] : List Value).toArray 4)
  rw [lg_entry_eq]
  generalize (lg_sl ([.ref (ad 1), .int i0, .ref (ad 167)]) ++ List.replicate (4 - (lg_sl ([.ref (ad 1), .int i0, .ref (ad 167)])).length) Slot.unset).toArray = ls at hl ⊢
  have hl : lv_has ls 4 [(0, .ref (ad 1)), (1, .int i0), (2, .ref (ad 167))] := hl
  refine lv_aload_n hx hb (idL_led (0, .aload_n 2, 1) (List.mem_of_getElem? (i := 0) rfl)) rfl (lv_at hl 2 rfl) ?_
  refine lv_iconst (v := 0) hx hb (idL_led (1, .iconst 0, 1) (List.mem_of_getElem? (i := 1) rfl)) (by decide) ?_
  refine lv_aload_n hx hb (idL_led (2, .aload_n 0, 1) (List.mem_of_getElem? (i := 2) rfl)) rfl (lv_at hl 0 rfl) ?_
  refine lv_iload_n hx hb (idL_led (3, .iload_n 1, 1) (List.mem_of_getElem? (i := 3) rfl)) rfl (lv_at hl 1 rfl) ?_
  intro T hT XT
  -- the call
  have he1 := wl_at (g := g) (ad := ad) a0 a1
  rw [en_o (c := 6) a2 (by decide)] at he1
  obtain ⟨cellB, hcB, hoB, hclB⟩ := va_recv hK hP (show vwCl[6]? = some (RX6, TX6, 14) from rfl) he1
  obtain ⟨mk', methM, hnamed, hmethM, hstM, habM⟩ := Cond.instanceMethod_spec (hts _ imX6_led)
  obtain ⟨methM', cM, hmethM', hcM, -, hlM, -, -, -, hsigM⟩ := Cond.code_spec hnamed (hts _ coX6_led)
  cases hmethM.symm.trans hmethM'
  obtain ⟨c2, r2, m2, q1, q2, q3, q4, kP, hkP, hkPi⟩ := Cond.selects_spec (hts _ seX6_led)
  cases hclB.symm.trans q1
  cases (State.methodFound?_of_named hnamed (by decide)).symm.trans q2
  cases hnamed.symm.trans q3
  have hselP : selectMethod e.platform s.vm cellB.cls mk' = .method mk' := by rw [Launch.admits_selectMethod XT.admits]; exact q4
  have hsg : ∀ sig, parseMethodDescriptor yX6_led.desc = some sig → [Value.int i0].length = sig.parameters.length := fun sig hsig => by
    have hd : (parseMethodDescriptor yX6_led.desc).map (fun d => d.parameters.length) = some 1 := by decide +kernel
    rw [hsig] at hd
    exact (Option.some.inj hd).symm
  have hd4 : decode c.code 4 = .ok (.invokevirtual 7, 3) := by rw [hb]; exact (idL_led (4, .invokevirtual 7, 3) (List.mem_of_getElem? (i := 4) rfl))
  obtain ⟨vm₁, X₁, hstep₁⟩ := XT.invokevirtual hx hown (hts _ mlL_7) hnamed hmethM hstM hkP hkPi (by decide) (a := ad 1) (cell := cellB) (by rw [hT]; exact hcB) (fun z hz => by rw [hz] at hoB; cases hoB) hselP hmethM habM hkP hkPi (g := F0 m 4 ls [.int i0, .ref (ad 1), .int 0, .ref (ad 167)]) rfl (argsL := [.int i0]) (rest := [.int 0, .ref (ad 167)]) (hsg _ hsigM) rfl hd4
  have hw1 : s.WarmedH (T.setVm vm₁).vm := X₁.warmed
  have hpre : (headSpec (wz uX6_led) (rz (d + 9) 1 6)).pre.before (([.ref 1, .int i0] : List Value).map (iv ad)).toArray (T.setVm vm₁) = true := atoms_intro fun w hw => by
    rcases List.mem_cons.mp hw with rfl | hw
    · exact word_at hw1 (good_of_word (List.mem_filter.mp coX6_led).2) (hts _ coX6_led)
    · exact word_at hw1 (good_of_word (List.mem_filter.mp hw).2) (hts _ hw)
  have hn1 : (T.setVm vm₁).methodNamed? yX6_led = some mk' := X₁.named hnamed
  obtain ⟨kY, hkY, -⟩ := className_of_methodNamed hn1
  have hcode1 : (Cond.code yX6_led cX6_led 4 (some .int)).before (([.ref 1, .int i0] : List Value).map (iv ad)).toArray (T.setVm vm₁) = true := word_at hw1 (good_of_word (List.mem_filter.mp coX6_led).2) (hts _ coX6_led)
  have hini1 : (Cond.initialized RX6).before (([.ref 1, .int i0] : List Value).map (iv ad)).toArray (T.setVm vm₁) = true := word_at hw1 (good_of_word (List.mem_filter.mp inX6).2) (hts _ inX6)
  obtain ⟨methY, cY, hmY, hcY, -, hlY, -, -, -, -⟩ := Cond.code_spec hn1 hcode1
  have hinitY : kY.init = .initialized := Cond.initialized_spec (findClass_of_methodNamed hn1) hkY hini1
  have hAt : At (T.setVm vm₁) m c below := X₁.here
  have hr8 : 2 * (F0 m 4 ls [.int 0, .ref (ad 167)]).monitorRoom + (([.int 0, .ref (ad 167)] : List Value).map fun v => v.category).sum ≤ 8 := lv_room (Nat.le_of_ble_eq_true rfl)
  have happ : (headSpec (wz uX6_led) (rz (d + 9) 1 6)).appliesLoose yX6_led e.platform ((T.setVm vm₁).calling (F0 m 4 ls [.int 0, .ref (ad 167)]) mk' (([.ref 1, .int i0] : List Value).map (iv ad)).toArray) = true :=
    Spec.appliesLoose_calling (g := F0 m 4 ls [.int 0, .ref (ad 167)]) hAt hd4 hn1 hkY hinitY
      (X₁.room_calling (g := F0 m 4 ls [.int 0, .ref (ad 167)]) (R' := (headSpec (wz uX6_led) (rz (d + 9) 1 6)).room) (hl.1.trans hml.symm) hmY hcY (by show d + 9 + 1 ≤ d + 10; omega) (by rw [hlY]; show 2 * (F0 m 4 ls [.int 0, .ref (ad 167)]).monitorRoom + (([.int 0, .ref (ad 167)] : List Value).map fun v => v.category).sum + (4 + 11) + 64 * (d + 9) ≤ 64 * (d + 10); omega) (Nat.le_refl _) (Nat.le_refl _)) hpre
  obtain ⟨mid, hmid⟩ := hAt.above
  have hfr : ((T.setVm vm₁).setTop (F0 m 4 ls [.int 0, .ref (ad 167)])).frames = (.java (F0 m 4 ls [.int 0, .ref (ad 167)]) :: mid) ++ below := by rw [State.frames_setTop' _ hAt.top, hmid]; rfl
  have hpz := pz_pre (av := [.ref 1, .int i0]) (X := X) hP hD hA hk hn hs
  obtain ⟨o, s₂, hsteps, -, hend, hq⟩ := Steps.callFree (led6 (X := X) (i0 := i0) (d := d) hl0 hI he0 D g ad A) p XT.admits XT.cas XT.clock (acts := []) hfr happ (hpz.1 _ _ (F0 m 4 ls [.int 0, .ref (ad 167)]) mk' (hpz.2 (T.setVm vm₁) hT hw1)) trivial
  obtain ⟨hq, hP2, hF2⟩ := hq
  have hF3 : s.heap.size ≤ s₂.heap.size ∧ ∀ q : Nat, q < s.heap.size → ¬ A q → s₂.heap[q]? = s.heap[q]? := by
    have z : T.heap.size ≤ s₂.heap.size ∧ ∀ q : Nat, q < T.heap.size → ¬ A q → s₂.heap[q]? = T.heap[q]? := hF2
    rw [hT] at z
    exact z
  rcases hq with ⟨v, L, rfl, hW2, hsame, hL⟩ | ⟨x, ce, L, rfl, hW2, hsame, hL, hce, hcls, hvm⟩
  · have hend : Ended s₂ (.java (F0 m 4 ls [.int 0, .ref (ad 167)]) :: below) (.returned (some (.int v))) := by
      have z := hend
      rw [State.frames_setTop' _ hAt.top, X₁.tail] at z
      exact z
    obtain ⟨T', X', hWT, hsT, hs2⟩ := X₁.outOf (g := F0 m 4 ls [.int 0, .ref (ad 167)]) rfl hd4 hend hW2 hsame
    have hheap : s₂.heap = T'.heap := by rw [hs2]; rfl
    rw [hheap] at hP2 hF3
    have hS' : va_S A s.heap T'.heap ([] ++ L) := ⟨hF3.1, hF3.2, fun y hy => hL y hy⟩
    have hw7 : W p l e (headSpec wzL (rz (d + 10) 1 6)).room s m (([.ref 1, .int i0, .ref 167] : List Value).map (iv ad)).toArray below meth c T'.heap ([] ++ L) (mC M - mC M) (mS M - mS M) (MQ below (qz D g ad A false M kr) (([.ref 1, .int i0, .ref 167] : List Value).map (iv ad)).toArray s 1 6 A) (F0 m 7 ls (([.int v, .int 0, .ref 167] : List Value).map (iv ad))) := by
      refine lled_tail (l := l) (X := X) (d := d + 10) (na := true) (b := (mC M, mS M)) (kr := fun r M' => r = some (.int 0) ∧ ∃ w : Int64, M' = wL M 167 0 w) k167 hlen (fun w => ⟨rfl, w, rfl⟩) p e (headSpec wzL (rz (d + 10) 1 6)).room s m _ below meth c _ D g ad A (mN M) M.1 (mC M) (mS M) ad T'.heap ([] ++ L) ls hfx (Nat.le_refl (d + 10)) (Nat.le_refl (64 * (d + 10))) (Nat.le_add_left _ _) (Nat.le_add_left _ _) (Nat.le_refl _) (Nat.le_refl _) (Nat.le_refl _) (Nat.le_refl _) ⟨hP2, hD, hS', hk, Nat.le_refl _, hn, fun _ _ => rfl, fun _ => ⟨rfl, rfl⟩⟩ ⟨hl.1, hl.2.1, fun y hy => absurd hy List.not_mem_nil⟩ (fun pc' r M' ad' H' locs' la' hkr hr g5 g6 g7 g8 ht => ?_)
      obtain ⟨rfl, w, rfl⟩ := hkr
      obtain ⟨r1, r2, r3, r4, r5, r6, r7, r8⟩ := hr
      obtain ⟨rfl, -⟩ := r8 rfl
      rcases ht with ⟨v', ty, e0, e1, e2, e3⟩ | ⟨v', e0, -⟩ | ⟨e0, -⟩
      · have w3 : mC (wL M 167 0 w) = mC M := rfl
        have w4 : mS (wL M 167 0 w) = mS M := rfl
        refine W.widen (k := 1) (n := 6) (by omega) (by omega) ?_
        cases e0
        refine W.zret (ty := ty) hx hb (B.returns.trans e1) e2 (fun t e1 _ => ?_) r3.2.2 e3 hlocks
        exact ⟨some (.int 0), gw (wL M 167 0 w), ad', rfl, h0 w, fun z => (by cases z), fun _ _ => rfl, Nat.le_refl _, hn, r4, by rw [e1, wl_gw]; exact r1, r2, r3.F e1⟩
      · cases e0
      · cases e0
    rw [Nat.sub_self, Nat.sub_self] at hw7
    obtain ⟨t2, b1, b2⟩ := hw7 T' rfl X'
    refine ⟨t2, hstep₁ t2 (fun acts => ?_), b2⟩
    rw [doInvoke_state]
    rw [hs2] at hsteps
    have ei : ([.int v, .int 0, .ref 167] : List Value).map (iv ad) = [.int v, .int 0, .ref (ad 167)] := rfl
    rw [ei] at b1
    exact hsteps.trans b1
  · have hend : Ended s₂ (.java (F0 m 4 ls [.int 0, .ref (ad 167)]) :: below) (.threw x) := by
      have z := hend
      rw [State.frames_setTop' _ hAt.top, X₁.tail] at z
      exact z
    obtain ⟨T', X', hWT, hsT, hs2⟩ := X₁.outOfThrown (g := F0 m 4 ls [.int 0, .ref (ad 167)]) rfl hend hW2 hsame
    have hheap : T'.heap = s₂.heap := by rw [hs2, Stand.throwing_heap]
    have hfx2 : s.vm.findClass NSE = some ce.cls := by
      have z : (T.setVm vm₁).vm.findClass NSE = some ce.cls := hcls
      rw [hw1.alike.findClass] at z
      exact z
    obtain ⟨vm', X'', hcatch⟩ := ct_catch X' hown (hts _ clL_13) (va_Nw.use rfl hs.2.2.1.2.2.2.1) htab (by rw [hheap]; exact hce) hvm hfx2 (g := F0 m 4 ls [.int 0, .ref (ad 167)]) rfl (show 4 < 9 by decide)
    rw [← hheap] at hP2 hF3
    have hS' : va_S A s.heap T'.heap ([] ++ L) := ⟨hF3.1, hF3.2, fun y hy => hL y hy⟩
    have hend12 : W p l e (headSpec wzL (rz (d + 10) 1 6)).room s m (([.ref 1, .int i0, .ref 167] : List Value).map (iv ad)).toArray below meth c T'.heap ([] ++ L) (0 + 1) (0 + 6) (MQ below (qz D g ad A false M kr) (([.ref 1, .int i0, .ref 167] : List Value).map (iv ad)).toArray s 1 6 A) (F0 m 12 ls [.ref x]) := by
      refine lv_astore_n (lv' := [(3, .ref x), (0, .ref (ad 1)), (1, .int i0), (2, .ref (ad 167))]) hx hb (idL_led (12, .astore_n 3, 1) (List.mem_of_getElem? (i := 8) rfl)) rfl hl (by decide) rfl (fun ls hl => ?_)
      refine lv_iconst (v := 1) hx hb (idL_led (13, .iconst 1, 1) (List.mem_of_getElem? (i := 9) rfl)) (by decide) ?_
      refine W.zret (ty := .int) hx hb B.returns rfl (fun t e1 _ => ?_) hS'.2.2 (idL_led (14, .ireturn, 1) (List.mem_of_getElem? (i := 10) rfl)) hlocks
      exact ⟨some (.int 1), gw M, ad, rfl, h1, fun z => (by cases z), fun _ _ => rfl, Nat.le_refl _, hn, hk, by rw [e1, wl_gw]; exact hP2, hD, hS'.F e1⟩
    obtain ⟨t2, b1, b2⟩ := hend12 (T'.setVm vm') rfl X''
    refine ⟨t2, hstep₁ t2 (fun acts => ?_), b2⟩
    rw [doInvoke_state]
    rw [hs2] at hsteps
    exact hsteps.trans (hcatch t2 b1)
end LLED
