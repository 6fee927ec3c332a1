def ilL_led : List (Nat × Instr × Nat) := [(0, .aload_n 2, 1), (1, .iconst 0, 1), (2, .aload_n 0, 1), (3, .iload_n 1, 1), (4, .invokevirtual 7, 3), (7, .i2l, 1), (8, .lastore, 1), (9, .goto 6, 3), (12, .astore_n 3, 1), (13, .iconst 1, 1), (14, .ireturn, 1), (15, .iconst 0, 1), (16, .ireturn, 1)]
theorem idL_led : ∀ x ∈ ilL_led, decode cL_led x.1 = .ok x.2 := by decide +kernel
theorem mlL_7 : Cond.methodLink RL 7 yX6_led ∈ wB := wB_of 1175 (by decide +kernel) (by decide +kernel)
theorem clL_13 : Cond.classLink RL 13 NSE ∈ wB := wB_of 1174 (by decide +kernel) (by decide +kernel)
theorem imX6_led : Cond.instanceMethod yX6_led ∈ wB := wB_of 1176 (by decide +kernel) (by decide +kernel)
theorem seX6_led : Cond.selects RX6 yX6_led yX6_led ∈ wB := wB_of 1177 (by decide +kernel) (by decide +kernel)
theorem coX6_led : Cond.code yX6_led cX6_led 4 (some .int) ∈ wB := wB_of 1178 (by decide +kernel) (by decide +kernel)
theorem inX6 : Cond.initialized RX6 ∈ wB := wB_of 127 (by decide +kernel) (by decide +kernel)
/-- the law's own led: its words -/
def wzL : List Cond := .codeWith yL_led cL_led 4 (some .int) [(0, 9, 12, 13)] :: wB
theorem cwL_led : Cond.codeWith yL_led cL_led 4 (some .int) [(0, 9, 12, 13)] ∈ wB := wB_of 1173 (by decide +kernel) (by decide +kernel)
section CATCH
variable {p : Program} {l : Launch} {e : Env} {R : Room} {s : State} {m : MethodId} {args : Array Value} {below : List Frame} {meth : Method} {c : Code} {T : State} {locs : List Loc} {cells slots : Nat}
/-- a NoSuchElementException comes to the law's own handler -/
theorem ct_catch (Xs : Stand p l e R s m args below meth c T locs cells slots) (hown : s.vm.findClass RL = some m.cls) (hcl : (Cond.classLink RL 13 NSE).before args s = true) (hcast : (Cond.castable NSE NSE).before args s = true) (htab : c.exceptionTable.toList.map (fun h => (h.startPc, h.endPc, h.handlerPc, h.catchType)) = [(0, 9, 12, 13)]) {x : Addr} {ce : Cell} (hce : T.heap[x]? = some ce) (hvm : ce.vm = .none) (hcls : s.vm.findClass NSE = some ce.cls) {g : JFrame} (hg : g.method = m) (hpc : g.pc < 9) :
    ∃ vm', Stand p l e R s m args below meth c (T.setVm vm') locs cells slots ∧ ∀ target, Steps p.tables e below ((T.setVm vm').setTop { g with pc := 12, stack := [.ref x] }) target → Steps p.tables e below ((T.setTop g).pushFrame (.throwing x)) target := by
  have hpl : e.platform.magicAccessors = ({} : Platform).magicAccessors := by rw [Xs.admits.platform]
  obtain ⟨c0, hf0, hlk⟩ := Cond.classLink_spec hown hcl e.platform hpl
  cases hcls.symm.trans hf0
  obtain ⟨hgv, hwarm, -⟩ := State.classEntry (e := e) Xs.warmed hlk
  have hal : T.vm.Alike (T.vm.noted m.cls 13 (.cls ce.cls)) := (Vm.Alike.refl T.vm).noted _ _ _
  have hsz : (T.vm.noted m.cls 13 (.cls ce.cls)).classes.size ≤ T.vm.classes.size := hal.size_le
  generalize T.vm.noted m.cls 13 (.cls ce.cls) = vm' at hgv hwarm hsz
  refine ⟨vm', Xs.noted hwarm, fun target hrest => ?_⟩
  obtain ⟨x0, hx0, hx1⟩ : ∃ x0, c.exceptionTable.toList = [x0] ∧ (x0.startPc = 0 ∧ x0.endPc = 9 ∧ x0.handlerPc = 12 ∧ x0.catchType = 13) := by
    cases hl : c.exceptionTable.toList with
    | nil => rw [hl] at htab; cases htab
    | cons y t =>
      rw [hl] at htab
      cases t with
      | nil => simp only [List.map_cons, List.map_nil, List.cons.injEq, Prod.mk.injEq, and_true] at htab; exact ⟨y, rfl, htab.1, htab.2.1, htab.2.2.1, htab.2.2.2⟩
      | cons z t => simp at htab
  subst hg
  have hm : ((T.setTop g).pushFrame (.throwing x)).vm.method? g.method = some meth := by rw [Stand.throwing_vm]; exact Xs.method'
  have hcell : ((T.setTop g).pushFrame (.throwing x)).heap[x]? = some ce := by rw [Stand.throwing_heap]; exact hce
  obtain ⟨ho1, ho2⟩ := hgv.op (op := VmOp.resolveClass g.method.cls 13) rfl
  obtain ⟨cA, cB, r1, r2, hasg⟩ := Cond.castable_spec hcast
  cases r1.symm.trans hcls
  cases r2.symm.trans hcls
  obtain ⟨k1, hk1⟩ := Vm.classAt_of_findClass hcls
  obtain ⟨k2, hk2, -⟩ := hwarm.alike.2.2 _ _ hk1
  have has2 : vm'.assignable ce.cls ce.cls = true := by rw [hwarm.alike.assignable]; exact hasg
  have hfind : ∀ (Q : Handler → Pre) (E : CtlPost) (dd : Bool) (acts : List Action), wp (findHandler g x) Q E e dd acts ((T.setTop g).pushFrame (.throwing x)) ↔ Q (.found 12) dd acts (((T.setTop g).pushFrame (.throwing x)).setVm vm') := by
    intro Q E dd acts
    rw [W.findHandler_eq hm Xs.code, hx0]
    have hv : ((T.setTop g).pushFrame (.throwing x)).vm = T.vm := Stand.throwing_vm T g x
    have hob : ∀ k, ce.vm ≠ .statics k := fun k z => by rw [hvm] at z; cases z
    have hla := VmOp.lands_eq (op := VmOp.resolveClass g.method.cls 13) (e := e) (s := (T.setTop g).pushFrame (.throwing x)) (vm' := vm') (by rw [hv]; exact ho2) (by rw [hv]; exact hsz)
    rw [← hv] at ho1 ho2
    simp [findHandler.go, hx1.1, hx1.2.1, hx1.2.2.1, hx1.2.2.2, hpc, ho1, ho2, hla, hcell, hob, hk2, has2, VmOp.dirties, VmOp.acts]
  have h : At T g.method c below := Xs.here
  obtain ⟨hgo, hw⟩ := h.throwing x
  refine Steps.head hgo hw ?_
  have hst : (stepThrowing e ((T.setTop g).pushFrame (.throwing x)) x (.java g :: T.frames.tail)).Is ((((T.setTop g).pushFrame (.throwing x)).setVm vm').setFrames (.java { g with pc := 12, stack := [.ref x] } :: T.frames.tail)) [] := by
    simp only [stepThrowing, searchFrame, vmDo]
    generalize hr : Sem.go _ e false [] ((T.setTop g).pushFrame (.throwing x)) = res
    obtain ⟨as, rfl, ha⟩ := Sem.eq_ok_of hr (a := Handler.found 12) (s' := ((T.setTop g).pushFrame (.throwing x)).setVm vm') (acts' := []) (by simp [hfind _ _ _ _])
    exact ⟨rfl, ha⟩
  rw [stepThread_throwing (frames_entered h.top _), hst.1]
  obtain ⟨g₀, hg0⟩ := Option.isSome_iff_exists.mp h.top
  obtain ⟨r, hr⟩ := State.topJava?_eq_some.mp hg0
  have hr' : (T.setVm vm').frames = .java g₀ :: r := hr
  rw [State.setTop_of_frames _ hr'] at hrest
  have e1 : ∀ (u : State) (F G : List Frame), ((u.setFrames F).setVm vm').setFrames G = (u.setVm vm').setFrames G := fun u F G => by
    show ((u.setVm vm').setFrames F).setFrames G = _
    rw [State.setFrames_setFrames]
  rw [hr, List.tail_cons, State.pushFrame, e1, State.setTop_of_frames _ hr, e1]
  exact hrest
end CATCH
