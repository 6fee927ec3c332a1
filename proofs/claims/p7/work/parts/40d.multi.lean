/-! an array of 6 rows of 5 ints (multianewarray) -/
section MULTI
theorem nw_array {E : CtlPost} {e : Env} {d : Bool} {acts : List Action} {s : State} {cA comp : ClassId} {k : Class} {ty : FieldType} {n : Nat} {v : Value} (hk : s.vm.classes[cA]? = some k) (hkind : k.kind = .array comp ty) (hlim : n ≤ e.platform.arrayLengthLimit) (hby : n * componentBytes ty ≤ e.platform.maxHeapBytes) (hf : fits ty v = true) (hdf : v.isDefault = true) (h1 : s.heap.size < e.platform.maxCells) (h2 : s.slotsUsed + n ≤ e.platform.maxSlots)
    {Q : Addr → Pre} (hq : Q s.heap.size d acts (s.pushCell { cls := cA, slots := Array.replicate n v, vm := .none })) : wp (Jvm.newArray cA n v) Q E e d acts s := by
  have g1 : ¬ n > e.platform.arrayLengthLimit := Nat.not_lt.mpr hlim
  have g2 : ¬ n * componentBytes ty > e.platform.maxHeapBytes := Nat.not_lt.mpr hby
  have g3 : allocActs (Array.replicate n v) s.heap.size acts = acts := by
    unfold allocActs
    rw [if_pos]
    rw [Array.all_replicate]
    split
    · rfl
    · exact hdf
  have g4 : ∀ i w, (Array.replicate n v)[i]? = some w → s.fitsSlot cA .none i w = true := fun i w hw => by
    rw [Array.getElem?_replicate] at hw
    split at hw
    · cases hw
      simp [State.fitsSlot, State.slotType?, hk, hkind, hf]
    · cases hw
  simp only [Jvm.newArray, Jvm.arrayFits, wp_bind', W.ask, W.ite, g1, if_false, wp_pure', W.theClass, hk, hkind, g2, W.alloc, W.stop, Option.some.injEq, exists_eq_left', Array.size_replicate, g3]
  split
  · omega
  · exact ⟨h1, h2, g4, hq⟩
/-- the outer row, i places of it filled -/
def mo (cA : ClassId) (h i : Nat) : Cell := arrV cA 6 (fun j => if j < i then .ref (h + 1 + j) else .null)
def mi (comp : ClassId) : Cell := arrV comp 5 (fun _ => .int 0)
theorem mo_0 (cA : ClassId) (h : Nat) : ({ cls := cA, slots := Array.replicate 6 .null, vm := .none } : Cell) = mo cA h 0 := arrV_new cA 6 .null
theorem mi_0 (comp : ClassId) : ({ cls := comp, slots := Array.replicate 5 (.int 0), vm := .none } : Cell) = mi comp := arrV_new comp 5 (.int 0)
theorem mo_s (cA : ClassId) (h i : Nat) : (mo cA h i).setSlot i (.ref (h + 1 + i)) = mo cA h (i + 1) := by
  unfold mo
  rw [arrV_store]
  congr 1
  funext j
  unfold updV
  by_cases hj : j = i
  · subst hj; simp
  · by_cases hl : j < i
    · simp [hj, hl, Nat.lt_succ_of_lt hl]
    · simp [hj, hl, show ¬ j < i + 1 by omega]
end MULTI
section MULTIW
variable {p : Program} {l : Launch} {e : Env} {R : Room} {s : State} {m : MethodId} {args : Array Value} {below : List Frame} {meth : Method} {c : Code} {locs : List Loc} {cells slots : Nat} {Q : State → Prop}
/-- behind i rows -/
def mJ (p : Program) (l : Launch) (e : Env) (R : Room) (s : State) (m : MethodId) (args : Array Value) (below : List Frame) (meth : Method) (c : Code) (locs : List Loc) (cells slots : Nat) (H : Heap) (vm1 : Vm) (cA comp : ClassId) (i : Nat) (U : State) : Prop :=
  Stand p l e R s m args below meth c U locs (cells + 1 + i) (slots + 6 + 5 * i) ∧ U.vm = vm1 ∧ U.heap.size = H.size + 1 + i ∧ (∀ a, a < H.size → U.heap[a]? = H[a]?) ∧ U.heap[H.size]? = some (mo cA H.size i) ∧ ∀ j, j < i → U.heap[H.size + 1 + j]? = some (mi comp)
theorem mJ_0 {H : Heap} {U : State} {cA comp : ClassId} (X : Stand p l e R s m args below meth c U locs cells slots) (hU : U.heap = H) : mJ p l e R s m args below meth c locs cells slots H U.vm cA comp 0 (U.pushCell (mo cA H.size 0)) := by
  subst hU
  have h := X.pushed (mo cA U.heap.size 0)
  rw [show (mo cA U.heap.size 0).slots.size = 6 from arrV_size _ _ _] at h
  refine ⟨h, rfl, ?_, fun a ha => State.heap_pushCell_of_lt _ _ ha, State.heap_pushCell_size _ _, fun j hj => absurd hj (Nat.not_lt_zero _)⟩
  show (U.heap.push _).size = _
  rw [Array.size_push]
theorem mJ_s {H : Heap} {U : State} {vm1 : Vm} {cA comp : ClassId} {i : Nat} (hn : s.heap.size ≤ H.size) (h : mJ p l e R s m args below meth c locs cells slots H vm1 cA comp i U) : mJ p l e R s m args below meth c locs cells slots H vm1 cA comp (i + 1) ((U.pushCell (mi comp)).setCell H.size ((mo cA H.size i).setSlot i (.ref U.heap.size))) := by
  obtain ⟨X, h1, h2, h3, h4, h5⟩ := h
  have hlt : H.size < U.heap.size := by omega
  have hc : (U.pushCell (mi comp)).heap[H.size]? = some (mo cA H.size i) := by rw [State.heap_pushCell_of_lt (h := hlt)]; exact h4
  have hX := ((X.pushed (mi comp)).stored hc i (.ref U.heap.size)).forget (fun y hy => by rw [List.mem_singleton.mp hy]; exact hn)
  rw [show (mi comp).slots.size = 5 from arrV_size _ _ _] at hX
  have hsz : ((U.pushCell (mi comp)).setCell H.size ((mo cA H.size i).setSlot i (.ref U.heap.size))).heap.size = H.size + 1 + (i + 1) := by
    simp [State.setCell, State.pushCell, h2]
    omega
  refine ⟨by rw [show cells + 1 + (i + 1) = cells + 1 + i + 1 by omega, show slots + 6 + 5 * (i + 1) = slots + 6 + 5 * i + 5 by omega]; exact hX, h1, hsz, fun a ha => ?_, ?_, fun j hj => ?_⟩
  · rw [State.heap_setCell_other (show H.size ≠ a by omega), State.heap_pushCell_of_lt (h := show a < U.heap.size by omega)]
    exact h3 a ha
  · rw [State.heap_setCell_self hc, h2, ← mo_s]
  · rw [State.heap_setCell_other (show H.size ≠ H.size + 1 + j by omega)]
    by_cases hji : j < i
    · rw [State.heap_pushCell_of_lt (h := show H.size + 1 + j < U.heap.size by omega)]
      exact h5 j hji
    · rw [show H.size + 1 + j = U.heap.size by omega]
      exact State.heap_pushCell_size _ _
/-- the states behind the rows -/
def mU (cA comp : ClassId) (h : Nat) (U : State) : Nat → State
  | 0 => U.pushCell (mo cA h 0)
  | i + 1 => ((mU cA comp h U i).pushCell (mi comp)).setCell h ((mo cA h i).setSlot i (.ref (mU cA comp h U i).heap.size))
theorem mU_top (cA comp : ClassId) (h : Nat) (U : State) (f : JFrame) : ∀ i, mU cA comp h (U.setTop f) i = (mU cA comp h U i).setTop f
  | 0 => by simp only [mU, State.pushCell_setTop]
  | i + 1 => by simp only [mU, mU_top cA comp h U f i, State.heap_setTop, State.pushCell_setTop, State.setCell_setTop]
theorem mU_J {H : Heap} {U : State} {vm1 : Vm} {cA comp : ClassId} (hn : s.heap.size ≤ H.size) (h0 : mJ p l e R s m args below meth c locs cells slots H vm1 cA comp 0 (mU cA comp H.size U 0)) : ∀ i, mJ p l e R s m args below meth c locs cells slots H vm1 cA comp i (mU cA comp H.size U i)
  | 0 => h0
  | i + 1 => mJ_s hn (mU_J hn h0 i)
theorem wp_make65 {E : CtlPost} {d : Bool} {acts : List Action} {S : State} {cA comp c3 : ClassId} {k kc : Class} (hk : S.vm.classes[cA]? = some k) (hkind : k.kind = .array comp (.array .int)) (hkc : S.vm.classes[comp]? = some kc) (hkindc : kc.kind = .array c3 .int) (hlim : 100 ≤ e.platform.arrayLengthLimit) (hby : 1000 ≤ e.platform.maxHeapBytes)
    (hrow : ∀ i, (mU cA comp S.heap.size S i).heap.size = S.heap.size + 1 + i ∧ (mU cA comp S.heap.size S i).vm = S.vm ∧ (mU cA comp S.heap.size S i).heap[S.heap.size]? = some (mo cA S.heap.size i)) (r1 : S.heap.size < e.platform.maxCells) (r2 : S.slotsUsed + 6 ≤ e.platform.maxSlots) (r3 : ∀ i, i < 6 → (mU cA comp S.heap.size S i).heap.size < e.platform.maxCells ∧ (mU cA comp S.heap.size S i).slotsUsed + 5 ≤ e.platform.maxSlots)
    {Q : Addr → Pre} (hq : ∀ d' acts', Q S.heap.size d' acts' (mU cA comp S.heap.size S 6)) : wp (multianewarray.make cA [6, 5]) Q E e d acts S := by
  have n6 : ¬ (6 : Int32) < 0 := by decide
  have n5 : ¬ (5 : Int32) < 0 := by decide
  have t6 : (6 : Int32).toNatClampNeg = 6 := by decide
  have t5 : (5 : Int32).toNatClampNeg = 5 := by decide
  have z6 : ((6 : Int32) == 0) = false := by decide
  rw [multianewarray.make]
  simp only [wp_bind', W.ite, n6, if_false, wp_pure', W.theClass, hk, hkind, Option.some.injEq, exists_eq_left', t6, z6]
  refine nw_array hk hkind (by omega) (by show 6 * 4 ≤ _; omega) rfl rfl r1 r2 ?_
  rw [mo_0 cA S.heap.size]
  simp only [Bool.false_eq_true, if_false, wp_pure', wp_bind']
  rw [Std.Legacy.Range.forIn_eq_forIn_range']
  show wp (forIn (List.range' 0 6 1) PUnit.unit _) _ E e d acts _
  refine wp_forIn_inv (fun rest s' => ∃ i, rest = List.range' i (6 - i) ∧ i ≤ 6 ∧ s' = mU cA comp S.heap.size S i) _ _ ⟨0, rfl, by decide, rfl⟩ ?_ ?_
  · rintro x rest s' d' acts' Q' ⟨i, h1, h2, rfl⟩ hnext
    have hi : i < 6 := by
      rcases Nat.lt_or_ge i 6 with z | z
      · exact z
      · rw [show 6 - i = 0 by omega] at h1; cases h1
    rw [show 6 - i = (6 - (i + 1)) + 1 by omega, List.range'_succ] at h1
    obtain ⟨rfl, rfl⟩ := List.cons.inj h1
    obtain ⟨f1, f2, f3⟩ := hrow x
    obtain ⟨g1, g2⟩ := r3 x hi
    have hkc' : (mU cA comp S.heap.size S x).vm.classes[comp]? = some kc := by rw [f2]; exact hkc
    have hk' : (mU cA comp S.heap.size S x).vm.classes[cA]? = some k := by rw [f2]; exact hk
    simp only [wp_bind']
    rw [multianewarray.make]
    simp only [wp_bind', W.ite, n5, if_false, wp_pure', W.theClass, hkc', hkindc, Option.some.injEq, exists_eq_left', t5]
    refine nw_array hkc' hkindc (by omega) (by show 5 * 4 ≤ _; omega) rfl rfl g1 g2 ?_
    rw [show defaultValue .int = .int 0 from rfl, mi_0]
    have hlt : S.heap.size < (mU cA comp S.heap.size S x).heap.size := by omega
    simp only [wp_bind', W.writeLoc, wp_pure']
    refine ⟨mo cA S.heap.size x, by rw [State.heap_pushCell_of_lt (h := hlt)]; exact f3, fun z => (by cases z), by rw [show (mo cA S.heap.size x).slots.size = 6 from arrV_size _ _ _]; exact hi, ?_, hnext _ _ _ ⟨x + 1, rfl, by omega, rfl⟩⟩
    show State.fitsSlot _ cA .none x _ = true
    simp [State.fitsSlot, State.slotType?, hk', hkind]
    rfl
  · rintro s' d' acts' ⟨i, h1, h2, rfl⟩
    have hi : i = 6 := by
      rcases Nat.lt_or_ge i 6 with z | z
      · rw [show 6 - i = (6 - (i + 1)) + 1 by omega, List.range'_succ] at h1; cases h1
      · omega
    subst hi
    simp only [wp_pure']
    exact hq _ _
theorem W_multi {H : Heap} {cc : ByteArray} (hexec : p.tables.exec = Jvm.exec) (hb : c.code = cc) {own : String} {idx : Nat} (hown : s.vm.findClass own = some m.cls) (hcl : (Cond.classLink own idx "[[I").before args s = true) {cA comp c3 : ClassId} {kA kC : Class} (hA : s.vm.findClass "[[I" = some cA) (hkA : s.vm.classes[cA]? = some kA) (hkindA : kA.kind = .array comp (.array .int)) (hkC : s.vm.classes[comp]? = some kC) (hkindC : kC.kind = .array c3 .int) {pc : Nat} {ls : Array Slot} {rest : List Value} (hdg : decode cc pc = .ok (.multianewarray idx 2, 4)) (hcells : cells + 7 ≤ R.cells) (hslots : slots + 36 ≤ R.slots) (hn : s.heap.size ≤ H.size)
    (kk : ∀ H1 : Heap, H1.size = H.size + 7 → (∀ a, a < H.size → H1[a]? = H[a]?) → H1[H.size]? = some (mo cA H.size 6) → (∀ j, j < 6 → H1[H.size + 1 + j]? = some (mi comp)) → W p l e R s m args below meth c H1 locs (cells + 7) (slots + 36) Q (F0 m (pc + 4) ls (.ref H.size :: rest))) : W p l e R s m args below meth c H locs cells slots Q (F0 m pc ls (.int 5 :: .int 6 :: rest)) := by
  intro T hT X
  subst hb
  have hpl : e.platform.magicAccessors = ({} : Platform).magicAccessors := by rw [X.admits.platform]
  obtain ⟨c0, hfc0, hlk⟩ := Cond.classLink_spec hown hcl e.platform hpl
  cases hA.symm.trans hfc0
  obtain ⟨hg₁, hwarm₁, -⟩ := State.classEntry (e := e) X.warmed hlk
  generalize T.vm.noted m.cls idx (.cls cA) = vm₁ at hg₁ hwarm₁
  obtain ⟨kA₁, hkA₁, heA⟩ := hwarm₁.alike.2.2 _ _ hkA
  obtain ⟨kC₁, hkC₁, heC⟩ := hwarm₁.alike.2.2 _ _ hkC
  have hkindA₁ : kA₁.kind = .array comp (.array .int) := by rw [heA]; exact hkindA
  have hkindC₁ : kC₁.kind = .array c3 .int := by rw [heC]; exact hkindC
  have X₁ := X.noted hwarm₁
  have J0 : mJ p l e R s m args below meth c locs cells slots H vm₁ cA comp 0 ((T.setVm vm₁).pushCell (mo cA H.size 0)) := mJ_0 X₁ hT
  have hll : e.platform.arrayLengthLimit = 2147483645 := Launch.admits_arrayLengthLimit X.admits
  have hhb : e.platform.maxHeapBytes = 536870912 := Launch.admits_maxHeapBytes X.admits
  have J := mU_J (U := T.setVm vm₁) hn J0
  obtain ⟨t, ht, hq⟩ := kk (mU cA comp H.size (T.setVm vm₁) 6).heap (J 6).2.2.1 (J 6).2.2.2.1 (J 6).2.2.2.2.1 (J 6).2.2.2.2.2 _ rfl (J 6).1
  refine ⟨t, ?_, hq⟩
  have eh : (T.setVm vm₁).heap.size = H.size := by rw [← hT]; rfl
  have r0 := X₁.roomAbove hcells hslots
  jvm_step X.here [hexec, hdg]
  simp only [multianewarray.sem, wp_bind', W.resolveClassAt_links (State.method?_setTop (F0 m pc ls (.int 5 :: .int 6 :: rest)) X.here.top) hg₁]
  rw [W.popN, if_neg (by decide)]
  refine ⟨F0 m pc ls (.int 5 :: .int 6 :: rest), State.topJava?_setTop' (s := T.setVm vm₁) _ X.here.top, [.int 6, .int 5], rest, rfl, rfl, ?_⟩
  simp only [List.mapM_cons, List.mapM_nil, wp_bind', wp_pure']
  have eS : ((T.setTop (F0 m pc ls (.int 5 :: .int 6 :: rest))).setVm vm₁).setTop (F0 m pc ls rest) = (T.setVm vm₁).setTop (F0 m pc ls rest) := by
    show ((T.setVm vm₁).setTop (F0 m pc ls (.int 5 :: .int 6 :: rest))).setTop _ = _
    rw [State.setTop_setTop]
  rw [eS]
  have eT : ∀ i, mU cA comp H.size ((T.setVm vm₁).setTop (F0 m pc ls rest)) i = (mU cA comp H.size (T.setVm vm₁) i).setTop (F0 m pc ls rest) := mU_top cA comp H.size (T.setVm vm₁) (F0 m pc ls rest)
  have eh2 : ((T.setVm vm₁).setTop (F0 m pc ls rest)).heap.size = H.size := by rw [State.heap_setTop]; exact eh
  refine wp_make65 (k := kA₁) (kc := kC₁) (comp := comp) (c3 := c3) hkA₁ hkindA₁ hkC₁ hkindC₁ (by omega) (by omega) (fun i => ?_) ?_ ?_ (fun i hi => ?_) (fun d' acts' => ?_)
  · rw [eh2, eT]
    obtain ⟨j0, j1, j2, j3, j4, j5⟩ := J i
    exact ⟨by rw [State.heap_setTop]; exact j2, j1, by rw [State.heap_setTop]; exact j4⟩
  · rw [eh2]
    have := r0.1
    omega
  · have := r0.2
    show (T.setVm vm₁).slotsUsed + 6 ≤ _
    omega
  · rw [eh2, eT]
    obtain ⟨j0, j1, j2, j3, j4, j5⟩ := J i
    have z := j0.roomAbove (a := 1) (b := 5) (by omega) (by omega)
    exact ⟨by rw [State.heap_setTop]; omega, z.2⟩
  · rw [eh2, eT]
    have XF := (J 6).1
    simp only [wp_bind', W.mark, W.pushRef, State.topJava?_setTop' _ XF.here.top, Option.some.injEq, exists_eq_left', State.setTop_setTop, State.heap_setTop]
    intro acts
    simp [jvm, XF.here.top]
    exact ht
end MULTIW
section MULTIO
variable {l : Launch} {X : Nat × (Nat → Int32)} {q : Md} {d : Nat} {b : Nat × Nat} {pc : Nat}
def wM (M : Mm) : Mm := ((mN M + 7, mC M + 7, mS M + 36, fun a => if a = mN M + 1 then (12, 6) else if mN M < a ∧ a ≤ mN M + 7 then (9, 5) else mK M a), (fun a j => if mN M < a ∧ a ≤ mN M + 7 then 0 else M.2.1 a j), (fun a j => if mN M < a ∧ a ≤ mN M + 7 then 0 else M.2.2.1 a j), fun a j => if a = mN M + 1 then (if j < 6 then mN M + 2 + j else 0) else if mN M < a ∧ a ≤ mN M + 7 then 0 else M.2.2.2 a j)
theorem wM_old {M : Mm} : old M (wM M) := by
  intro a ha
  have h1 : ¬ a = mN M + 1 := by omega
  have h2 : ¬ (mN M < a ∧ a ≤ mN M + 7) := by omega
  refine ⟨?_, ?_, ?_, ?_⟩
  · show (if a = mN M + 1 then (12, 6) else if mN M < a ∧ a ≤ mN M + 7 then (9, 5) else mK M a) = _
    rw [if_neg h1, if_neg h2]
  · funext j; exact if_neg h2
  · funext j; exact if_neg h2
  · funext j
    show (if a = mN M + 1 then _ else if mN M < a ∧ a ≤ mN M + 7 then 0 else M.2.2.2 a j) = _
    rw [if_neg h1, if_neg h2]
    rfl
theorem wM_kO {M : Mm} (h : kO M) : kO (wM M) := by
  intro a j
  show (if a = mN M + 1 then (if j < 6 then mN M + 2 + j else 0) else if mN M < a ∧ a ≤ mN M + 7 then 0 else M.2.2.2 a j) ≤ mN M + 7
  have := h a j
  have h2 : M.2.2.2 a j ≤ mN M := h a j
  split
  · split <;> omega
  · split <;> omega
def adm (ad : Nat → Nat) (n h : Nat) : Nat → Nat := fun k => if n < k ∧ k ≤ n + 7 then h + (k - (n + 1)) else ad k
theorem adm_o {ad : Nat → Nat} {n h : Nat} (hn : n + 7 ≤ 4000) : ∀ k, k ≤ n ∨ 4999 ≤ k → adm ad n h k = ad k := fun k hk => if_neg (by omega)
theorem adm_s {ad : Nat → Nat} {n h i : Nat} (hi : i < 7) : adm ad n h (n + 1 + i) = h + i := by
  unfold adm
  rw [if_pos (by omega)]
  omega
def oN2 (b : Nat × Nat) (pc : Nat) : OP := fun kn _ ls st M => match st with
  | .int v :: .int w :: st => cond (ro b M ls st 7 36) ((v = 5 ∧ w = 6) ∧ kn (pc + 4) ls (.ref (mN M + 1) :: st) (wM M)) False
  | _ => False
theorem ok_n2 {idx : Nat} (hw : Cond.classLink q.1.cls idx "[[I" ∈ wB) (hd : decode q.2.1 pc = .ok (.multianewarray idx 2, 4)) : OK l X q d false b pc (oN2 b pc) := by
  intro kn kr ls st M hk h
  simp only [oN2] at h
  split at h
  · rename_i v w st
    obtain ⟨h0, ⟨ev, ew⟩, hh⟩ := condT h
    subst ev
    subst ew
    obtain ⟨n1, n2, n3, n4, n5⟩ := ro_of h0
    have eN : mN (wM M) = mN M + 7 := rfl
    have eC : mC (wM M) = mC M + 7 := rfl
    have eS : mS (wM M) = mS M + 36 := rfl
    refine Wf.alloc (M' := wM M) (by omega) (by omega) (by omega) (by omega) (by omega) (by omega) wM_kO n2 (fun p e R s m args below meth c' H locs cells slots Q D g ad A la hx hb hown hts hK hAO hO hP hD hS hA g1 g2 kx => ?_) (hk _ _ _ _ hh)
    rw [show mC (wM M) - mC M = 7 by omega] at g1 kx
    rw [show mS (wM M) - mS M = 36 by omega] at g2 kx
    obtain ⟨kA, hkA, hkindA⟩ := hAO.2.1
    obtain ⟨-, kC, hkC, c3, hkindC⟩ := (hK.2 1 _ rfl).1 5 (fun _ => .int 0)
    have hnA : s.vm.findClass "[[I" = some (g 12) := (hK.2 4 _ rfl).2
    refine W_multi hx hb hown (hts _ hw) hnA hkA hkindA hkC hkindC hd g1 g2 hS.1 (fun H1 z1 z2 z3 z4 => ?_)
    have hold : ∀ (k : Nat) (x : Nat × va_E), (wl g ad M)[k]? = some x → H1[x.1]? = H[x.1]? := fun k x hx => z2 x.1 ((hP k x hx).lt)
    have ew := wl_grow (g := g) (ad := ad) (ad' := adm ad (mN M) H.size) (M := M) (M' := wM M) (k := 7) hO (adm_o n1) rfl wM_old
    have e0 : er (adm ad (mN M) H.size) (wM M) (mN M + 1) = fun j => if j < 6 then some (H.size + 1 + j) else none := by
      funext j
      have hR : mR (wM M) (mN M + 1) j = if j < 6 then mN M + 2 + j else 0 := if_pos rfl
      unfold er
      rw [hR]
      by_cases hj : j < 6
      · rw [if_pos hj, if_pos hj, show mN M + 2 + j = mN M + 1 + j + 1 by omega]
        show some (adm ad (mN M) H.size (mN M + 1 + j + 1)) = _
        rw [show mN M + 1 + j + 1 = mN M + 1 + (j + 1) by omega, adm_s (by omega)]
        congr 1
        omega
      · rw [if_neg hj, if_neg hj]
    have en0 : en g (adm ad (mN M) H.size) (wM M) (mN M + 1) = .inl (g 12, 6, .inr (.inr (.inr (.inr (fun j => if j < 6 then some (H.size + 1 + j) else none))))) := by
      have hK1 : mK (wM M) (mN M + 1) = (12, 6) := if_pos rfl
      rw [en_q (c := 12) (by rw [hK1]) (by decide), hK1, e0]
    have en1 : ∀ i, i < 6 → en g (adm ad (mN M) H.size) (wM M) (mN M + 1 + (i + 1)) = .inl (g 9, 5, .inl (fun _ => 0)) := by
      intro i hi
      have hK1 : mK (wM M) (mN M + 1 + (i + 1)) = (9, 5) := by
        show (if mN M + 1 + (i + 1) = mN M + 1 then (12, 6) else if mN M < mN M + 1 + (i + 1) ∧ mN M + 1 + (i + 1) ≤ mN M + 7 then (9, 5) else mK M _) = _
        rw [if_neg (by omega), if_pos (by omega)]
      have hI1 : mI (wM M) (mN M + 1 + (i + 1)) = fun _ => 0 := funext fun j => if_pos (by omega)
      rw [en_i (by rw [hK1]), hK1, hI1]
    have hat : ∀ i x, ((List.range 7).map (fun i => (adm ad (mN M) H.size (mN M + 1 + i), en g (adm ad (mN M) H.size) (wM M) (mN M + 1 + i))))[i]? = some x → x.1 = H.size + i ∧ va_at D vwCl x H1 := by
      intro i x hx
      rw [List.getElem?_map] at hx
      by_cases hi : i < 7
      · rw [List.getElem?_range hi] at hx
        cases hx
        refine ⟨adm_s hi, ?_⟩
        cases i with
        | zero =>
          show va_at D vwCl (adm ad (mN M) H.size (mN M + 1 + 0), en g (adm ad (mN M) H.size) (wM M) (mN M + 1)) H1
          rw [en0]
          show H1[adm ad (mN M) H.size (mN M + 1 + 0)]? = some (vp_cell _ _)
          rw [adm_s (by omega), vp_cell_q, Nat.add_zero, z3]
          unfold mo
          congr 2
          funext j
          by_cases hj : j < 6
          · rw [if_pos hj, if_pos hj]; rfl
          · rw [if_neg hj, if_neg hj]; rfl
        | succ i =>
          show va_at D vwCl (adm ad (mN M) H.size (mN M + 1 + (i + 1)), en g (adm ad (mN M) H.size) (wM M) (mN M + 1 + (i + 1))) H1
          rw [en1 i (by omega)]
          show H1[adm ad (mN M) H.size (mN M + 1 + (i + 1))]? = some (vp_cell _ _)
          rw [adm_s hi, vp_cell_i, show H.size + (i + 1) = H.size + 1 + i by omega]
          exact z4 i (by omega)
      · rw [List.getElem?_eq_none (by simp; omega)] at hx
        cases hx
    have := kx (adm ad (mN M) H.size) H1 locs (adm_o n1) (by rw [ew]; exact (hP.kept hold).app (fun i x hx => (hat i x hx).2)) (by
      rw [ew]
      refine va_D.app hD ⟨fun i j x y hx hy hxy => ?_, fun k x hx => ?_⟩ (fun i j x y hx hy hxy => ?_)
      · have := (hat i x hx).1
        have := (hat j y hy).1
        omega
      · rw [(hat k x hx).1]
        exact hA _ (Nat.le_trans hS.1 (Nat.le_add_right _ _))
      · have h1 := (hat j y hy).1
        have h2 : x.1 < H.size := (hP i x hx).lt
        omega) ⟨Nat.le_trans hS.1 (by omega), fun a h1 h2 => (z2 a (Nat.lt_of_lt_of_le h1 hS.1)).trans (hS.2.1 a h1 h2), hS.2.2⟩
    have ea : adm ad (mN M) H.size (mN M + 1) = H.size := adm_s (i := 0) (by decide)
    rw [List.map_cons, iv_ref (show 0 < mN M + 1 from Nat.succ_pos _), ea, ivs_rk (adm_o n1) n3] at this
    exact this
  · exact h.elim
end MULTIO
