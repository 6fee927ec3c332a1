abbrev KN : Type := Nat → Ls → List Value → Mm → Prop
abbrev KR : Type := Option Value → Mm → Prop
abbrev OP : Type := KN → KR → Ls → List Value → Mm → Prop
/-- references are names -/
def kO (M : Mm) : Prop := ∀ a i, mR M a i ≤ mN M
def lm (ad : Nat → Nat) (ls : Ls) : Ls := ls.map (fun x => (x.1, iv ad x.2))
def pz (D : va_G) (g : Nat → ClassId) (ad : Nat → Nat) (X : Nat × (Nat → Int32)) (A : Nat → Prop) (av : List Value) (M : Mm) : Array Value → State → Prop := fun v U => v = (av.map (iv ad)).toArray ∧ va_P D vwCl (wl g ad M) U.heap ∧ va_D A (wl g ad M) ∧ (∀ a, U.heap.size ≤ a → A a) ∧ kO M ∧ mN M ≤ 4000 ∧ sx D g ad X A U U.heap
def qz (D : va_G) (g : Nat → ClassId) (ad : Nat → Nat) (A : Nat → Prop) (na : Bool) (M : Mm) (kr : KR) : Array Value → State → Outcome → State → Prop := fun _ st o t => ∃ (r : Option Value) (M' : Mm) (ad' : Nat → Nat), o = .returned (r.map (iv ad')) ∧ kr r M' ∧ (na = true → ad' = ad ∧ M'.1 = M.1) ∧ (∀ n, n ≤ mN M ∨ 4999 ≤ n → ad' n = ad n) ∧ mN M ≤ mN M' ∧ mN M' ≤ 4000 ∧ kO M' ∧ va_P D vwCl (wl g ad' M') t.heap ∧ va_D A (wl g ad' M') ∧ va_F A st t
/-- A METHOD'S CONTRACT: called with av over the memory M it returns, and its answer and the memory then fulfil kr -/
def Ev (l : Launch) (X : Nat × (Nat → Int32)) (q : Md) (d : Nat) (na : Bool) (mc ms : Nat) (av : List Value) (M : Mm) (kr : KR) : Prop :=
  ∀ (D : va_G) (g : Nat → ClassId) (ad : Nat → Nat) (A : Nat → Prop), Met l q.1 (wz q) (rz d mc ms) (pz D g ad X A av M) (qz D g ad A na M kr) mc ms A
/-- what a frame knows -/
def fx (X : Nat × (Nat → Int32)) (q : Md) (p : Program) (s : State) (m : MethodId) (args : Array Value) (meth : Method) (c : Code) (D : va_G) (g : Nat → ClassId) (ad : Nat → Nat) (A : Nat → Prop) : Prop :=
  p.tables.exec = Jvm.exec ∧ c.code = q.2.1 ∧ c.maxLocals = q.2.2.1 ∧ meth.sig.returnType = q.2.2.2 ∧ meth.locks = false ∧ s.vm.findClass q.1.cls = some m.cls ∧ meth.name = q.1.name ∧ (∀ w ∈ wB, w.before args s = true) ∧ (∀ a, s.heap.size ≤ a → A a) ∧ sx D g ad X A s s.heap
/-- the heap is as the memory says -/
def rl (D : va_G) (g : Nat → ClassId) (A : Nat → Prop) (na : Bool) (n0 : Nat) (ad0 : Nat → Nat) (S0 : Nat × Nat × Nat × (Nat → Nat × Nat)) (s : State) (ad : Nat → Nat) (M : Mm) (H : Heap) (locs : List Loc) : Prop :=
  va_P D vwCl (wl g ad M) H ∧ va_D A (wl g ad M) ∧ va_S A s.heap H locs ∧ kO M ∧ n0 ≤ mN M ∧ mN M ≤ 4000 ∧ (∀ n, n ≤ n0 ∨ 4999 ≤ n → ad n = ad0 n) ∧ (na = true → ad = ad0 ∧ M.1 = S0)
/-- the method's end -/
def rt (q : Md) (pc : Nat) (r : Option Value) : Prop := (∃ v ty, r = some (.int v) ∧ q.2.2.2 = some ty ∧ narrow ty (.int v) = .int v ∧ decode q.2.1 pc = .ok (.ireturn, 1)) ∨ (∃ v, r = some (.long v) ∧ q.2.2.2 = some .long ∧ decode q.2.1 pc = .ok (.lreturn, 1)) ∨ (r = none ∧ q.2.2.2 = none ∧ decode q.2.1 pc = .ok (.return_, 1))
/-- A FRAME at pc with locals ls and stack st over M comes to its end, and kr -/
def Wf (l : Launch) (X : Nat × (Nat → Int32)) (q : Md) (d : Nat) (na : Bool) (b : Nat × Nat) (pc : Nat) (ls : Ls) (st : List Value) (M : Mm) (kr : KR) : Prop :=
  ∀ (p : Program) (e : Env) (R : Room) (s : State) (m : MethodId) (args : Array Value) (below : List Frame) (meth : Method) (c : Code) (Q : State → Prop) (D : va_G) (g : Nat → ClassId) (ad0 : Nat → Nat) (A : Nat → Prop) (n0 : Nat) (S0 : Nat × Nat × Nat × (Nat → Nat × Nat)) (c0 s0 : Nat) (ad : Nat → Nat) (H : Heap) (locs : List Loc) (la : Array Slot),
    fx X q p s m args meth c D g ad0 A → d ≤ R.frames → 64 * d ≤ R.locals → b.1 ≤ R.cells + c0 → b.2 ≤ R.slots + s0 → c0 ≤ mC M → s0 ≤ mS M → mC M ≤ b.1 → mS M ≤ b.2 → rl D g A na n0 ad0 S0 s ad M H locs → lv_has la q.2.2.1 (lm ad ls) →
    (∀ (pc' : Nat) (r : Option Value) (M' : Mm) (ad' : Nat → Nat) (H' : Heap) (locs' : List Loc) (la' : Array Slot), kr r M' → rl D g A na n0 ad0 S0 s ad' M' H' locs' → c0 ≤ mC M' → s0 ≤ mS M' → mC M' ≤ b.1 → mS M' ≤ b.2 → rt q pc' r → W p l e R s m args below meth c H' locs' (mC M' - c0) (mS M' - s0) Q (F0 m pc' la' (r.toList.map (iv ad')))) →
    W p l e R s m args below meth c H locs (mC M - c0) (mS M - s0) Q (F0 m pc la (st.map (iv ad)))
/-! locals -/
def lg : Ls → Nat → Option Value
  | [], _ => none
  | x :: t, i => cond (Nat.beq x.1 i) (some x.2) (lg t i)
theorem lg_mem : ∀ {ls : Ls} {i : Nat} {v : Value}, lg ls i = some v → (i, v) ∈ ls
  | [], _, _, h => by cases h
  | x :: t, i, v, h => by
    unfold lg at h
    cases hb : Nat.beq x.1 i with
    | true =>
      rw [hb] at h
      have e : x.1 = i := Nat.eq_of_beq_eq_true hb
      have e2 : x.2 = v := Option.some.inj h
      rw [← e, ← e2]
      exact List.mem_cons_self
    | false =>
      rw [hb] at h
      exact List.mem_cons_of_mem _ (lg_mem h)
theorem lg_has {ls : Ls} {i : Nat} {v : Value} {ad : Nat → Nat} {la : Array Slot} {nL : Nat} (h : lg ls i = some v) (hl : lv_has la nL (lm ad ls)) : la[i]? = some (.val (iv ad v)) :=
  hl.2.2 (i, iv ad v) (List.mem_map.mpr ⟨(i, v), lg_mem h, rfl⟩)
def li : Ls → Nat → Value → Ls
  | [], i, v => [(i, v)]
  | x :: t, i, v => cond (Nat.ble x.1 i) (x :: li t i v) ((i, v) :: x :: t)
theorem li_mem : ∀ {ls : Ls} {i : Nat} {v : Value} {x : Nat × Value}, x ∈ li ls i v → x = (i, v) ∨ x ∈ ls
  | [], i, v, x, h => Or.inl (List.mem_singleton.mp h)
  | y :: t, i, v, x, h => by
    unfold li at h
    cases hb : Nat.ble y.1 i with
    | true =>
      rw [hb] at h
      rcases List.mem_cons.mp h with e | h
      · exact Or.inr (by rw [e]; exact List.mem_cons_self)
      · rcases li_mem h with e | h
        · exact Or.inl e
        · exact Or.inr (List.mem_cons_of_mem _ h)
    | false =>
      rw [hb] at h
      rcases List.mem_cons.mp h with e | h
      · exact Or.inl e
      · exact Or.inr h
def lf (i : Nat) (two : Bool) (q : Nat × Value) : Bool := !(Nat.beq q.1 i) && (!(Nat.beq (q.1 + 1) i && Nat.beq q.2.category 2) && !(two && Nat.beq q.1 (i + 1)))
/-- a local's new value; the list stays in order -/
def lp (ls : Ls) (i : Nat) (v : Value) : Ls := li (ls.filter (lf i (Nat.beq v.category 2))) i v
theorem beqN (a b : Nat) : (a == b) = Nat.beq a b := by
  cases h : Nat.beq a b with
  | true => exact beq_iff_eq.mpr (Nat.eq_of_beq_eq_true h)
  | false => exact beq_eq_false_iff_ne.mpr (Nat.ne_of_beq_eq_false h)
theorem lp_1 {ls : Ls} {i nL : Nat} {v : Value} {ad : Nat → Nat} {la : Array Slot} (hc : v.category = 1) (h : lv_has la nL ((i, iv ad v) :: (lm ad ls).filter (fun q => !(q.1 == i) && !(q.1 + 1 == i && q.2.category == 2)))) : lv_has la nL (lm ad (lp ls i v)) := by
  refine ⟨h.1, h.2.1, fun q hq => ?_⟩
  obtain ⟨x, hx, rfl⟩ := List.mem_map.mp hq
  rcases li_mem hx with e | hx
  · rw [e]; exact h.2.2 _ List.mem_cons_self
  · obtain ⟨h1, h2⟩ := List.mem_filter.mp hx
    refine h.2.2 _ (List.mem_cons_of_mem _ (List.mem_filter.mpr ⟨List.mem_map.mpr ⟨x, h1, rfl⟩, ?_⟩))
    simp only [lf, Bool.and_eq_true] at h2
    simp only [beqN, iv_cat, Bool.and_eq_true]
    exact ⟨h2.1, h2.2.1⟩
theorem lp_2 {ls : Ls} {i nL : Nat} {v : Value} {ad : Nat → Nat} {la : Array Slot} (hc : v.category = 2) (h : lv_has la nL ((i, iv ad v) :: (lm ad ls).filter (fun q => !(q.1 == i) && (!(q.1 == i + 1) && !(q.1 + 1 == i && q.2.category == 2))))) : lv_has la nL (lm ad (lp ls i v)) := by
  refine ⟨h.1, h.2.1, fun q hq => ?_⟩
  obtain ⟨x, hx, rfl⟩ := List.mem_map.mp hq
  rcases li_mem hx with e | hx
  · rw [e]; exact h.2.2 _ List.mem_cons_self
  · obtain ⟨h1, h2⟩ := List.mem_filter.mp hx
    refine h.2.2 _ (List.mem_cons_of_mem _ (List.mem_filter.mpr ⟨List.mem_map.mpr ⟨x, h1, rfl⟩, ?_⟩))
    rw [hc] at h2
    simp only [lf, Bool.and_eq_true] at h2
    simp only [beqN, iv_cat, Bool.and_eq_true]
    refine ⟨h2.1, ?_, h2.2.1⟩
    simpa using h2.2.2
/-- fewer locals, by their places -/
def lk (ls : Ls) (ks : List Nat) : Ls := ls.filter (fun x => ks.any (fun k => Nat.beq k x.1))
theorem lm_sub {ls ls' : Ls} {nL : Nat} {ad : Nat → Nat} {la : Array Slot} (hs : ∀ x ∈ ls', x ∈ ls) (h : lv_has la nL (lm ad ls)) : lv_has la nL (lm ad ls') := by
  refine ⟨h.1, h.2.1, fun q hq => ?_⟩
  obtain ⟨x, hx, rfl⟩ := List.mem_map.mp hq
  exact h.2.2 _ (List.mem_map.mpr ⟨x, hs x hx, rfl⟩)
section FR
variable {l : Launch} {X : Nat × (Nat → Int32)} {q : Md} {d : Nat} {na : Bool} {b : Nat × Nat} {pc : Nat} {ls : Ls} {st : List Value} {M : Mm} {kr : KR}
theorem Wf.sub {ls' : Ls} (hs : ∀ x ∈ ls', x ∈ ls) (h : Wf l X q d na b pc ls' st M kr) : Wf l X q d na b pc ls st M kr := by
  intro p e R s m args below meth c Q D g ad0 A n0 S0 c0 s0 ad H locs la hf h1 h2 h3 h4 h5 h6 h7 h8 hr hl hk
  exact h p e R s m args below meth c Q D g ad0 A n0 S0 c0 s0 ad H locs la hf h1 h2 h3 h4 h5 h6 h7 h8 hr (lm_sub hs hl) hk
theorem Wf.keep (ks : List Nat) (h : Wf l X q d na b pc (lk ls ks) st M kr) : Wf l X q d na b pc ls st M kr := Wf.sub (fun _ hx => (List.mem_filter.mp hx).1) h
/-- a step that leaves the heap alone -/
theorem Wf.pure {pc' : Nat} {ls' : Ls} {st' : List Value} (h : ∀ (p : Program) (e : Env) (R : Room) (s : State) (m : MethodId) (args : Array Value) (below : List Frame) (meth : Method) (c : Code) (H : Heap) (locs : List Loc) (cells slots : Nat) (Q : State → Prop) (ad : Nat → Nat) (la : Array Slot), p.tables.exec = Jvm.exec → c.code = q.2.1 → s.vm.findClass q.1.cls = some m.cls → (∀ w ∈ wB, w.before args s = true) → lv_has la q.2.2.1 (lm ad ls) → (∀ la' : Array Slot, lv_has la' q.2.2.1 (lm ad ls') → W p l e R s m args below meth c H locs cells slots Q (F0 m pc' la' (st'.map (iv ad)))) → W p l e R s m args below meth c H locs cells slots Q (F0 m pc la (st.map (iv ad)))) (k : Wf l X q d na b pc' ls' st' M kr) : Wf l X q d na b pc ls st M kr := by
  intro p e R s m args below meth c Q D g ad0 A n0 S0 c0 s0 ad H locs la hf h1 h2 h3 h4 h5 h6 h7 h8 hr hl hk
  exact h p e R s m args below meth c H locs _ _ Q ad la hf.1 hf.2.1 hf.2.2.2.2.2.1 hf.2.2.2.2.2.2.2.1 hl (fun la' hl' => k p e R s m args below meth c Q D g ad0 A n0 S0 c0 s0 ad H locs la' hf h1 h2 h3 h4 h5 h6 h7 h8 hr hl' hk)
end FR
/-- an operation is right for what stands at pc -/
def OK (l : Launch) (X : Nat × (Nat → Int32)) (q : Md) (d : Nat) (na : Bool) (b : Nat × Nat) (pc : Nat) (o : OP) : Prop := ∀ (kn : KN) (kr : KR) (ls : Ls) (st : List Value) (M : Mm), (∀ pc' ls' st' M', kn pc' ls' st' M' → Wf l X q d na b pc' ls' st' M' kr) → o kn kr ls st M → Wf l X q d na b pc ls st M kr
def lo (tb : List (Nat × OP)) (pc : Nat) : OP := match tb with
  | [] => fun _ _ _ _ _ => False
  | x :: t => cond (Nat.beq x.1 pc) x.2 (lo t pc)
theorem lo_ok {l : Launch} {X : Nat × (Nat → Int32)} {q : Md} {d : Nat} {na : Bool} {b : Nat × Nat} : ∀ {tb : List (Nat × OP)}, (∀ x ∈ tb, OK l X q d na b x.1 x.2) → ∀ pc, OK l X q d na b pc (lo tb pc)
  | [], _, pc => fun _ _ _ _ _ _ h => h.elim
  | x :: t, h, pc => by
    unfold lo
    cases hb : Nat.beq x.1 pc with
    | true =>
      have e : x.1 = pc := Nat.eq_of_beq_eq_true hb
      rw [← e]
      exact h x List.mem_cons_self
    | false => exact lo_ok (fun y hy => h y (List.mem_cons_of_mem _ hy)) pc
/-- n steps, then the frame -/
def go (l : Launch) (X : Nat × (Nat → Int32)) (q : Md) (d : Nat) (na : Bool) (b : Nat × Nat) (tb : List (Nat × OP)) (kr : KR) : Nat → KN
  | 0 => fun pc ls st M => Wf l X q d na b pc ls st M kr
  | n + 1 => fun pc ls st M => lo tb pc (go l X q d na b tb kr n) kr ls st M
theorem Wf.go {l : Launch} {X : Nat × (Nat → Int32)} {q : Md} {d : Nat} {na : Bool} {b : Nat × Nat} {tb : List (Nat × OP)} {kr : KR} (ht : ∀ x ∈ tb, OK l X q d na b x.1 x.2) : ∀ (n : Nat) {pc : Nat} {ls : Ls} {st : List Value} {M : Mm}, go l X q d na b tb kr n pc ls st M → Wf l X q d na b pc ls st M kr
  | 0, _, _, _, _, h => h
  | n + 1, pc, ls, st, M, h => lo_ok ht pc _ kr ls st M (fun _ _ _ _ h' => Wf.go ht n h') h
theorem lv_args_iv (ad : Nat → Nat) : ∀ (av : List Value) (i : Nat), lv_args i (av.map (iv ad)) = lm ad (lv_args i av)
  | [], _ => rfl
  | v :: t, i => by
    show (i, iv ad v) :: lv_args _ (t.map (iv ad)) = _
    rw [lv_args_iv ad t, iv_cat]
    rfl
theorem sl_len (ad : Nat → Nat) : ∀ av : List Value, (lg_sl (av.map (iv ad))).length = (lg_sl av).length
  | [] => rfl
  | v :: t => by
    have h := sl_len ad t
    simp only [lg_sl, List.map_cons, List.flatMap_cons, List.length_append] at h ⊢
    rw [h]
    cases v with
    | ref a => cases a <;> rfl
    | _ => rfl
