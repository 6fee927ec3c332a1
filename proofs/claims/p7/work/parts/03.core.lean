/-! THE SHADOW: the pool's objects have names 1, 2, .. (0 is null, 4999 the script, 5000 + i the i-th String constant); a memory says what each name is (kind, length) and holds. Methods are walked over the memory; the rows below tie each step to the machine once and for all. -/
abbrev Ls : Type := List (Nat × Value)
/-- how many names; cells and slots used; (kind, length) of a name; ints, longs, references of a name by place -/
abbrev Mm : Type := (Nat × Nat × Nat × (Nat → Nat × Nat)) × (Nat → Nat → Int32) × (Nat → Nat → Int64) × (Nat → Nat → Nat)
def mN (M : Mm) : Nat := M.1.1
def mC (M : Mm) : Nat := M.1.2.1
def mS (M : Mm) : Nat := M.1.2.2.1
def mK (M : Mm) (a : Nat) : Nat × Nat := M.1.2.2.2 a
def mI (M : Mm) (a i : Nat) : Int32 := M.2.1 a i
def mL (M : Mm) (a i : Nat) : Int64 := M.2.2.1 a i
def mR (M : Mm) (a i : Nat) : Nat := M.2.2.2 a i
def wI (M : Mm) (a i : Nat) (v : Int32) : Mm := (M.1, fun b j => if b = a ∧ j = i then v else M.2.1 b j, M.2.2)
def wL (M : Mm) (a i : Nat) (v : Int64) : Mm := (M.1, M.2.1, fun b j => if b = a ∧ j = i then v else M.2.2.1 b j, M.2.2.2)
def wR (M : Mm) (a i : Nat) (v : Nat) : Mm := (M.1, M.2.1, M.2.2.1, fun b j => if b = a ∧ j = i then v else M.2.2.2 b j)
def wF (M : Mm) (a : Nat) (f : Nat → Int32) : Mm := (M.1, fun b j => if b = a then f j else M.2.1 b j, M.2.2)
/-- a new name, of a kind and length, n slots more -/
def wA (M : Mm) (k : Nat × Nat) (n : Nat) : Mm := ((mN M + 1, mC M + 1, mS M + n, fun b => if b = mN M + 1 then k else mK M b), (fun b j => if b = mN M + 1 then 0 else M.2.1 b j), (fun b j => if b = mN M + 1 then 0 else M.2.2.1 b j), (fun b j => if b = mN M + 1 then 0 else M.2.2.2 b j))
/-- a value as the machine has it -/
def iv (ad : Nat → Nat) (v : Value) : Value := match v with
  | .ref 0 => .null
  | .ref (k + 1) => .ref (ad (k + 1))
  | w => w
theorem iv_ref {ad : Nat → Nat} {a : Nat} (h : 0 < a) : iv ad (.ref a) = .ref (ad a) := by
  cases a with
  | zero => exact absurd h (Nat.lt_irrefl 0)
  | succ k => rfl
theorem iv_cat (ad : Nat → Nat) (v : Value) : (iv ad v).category = v.category := by
  cases v with
  | ref a => cases a <;> rfl
  | _ => rfl
/-- the kinds of a class's fields: 0 int, 1 long, 2 a reference -/
def tf (c : Nat) : List Nat := match c with
  | 0 => [0, 0, 0, 0, 0, 0, 0, 0]
  | 1 => [2, 2, 2, 2, 0, 0, 0, 0, 0]
  | 2 => [2, 2, 2, 2, 0, 0]
  | 3 => [0, 0, 0, 0, 0, 2, 2, 2, 2, 2, 0, 2, 2, 2, 0, 2, 2, 0, 2, 2]
  | 4 => [2, 0, 0, 2, 0, 0, 0, 0, 1, 2, 2, 2, 0, 0, 0]
  | 5 => [2, 0]
  | 6 => [2, 2, 2, 2, 2, 0, 0, 2, 0, 2, 2, 2, 2, 0]
  | 7 => [0, 2, 0, 0, 0, 0, 0, 0, 0, 0, 0, 0, 2, 0, 0, 2, 2, 2, 2, 2, 2, 2, 0, 0, 2, 2, 0, 2, 2, 0, 0, 0, 0, 2, 2, 2, 0, 0, 0, 0, 1, 1, 1, 0]
  | _ => []
def sv (M : Mm) (a k t : Nat) : Value := match t with
  | 0 => .int (mI M a k)
  | 1 => .long (mL M a k)
  | _ => .ref (mR M a k)
def eo (ad : Nat → Nat) (M : Mm) (a : Nat) (ts : List Nat) : List Value := (List.range ts.length).map (fun k => iv ad (sv M a k (ts.getD k 0)))
def er (ad : Nat → Nat) (M : Mm) (a : Nat) : Nat → Option Nat := fun i => match mR M a i with
  | 0 => none
  | n + 1 => some (ad (n + 1))
theorem er_rf (ad : Nat → Nat) (M : Mm) (a i : Nat) : va_rf (er ad M a i) = iv ad (.ref (mR M a i)) := by
  unfold er
  cases mR M a i <;> rfl
/-- the cell of a name -/
def en (g : Nat → ClassId) (ad : Nat → Nat) (M : Mm) (a : Nat) : va_E :=
  if (mK M a).1 < 8 then .inr ((mK M a).1, eo ad M a (tf (mK M a).1))
  else if (mK M a).1 = 10 then .inl (g 10, (mK M a).2, .inr (.inl (mL M a)))
  else if (mK M a).1 < 10 then .inl (g (mK M a).1, (mK M a).2, .inl (mI M a))
  else .inl (g (mK M a).1, (mK M a).2, .inr (.inr (.inr (.inr (er ad M a)))))
def wl (g : Nat → ClassId) (ad : Nat → Nat) (M : Mm) : va_W := (List.range (mN M)).map (fun i => (ad (i + 1), en g ad M (i + 1)))
theorem wl_at {g : Nat → ClassId} {ad : Nat → Nat} {M : Mm} {a : Nat} (h0 : 0 < a) (h1 : a ≤ mN M) : (wl g ad M)[a - 1]? = some (ad a, en g ad M a) := by
  unfold wl
  rw [List.getElem?_map, List.getElem?_range (by omega)]
  simp [show a - 1 + 1 = a by omega]
theorem wl_set {g : Nat → ClassId} {ad : Nat → Nat} {M M' : Mm} {a : Nat} (h0 : 0 < a) (h1 : a ≤ mN M) (hn : mN M' = mN M) (ho : ∀ b, b ≠ a → en g ad M' b = en g ad M b) : (wl g ad M).set (a - 1) (ad a, en g ad M' a) = wl g ad M' := by
  apply List.ext_getElem?
  intro i
  unfold wl
  rw [List.getElem?_set, hn]
  by_cases hi : a - 1 = i
  · subst hi
    rw [if_pos rfl, if_pos (by simp; omega), List.getElem?_map, List.getElem?_range (by omega)]
    simp [show a - 1 + 1 = a by omega]
  · rw [if_neg hi, List.getElem?_map, List.getElem?_map]
    by_cases hl : i < mN M
    · rw [List.getElem?_range hl]
      simp [ho (i + 1) (by omega)]
    · rw [List.getElem?_eq_none (by simp; omega)]
      rfl
theorem eo_at {ad : Nat → Nat} {M : Mm} {a : Nat} {ts : List Nat} {k : Nat} (h : k < ts.length) : (eo ad M a ts)[k]? = some (iv ad (sv M a k (ts.getD k 0))) := by
  unfold eo
  rw [List.getElem?_map, List.getElem?_range h]
  rfl
theorem eo_set {ad : Nat → Nat} {M M' : Mm} {a : Nat} {ts : List Nat} {k : Nat} (h : k < ts.length) (ho : ∀ j, j ≠ k → sv M' a j (ts.getD j 0) = sv M a j (ts.getD j 0)) : (eo ad M a ts).set k (iv ad (sv M' a k (ts.getD k 0))) = eo ad M' a ts := by
  apply List.ext_getElem?
  intro i
  unfold eo
  rw [List.getElem?_set]
  by_cases hi : k = i
  · subst hi
    rw [if_pos rfl, if_pos (by simp; omega), List.getElem?_map, List.getElem?_range h]
    rfl
  · rw [if_neg hi, List.getElem?_map, List.getElem?_map]
    by_cases hl : i < ts.length
    · rw [List.getElem?_range hl]
      simp only [Option.map_some]
      rw [ho i (fun e => hi e.symm)]
    · rw [List.getElem?_eq_none (by simp; omega)]
      rfl
/-- the array kinds' types -/
def tz (g : Nat → ClassId) : List (ClassId × FieldType) := [(g 8, .byte), (g 9, .int), (g 10, .long), (g 11, .object RX2), (g 12, .array .int)]
/-- the room of a method at depth d -/
def rz (d mc ms : Nat) : Room := { frames := d, cells := mc, slots := ms, locals := 64 * d }
/-- links to a nest mate's private members -/
def wN : List (String × Nat × MethodName) := [(RX6, 9, yX4_init), (RX6, 18, yX3_init), (RX6, 28, yX2_init), (RX6, 52, yX0_init), (RX6, 59, yX5_init), (RX6, 66, yX1_init), (RX4, 256, yX6_within)]
/-- the String constants: texts (those of the reader, those of the reference), places in the pools -/
def tS (i : Nat) : String := ["close", "wall", "face", "canon", "walker", "unsure", "dropped", "wide", "deep", "calm", "holds", "wears", "at", "bat", "lion", "pig", "vexed", "every", "from", "to", "day"].getD (i % 21) ""
def tB (i : Nat) : List Int32 := (tS i).toList.map (fun c => Int32.ofNat c.toNat)
def tQ : List (String × Nat × String × Nat) := [(RX4, 104, "close", 0), (RX4, 110, "wall", 1), (RX4, 112, "face", 2), (RX4, 114, "canon", 3), (RX4, 116, "walker", 4), (RX4, 118, "unsure", 5), (RX4, 120, "dropped", 6), (RX4, 149, "wide", 7), (RX4, 154, "deep", 8), (RX4, 156, "calm", 9), (RX4, 190, "holds", 10), (RX4, 194, "wears", 11), (RX4, 198, "at", 12), (RX4, 206, "bat", 13), (RX4, 208, "lion", 14), (RX4, 210, "pig", 15), (RX4, 224, "vexed", 16), (RX4, 228, "every", 17), (RX4, 232, "from", 18), (RX4, 236, "to", 19), (RX4, 254, "day", 20), (RX7, 131, "close", 21), (RX7, 133, "wall", 22), (RX7, 135, "face", 23), (RX7, 137, "canon", 24), (RX7, 139, "walker", 25), (RX7, 141, "unsure", 26), (RX7, 143, "dropped", 27), (RX7, 216, "wide", 28), (RX7, 222, "deep", 29), (RX7, 224, "calm", 30), (RX7, 243, "holds", 31), (RX7, 245, "wears", 32), (RX7, 247, "at", 33), (RX7, 237, "bat", 34), (RX7, 239, "lion", 35), (RX7, 241, "pig", 36), (RX7, 251, "vexed", 37), (RX7, 252, "every", 38), (RX7, 254, "from", 39), (RX7, 259, "to", 40), (RX7, 261, "day", 41)]
/-- what never changes: the classes, the nest mates' links, the String constants, the script -/
def ks (ad : Nat → Nat) (A : Nat → Prop) (U : State) (H : Heap) : Prop := ∀ i : Nat, i < 42 → va_O "java/lang/String" (ad (5000 + i)) A U H ∧ va_OF "java/lang/String" "coder" "B" (.int 0) (ad (5000 + i)) A U H ∧ va_OF "java/lang/String" "value" "[B" (.ref (ad (5100 + i))) (ad (5000 + i)) A U H ∧ va_T .byte (ad (5100 + i)) (tB i).length (fun j => .int ((tB i).getD j 0)) A U H
def kx (ad : Nat → Nat) (X : Nat × (Nat → Int32)) (A : Nat → Prop) (U : State) (H : Heap) : Prop := va_X (ad 4999) X.1 X.2 U H ∧ ad 4999 < H.size ∧ ¬ A (ad 4999)
/-- a static field that holds a reference or null, with all that is said of its place -/
def sq (C n d : String) (A : Nat → Prop) (U : State) (H : Heap) : Prop := ∃ (cf : ClassId) (kf : Class) (fi : Nat) (f : Field) (a : Nat) (cell : Cell) (v : Value), U.vm.findClass C = some cf ∧ U.fieldFound? C n d = some (cf, kf, fi, f) ∧ f.isStatic = true ∧ kf.statics = some a ∧ kf.staticTypes[f.slot]? = some f.type ∧ H[a]? = some cell ∧ cell.vm.isStatics = true ∧ cell.cls = cf ∧ f.slot < cell.slots.size ∧ cell.slots[f.slot]? = some v ∧ (v = .null ∨ ∃ t, v = .ref t) ∧ ¬ A a
theorem sq.moved {C n d : String} {A : Nat → Prop} {u U : State} {H : Heap} (hvm : u.vm.Alike U.vm) (h : sq C n d A u H) : sq C n d A U H := by
  obtain ⟨cf, kf, fi, f, a, cell, v, h0, h1, h2, h3, h4, h5⟩ := h
  obtain ⟨k', hi', he⟩ := State.fieldFound?_setVm hvm h1
  exact ⟨cf, k', fi, f, a, cell, v, by rw [hvm.findClass]; exact h0, hi', h2, by rw [he]; exact h3, by rw [he]; exact h4, h5⟩
theorem sq.kept {C n d : String} {A : Nat → Prop} {U : State} {H H1 : Heap} (h : sq C n d A U H) (hq : ∀ a : Nat, a < H.size → ¬ A a → H1[a]? = H[a]?) : sq C n d A U H1 := by
  obtain ⟨cf, kf, fi, f, a, cell, v, h0, h1, h2, h3, h4, h5, h6, h7, h8, h9, h10, h11⟩ := h
  exact ⟨cf, kf, fi, f, a, cell, v, h0, h1, h2, h3, h4, by rw [hq a (Array.getElem?_eq_some_iff.mp h5).1 h11]; exact h5, h6, h7, h8, h9, h10, h11⟩
theorem sq.of {args : Array Value} {s : State} {C n d : String} {A : Nat → Prop} (hl : (Cond.laysStatic C n d).before args s = true) (hr : (Cond.isRef (.static C n d)).before args s = true) (hA : ∀ a : Nat, a < s.heap.size → ¬ A a) : sq C n d A s s.heap := by
  obtain ⟨c, k, i, f, a, cell, hc, hi, hst, ha, hcell, hs, hcls, hlt, hty⟩ := Cond.laysStatic_spec hl
  cases hv : (Term.static C n d).eval args s none [] s with
  | none => simp [Cond.before, Cond.holds, Cond.value, hv] at hr
  | some w =>
    obtain ⟨hst', a', cell', ha', hcell', -, hslot⟩ := Term.static_spec hi hv
    cases ha.symm.trans ha'
    cases hcell.symm.trans hcell'
    simp only [Cond.before, Cond.holds, Cond.value, hv] at hr
    refine ⟨c, k, i, f, a, cell, w, hc, hi, hst, ha, hty, hcell, hs, hcls, hlt, hslot, ?_, hA a (Array.getElem?_eq_some_iff.mp hcell).1⟩
    cases w with
    | null => exact Or.inl rfl
    | ref t => exact Or.inr ⟨t, rfl⟩
    | _ => simp at hr
theorem sq.lays {args : Array Value} {s : State} {C n d : String} {A : Nat → Prop} (h : sq C n d A s s.heap) : (Cond.laysStatic C n d).before args s = true := by
  obtain ⟨cf, kf, fi, f, a, cell, v, h0, h1, h2, h3, h4, h5, h6, h7, h8, h9, h10, h11⟩ := h
  simp [Cond.before, Cond.holds, Cond.value, h0, h1, h2, h3, h4, h5, h6, h7, h8]
theorem sq.isRef {args : Array Value} {s : State} {C n d : String} {A : Nat → Prop} (h : sq C n d A s s.heap) : (Cond.isRef (.static C n d)).before args s = true := by
  obtain ⟨cf, kf, fi, f, a, cell, v, h0, h1, h2, h3, h4, h5, h6, h7, h8, h9, h10, h11⟩ := h
  have hv : (Term.static C n d).eval args s none [] s = some v := by simp [Term.eval, State.fieldNamed?, h1, h2, h3, h5, h6, h9]
  rcases h10 with rfl | ⟨t, rfl⟩ <;> simp [Cond.before, Cond.holds, Cond.value, hv]
/-- the constructors of the throwables that 'led' makes -/
def wD : List MethodName := [⟨"java/lang/RuntimeException", "<init>", "()V"⟩, ⟨"java/lang/Exception", "<init>", "()V"⟩, ⟨"java/lang/Throwable", "<init>", "()V"⟩]
def NSE : String := "java/util/NoSuchElementException"
/-- arrays of Moments, arrays of arrays; throwables -/
def ao (g : Nat → ClassId) (A : Nat → Prop) (U : State) (H : Heap) : Prop := va_AO RX2 U ∧ (∃ k, U.vm.classes[g 12]? = some k ∧ k.kind = .array (g 9) (.array .int)) ∧ (sq "java/lang/Throwable" "UNASSIGNED_STACK" "[Ljava/lang/StackTraceElement;" A U H ∧ sq "java/lang/Throwable" "SUPPRESSED_SENTINEL" "Ljava/util/List;" A U H) ∧ va_Nw (.castable NSE NSE) U ∧ ∀ x ∈ wD, va_Nw (.declares x) U
theorem ao.kept {g : Nat → ClassId} {A : Nat → Prop} {U : State} {H H1 : Heap} (h : ao g A U H) (hq : ∀ a : Nat, a < H.size → ¬ A a → H1[a]? = H[a]?) : ao g A U H1 :=
  ⟨h.1, h.2.1, ⟨h.2.2.1.1.kept hq, h.2.2.1.2.kept hq⟩, h.2.2.2⟩
theorem ao.warm {g : Nat → ClassId} {A : Nat → Prop} {u U : State} {H : Heap} (hW : u.WarmedH U.vm) (h : ao g A u H) : ao g A U H := by
  obtain ⟨h1, ⟨k, hk, hk2⟩, ⟨h3, h4⟩, h5, h6⟩ := h
  obtain ⟨k', hk', he⟩ := hW.alike.2.2 _ _ hk
  exact ⟨h1.moved hW.alike, ⟨k', hk', by rw [he]; exact hk2⟩, ⟨h3.moved hW.alike, h4.moved hW.alike⟩, h5.warmC hW, fun x hx => (h6 x hx).warmD hW⟩
theorem ao.same {g : Nat → ClassId} {A : Nat → Prop} {u U : State} {H : Heap} (hv : u.vm = U.vm) (h : ao g A u H) : ao g A U H := by
  obtain ⟨h1, h2, ⟨h3, h4⟩, h5, h6⟩ := h
  have ha : u.vm.Alike U.vm := by rw [hv]; exact Vm.Alike.refl _
  exact ⟨h1.moved ha, by rw [← hv]; exact h2, ⟨h3.moved ha, h4.moved ha⟩, va_Nw.same rfl hv h5, fun x hx => va_Nw.same rfl hv (h6 x hx)⟩
/-- the statics that Strings read: compact strings, the maker of a wrong index's throwable (a reference or null) -/
def zs (A : Nat → Prop) (U : State) (H : Heap) : Prop := va_Z "java/lang/String" "COMPACT_STRINGS" "Z" (.int 1) A U H ∧ va_Zq "jdk/internal/util/Preconditions" "SIOOBE_FORMATTER" "Ljava/util/function/BiFunction;" A U H
theorem zs.moved {A : Nat → Prop} {u U : State} {H : Heap} (hvm : u.vm.Alike U.vm) (h : zs A u H) : zs A U H := ⟨h.1.moved hvm, h.2.moved hvm⟩
theorem zs.kept {A : Nat → Prop} {U : State} {H H1 : Heap} (h : zs A U H) (hq : ∀ a : Nat, a < H.size → ¬ A a → H1[a]? = H[a]?) : zs A U H1 := ⟨h.1.kept hq, h.2.kept hq⟩
def sx (D : va_G) (g : Nat → ClassId) (ad : Nat → Nat) (X : Nat × (Nat → Int32)) (A : Nat → Prop) (U : State) (H : Heap) : Prop :=
  va_K D vwCl (tz g) U ∧ (∀ x ∈ wN, va_Nw (.methodLinkNest x.1 x.2.1 x.2.2 RX6) U) ∧ ao g A U H ∧ ks ad A U H ∧ (∀ x ∈ tQ, vk_R x.1 x.2.1 x.2.2.1 (ad (5000 + x.2.2.2)) U) ∧ zs A U H ∧ kx ad X A U H
theorem kx_moved {ad : Nat → Nat} {X : Nat × (Nat → Int32)} {A : Nat → Prop} {u U : State} {H : Heap} (hvm : u.vm.Alike U.vm) (h : kx ad X A u H) : kx ad X A U H := by
  obtain ⟨⟨scr, h1, h2, h3⟩, h4⟩ := h
  exact ⟨⟨scr, h1, State.isArrayOf_alike hvm h2, h3⟩, h4⟩
theorem ks_moved {ad : Nat → Nat} {A : Nat → Prop} {u U : State} {H : Heap} (hvm : u.vm.Alike U.vm) (h : ks ad A u H) : ks ad A U H :=
  fun i hi => ⟨va_O.moved hvm (h i hi).1, va_OF.moved hvm (h i hi).2.1, va_OF.moved hvm (h i hi).2.2.1, va_T.moved hvm (h i hi).2.2.2⟩
theorem ks_kept {ad : Nat → Nat} {A : Nat → Prop} {U : State} {H H1 : Heap} (h : ks ad A U H) (hq : ∀ a : Nat, a < H.size → ¬ A a → H1[a]? = H[a]?) : ks ad A U H1 :=
  fun i hi => ⟨(h i hi).1.kept hq, (h i hi).2.1.kept hq, (h i hi).2.2.1.kept hq, (h i hi).2.2.2.kept hq⟩
theorem sx_kept {D : va_G} {g : Nat → ClassId} {ad : Nat → Nat} {X : Nat × (Nat → Int32)} {A : Nat → Prop} {U : State} {H H1 : Heap} (h : sx D g ad X A U H) (hz : H.size ≤ H1.size) (hq : ∀ a : Nat, a < H.size → ¬ A a → H1[a]? = H[a]?) : sx D g ad X A U H1 := by
  obtain ⟨h1, h2, h3, h4, h5, h6, h7, h8, h9⟩ := h
  exact ⟨h1, h2, h3.kept hq, ks_kept h4 hq, h5, h6.kept hq, h7.kept (hq _ h8 h9), Nat.lt_of_lt_of_le h8 hz, h9⟩
theorem sx_warm {D : va_G} {g : Nat → ClassId} {ad : Nat → Nat} {X : Nat × (Nat → Int32)} {A : Nat → Prop} {u U : State} {H : Heap} (hW : u.WarmedH U.vm) (h : sx D g ad X A u H) : sx D g ad X A U H := by
  obtain ⟨h1, h2, h3, h4, h5, h6, h7⟩ := h
  exact ⟨va_K.moved hW.alike h1, fun x hx => (h2 x hx).warmM hW, h3.warm hW, ks_moved hW.alike h4, fun x hx => (h5 x hx).warm hW, h6.moved hW.alike, kx_moved hW.alike h7⟩
theorem sx_same {D : va_G} {g : Nat → ClassId} {ad : Nat → Nat} {X : Nat × (Nat → Int32)} {A : Nat → Prop} {u U : State} {H : Heap} (hv : u.vm = U.vm) (h : sx D g ad X A u H) : sx D g ad X A U H := by
  obtain ⟨h1, h2, h3, h4, h5, h6, h7⟩ := h
  have ha : u.vm.Alike U.vm := by rw [hv]; exact Vm.Alike.refl _
  exact ⟨va_K.moved ha h1, fun x hx => va_Nw.same rfl hv (h2 x hx), h3.same hv, ks_moved ha h4, fun x hx => (h5 x hx).same hv.symm, h6.moved ha, kx_moved ha h7⟩
theorem sx_ad {D : va_G} {g : Nat → ClassId} {ad ad' : Nat → Nat} {X : Nat × (Nat → Int32)} {A : Nat → Prop} {U : State} {H : Heap} (he : ∀ n, 4999 ≤ n → ad' n = ad n) (h : sx D g ad X A U H) : sx D g ad' X A U H := by
  obtain ⟨h1, h2, h3, h4, h5, h6, h7⟩ := h
  refine ⟨h1, h2, h3, fun i hi => ?_, fun x hx => ?_, h6, ?_⟩
  · rw [he (5000 + i) (by omega), he (5100 + i) (by omega)]; exact h4 i hi
  · rw [he _ (by omega)]; exact h5 x hx
  · unfold kx; rw [he _ (by omega)]; exact h7
