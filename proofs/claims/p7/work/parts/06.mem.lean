section MEM
variable {l : Launch} {X : Nat × (Nat → Int32)} {q : Md} {d : Nat} {na : Bool} {b : Nat × Nat} {pc : Nat}
theorem en_same {g : Nat → ClassId} {ad : Nat → Nat} {M M' : Mm} {a : Nat} (h0 : mK M' a = mK M a) (h1 : mI M' a = mI M a) (h2 : mL M' a = mL M a) (h3 : mR M' a = mR M a) : en g ad M' a = en g ad M a := by
  have hs : ∀ k t, sv M' a k t = sv M a k t := by
    intro k t
    unfold sv
    rw [h1, h2, h3]
  have he : er ad M' a = er ad M a := by
    unfold er
    rw [h3]
  unfold en eo
  rw [h0, h1, h2, he]
  simp only [hs]
theorem en_o {g : Nat → ClassId} {ad : Nat → Nat} {M : Mm} {a c : Nat} (h : (mK M a).1 = c) (hc : c < 8) : en g ad M a = .inr (c, eo ad M a (tf c)) := by
  unfold en
  rw [h, if_pos hc]
theorem en_i {g : Nat → ClassId} {ad : Nat → Nat} {M : Mm} {a : Nat} (h : (mK M a).1 = 9) : en g ad M a = .inl (g 9, (mK M a).2, .inl (mI M a)) := by
  unfold en
  rw [h, if_neg (by decide), if_neg (by decide), if_pos (by decide)]
theorem en_b {g : Nat → ClassId} {ad : Nat → Nat} {M : Mm} {a : Nat} (h : (mK M a).1 = 8) : en g ad M a = .inl (g 8, (mK M a).2, .inl (mI M a)) := by
  unfold en
  rw [h, if_neg (by decide), if_neg (by decide), if_pos (by decide)]
theorem en_j {g : Nat → ClassId} {ad : Nat → Nat} {M : Mm} {a : Nat} (h : (mK M a).1 = 10) : en g ad M a = .inl (g 10, (mK M a).2, .inr (.inl (mL M a))) := by
  unfold en
  rw [h, if_neg (by decide), if_pos rfl]
theorem en_q {g : Nat → ClassId} {ad : Nat → Nat} {M : Mm} {a c : Nat} (h : (mK M a).1 = c) (hc : 10 < c) : en g ad M a = .inl (g c, (mK M a).2, .inr (.inr (.inr (.inr (er ad M a))))) := by
  unfold en
  rw [h, if_neg (by omega), if_neg (by omega), if_neg (by omega)]
def kk (M : Mm) (a c : Nat) : Bool := Nat.blt 0 a && (Nat.ble a (mN M) && Nat.beq (mK M a).1 c)
theorem kk_of {M : Mm} {a c : Nat} (h : kk M a c = true) : 0 < a ∧ a ≤ mN M ∧ (mK M a).1 = c := by
  obtain ⟨h1, h2⟩ := Bool.and_eq_true_iff.mp h
  obtain ⟨h2, h3⟩ := Bool.and_eq_true_iff.mp h2
  exact ⟨Nat.le_of_ble_eq_true h1, Nat.le_of_ble_eq_true h2, Nat.eq_of_beq_eq_true h3⟩
/-- a step that reads or writes the pool -/
theorem Wf.mem {kr : KR} {ls : Ls} {st st' : List Value} {M M' : Mm} {pc' : Nat} (h1 : M'.1 = M.1) (hkO : kO M → kO M')
    (h : ∀ (p : Program) (e : Env) (R : Room) (s : State) (m : MethodId) (args : Array Value) (below : List Frame) (meth : Method) (c : Code) (H : Heap) (locs : List Loc) (cells slots : Nat) (Q : State → Prop) (D : va_G) (g : Nat → ClassId) (ad : Nat → Nat) (A : Nat → Prop) (la : Array Slot), p.tables.exec = Jvm.exec → c.code = q.2.1 → s.vm.findClass q.1.cls = some m.cls → (∀ w ∈ wB, w.before args s = true) → va_K D vwCl (tz g) s → meth.name = q.1.name → c.maxLocals = la.size → d ≤ R.frames → 64 * d ≤ R.locals → va_P D vwCl (wl g ad M) H → va_D A (wl g ad M) → va_S A s.heap H locs →
      (∀ (H1 : Heap) (locs1 : List Loc), va_P D vwCl (wl g ad M') H1 → va_D A (wl g ad M') → va_S A s.heap H1 locs1 → W p l e R s m args below meth c H1 locs1 cells slots Q (F0 m pc' la (st'.map (iv ad)))) → W p l e R s m args below meth c H locs cells slots Q (F0 m pc la (st.map (iv ad))))
    (k : Wf l X q d na b pc' ls st' M' kr) : Wf l X q d na b pc ls st M kr := by
  intro p e R s m args below meth c Q D g ad0 A n0 S0 c0 s0 ad H locs la hf g1 g2 g3 g4 g5 g6 g7 g8 hr hl hk
  obtain ⟨r1, r2, r3, r4, r5, r6, r7, r8⟩ := hr
  have eN : mN M' = mN M := congrArg (fun x => x.1) h1
  have eC : mC M' = mC M := congrArg (fun x => x.2.1) h1
  have eS : mS M' = mS M := congrArg (fun x => x.2.2.1) h1
  refine h p e R s m args below meth c H locs (mC M - c0) (mS M - s0) Q D g ad A la hf.1 hf.2.1 hf.2.2.2.2.2.1 hf.2.2.2.2.2.2.2.1 hf.2.2.2.2.2.2.2.2.2.1 hf.2.2.2.2.2.2.1 (hf.2.2.1.trans hl.1.symm) g1 g2 r1 r2 r3 (fun H1 locs1 p1 p2 p3 => ?_)
  have := k p e R s m args below meth c Q D g ad0 A n0 S0 c0 s0 ad H1 locs1 la hf g1 g2 g3 g4 (by rw [eC]; exact g5) (by rw [eS]; exact g6) (by rw [eC]; exact g7) (by rw [eS]; exact g8) ⟨p1, p2, p3, hkO r4, by rw [eN]; exact r5, by rw [eN]; exact r6, r7, fun z => ⟨(r8 z).1, h1.trans (r8 z).2⟩⟩ hl hk
  rw [eC, eS] at this
  exact this
def oG (pc c k t : Nat) : OP := fun kn _ ls st M => match st with
  | .ref a :: st => cond (kk M a c) (kn (pc + 3) ls (sv M a k t :: st) M) False
  | _ => False
theorem ok_get {c k t idx : Nat} {Cn : String} {T : u_T} {N : Nat} (hc : vwCl[c]? = some (Cn, T, N)) (hin : ∀ w ∈ u_ws Cn T N, w ∈ wB) (h8 : c < 8 ∧ k < N ∧ k < (tf c).length ∧ (tf c).getD k 0 = t) (hw : Cond.fieldLink q.1.cls idx (T k).1 (T k).2.1 (T k).2.2.1 ∈ wB) (hd : decode q.2.1 pc = .ok (.getfield idx, 3)) : OK l X q d na b pc (oG pc c k t) := by
  intro kn kr ls st M hk h
  simp only [oG] at h
  split at h
  · rename_i a st
    obtain ⟨h0, h⟩ := condT h
    obtain ⟨a0, a1, a2⟩ := kk_of h0
    refine Wf.mem rfl id (fun p e R s m args below meth c' H locs cells slots Q D g ad A la hx hb hown hts hK hnm hml g1 g2 hP hD hS kx => ?_) (hk _ _ _ _ h)
    rw [List.map_cons, iv_ref a0]
    have he := wl_at (g := g) (ad := ad) a0 a1
    rw [en_o a2 h8.1] at he
    exact va_get hx hb hts hin hown hK hP (a - 1) he hc k h8.2.1 (hts _ hw) (fun _ z => z) (v := iv ad (sv M a k t)) (by rw [eo_at h8.2.2.1, h8.2.2.2]) hd (kx H locs hP hD hS)
  · exact h.elim
theorem wI_o {M : Mm} {a i j b : Nat} {v : Int32} (h : b ≠ a ∨ j ≠ i) : mI (wI M a i v) b j = mI M b j := by
  show (if b = a ∧ j = i then v else M.2.1 b j) = M.2.1 b j
  rw [if_neg (by omega)]
theorem wI_s {M : Mm} {a i : Nat} {v : Int32} : mI (wI M a i v) a i = v := by
  show (if a = a ∧ i = i then v else M.2.1 a i) = v
  rw [if_pos ⟨rfl, rfl⟩]
theorem wL_o {M : Mm} {a i j b : Nat} {v : Int64} (h : b ≠ a ∨ j ≠ i) : mL (wL M a i v) b j = mL M b j := by
  show (if b = a ∧ j = i then v else M.2.2.1 b j) = M.2.2.1 b j
  rw [if_neg (by omega)]
theorem wL_s {M : Mm} {a i : Nat} {v : Int64} : mL (wL M a i v) a i = v := by
  show (if a = a ∧ i = i then v else M.2.2.1 a i) = v
  rw [if_pos ⟨rfl, rfl⟩]
theorem wR_o {M : Mm} {a i j b : Nat} {v : Nat} (h : b ≠ a ∨ j ≠ i) : mR (wR M a i v) b j = mR M b j := by
  show (if b = a ∧ j = i then v else M.2.2.2 b j) = M.2.2.2 b j
  rw [if_neg (by omega)]
theorem wR_s {M : Mm} {a i : Nat} {v : Nat} : mR (wR M a i v) a i = v := by
  show (if a = a ∧ i = i then v else M.2.2.2 a i) = v
  rw [if_pos ⟨rfl, rfl⟩]
theorem wF_o {M : Mm} {a j b : Nat} {f : Nat → Int32} (h : b ≠ a) : mI (wF M a f) b j = mI M b j := by
  show (if b = a then f j else M.2.1 b j) = M.2.1 b j
  rw [if_neg h]
theorem wF_s {M : Mm} {a : Nat} {f : Nat → Int32} : mI (wF M a f) a = f := by
  funext j
  show (if a = a then f j else M.2.1 a j) = f j
  rw [if_pos rfl]
/-- a field's new value: the world of the new memory -/
theorem put_wl {g : Nat → ClassId} {ad : Nat → Nat} {M M' : Mm} {a c k t : Nat} (h1 : M'.1 = M.1) (a0 : 0 < a) (a1 : a ≤ mN M) (a2 : (mK M a).1 = c) (h8 : c < 8) (hk : k < (tf c).length) (ht : (tf c).getD k 0 = t)
    (ho : ∀ b, b ≠ a → mI M' b = mI M b ∧ mL M' b = mL M b ∧ mR M' b = mR M b) (hs : ∀ j, j ≠ k → mI M' a j = mI M a j ∧ mL M' a j = mL M a j ∧ mR M' a j = mR M a j) :
    (wl g ad M).set (a - 1) (ad a, .inr (c, (eo ad M a (tf c)).set k (iv ad (sv M' a k t)))) = wl g ad M' := by
  have hK : ∀ b, mK M' b = mK M b := fun b => congrFun (congrArg (fun x => x.2.2.2) h1) b
  have e := wl_set (g := g) (ad := ad) (M := M) (M' := M') a0 a1 (congrArg (fun x => x.1) h1) (fun b hb => en_same (hK b) (ho b hb).1 (ho b hb).2.1 (ho b hb).2.2)
  rw [← e, en_o (by rw [hK]; exact a2) h8, ← ht]
  rw [eo_set hk (fun j hj => ?_)]
  unfold sv
  rw [(hs j hj).1, (hs j hj).2.1, (hs j hj).2.2]
def oPI (pc c k : Nat) : OP := fun kn _ ls st M => match st with
  | .int v :: .ref a :: st => cond (kk M a c) (kn (pc + 3) ls st (wI M a k v)) False
  | _ => False
def oPZ (pc c k : Nat) : OP := fun kn _ ls st M => match st with
  | .int v :: .ref a :: st => cond (kk M a c) ((v = 0 ∨ v = 1) ∧ kn (pc + 3) ls st (wI M a k v)) False
  | _ => False
def oPL (pc c k : Nat) : OP := fun kn _ ls st M => match st with
  | .long v :: .ref a :: st => cond (kk M a c) (kn (pc + 3) ls st (wL M a k v)) False
  | _ => False
def oPR (pc c k : Nat) : OP := fun kn _ ls st M => match st with
  | .ref v :: .ref a :: st => cond (kk M a c && (Nat.blt 0 v && Nat.ble v (mN M))) (kn (pc + 3) ls st (wR M a k v)) False
  | _ => False
theorem ok_putI {c k idx : Nat} {Cn : String} {T : u_T} {N : Nat} (ty0 : Nat → FieldType) (hty : ∀ k, k < N → parseFieldDescriptor (T k).2.2.1 = some (ty0 k)) (hnmf : ∀ a, a < N → ∀ b, b < N → a ≠ b → (T a).2.1 ≠ (T b).2.1) (hc : vwCl[c]? = some (Cn, T, N)) (hin : ∀ w ∈ u_ws Cn T N, w ∈ wB) (h8 : c < 8 ∧ k < N ∧ k < (tf c).length ∧ (tf c).getD k 0 = 0) (hfin : (T k).2.2.2 = false) (hti : parseFieldDescriptor (T k).2.2.1 = some .int) (hw : Cond.fieldLink q.1.cls idx (T k).1 (T k).2.1 (T k).2.2.1 ∈ wB) (hd : decode q.2.1 pc = .ok (.putfield idx, 3)) : OK l X q d na b pc (oPI pc c k) := by
  intro kn kr ls st M hk h
  simp only [oPI] at h
  split at h
  · rename_i v a st
    obtain ⟨h0, h⟩ := condT h
    obtain ⟨a0, a1, a2⟩ := kk_of h0
    refine Wf.mem (M' := wI M a k v) rfl id (fun p e R s m args below meth c' H locs cells slots Q D g ad A la hx hb hown hts hK hnm hml g1 g2 hP hD hS kx => ?_) (hk _ _ _ _ h)
    rw [List.map_cons, List.map_cons, iv_ref a0]
    have he := wl_at (g := g) (ad := ad) a0 a1
    rw [en_o a2 h8.1] at he
    have hset := put_wl (g := g) (ad := ad) (M := M) (M' := wI M a k v) (k := k) rfl a0 a1 a2 h8.1 h8.2.2.1 h8.2.2.2 (fun b hb => ⟨funext fun j => wI_o (Or.inl hb), rfl, rfl⟩) (fun j hj => ⟨wI_o (Or.inr hj), rfl, rfl⟩)
    have hv : iv ad (sv (wI M a k v) a k 0) = iv ad (.int v) := by
      show iv ad (.int (mI (wI M a k v) a k)) = _
      rw [wI_s]
    rw [hv] at hset
    refine va_put hx hb hts hin ty0 hty hnmf hown hK hP hD hS (a - 1) he hc k h8.2.1 (hts _ hw) (fun _ z => z) hfin (ty := .int) hti rfl rfl (by unfold eo; simp; exact h8.2.2.1) hd (fun H1 locs1 p1 p2 p3 => ?_)
    rw [hset] at p1 p2
    exact kx H1 locs1 p1 p2 p3
  · exact h.elim
theorem ok_putZ {c k idx : Nat} {Cn : String} {T : u_T} {N : Nat} (ty0 : Nat → FieldType) (hty : ∀ k, k < N → parseFieldDescriptor (T k).2.2.1 = some (ty0 k)) (hnmf : ∀ a, a < N → ∀ b, b < N → a ≠ b → (T a).2.1 ≠ (T b).2.1) (hc : vwCl[c]? = some (Cn, T, N)) (hin : ∀ w ∈ u_ws Cn T N, w ∈ wB) (h8 : c < 8 ∧ k < N ∧ k < (tf c).length ∧ (tf c).getD k 0 = 0) (hfin : (T k).2.2.2 = false) (hti : parseFieldDescriptor (T k).2.2.1 = some .boolean) (hw : Cond.fieldLink q.1.cls idx (T k).1 (T k).2.1 (T k).2.2.1 ∈ wB) (hd : decode q.2.1 pc = .ok (.putfield idx, 3)) : OK l X q d na b pc (oPZ pc c k) := by
  intro kn kr ls st M hk h
  simp only [oPZ] at h
  split at h
  · rename_i v a st
    obtain ⟨h0, h⟩ := condT h
    obtain ⟨a0, a1, a2⟩ := kk_of h0
    refine Wf.mem (M' := wI M a k v) rfl id (fun p e R s m args below meth c' H locs cells slots Q D g ad A la hx hb hown hts hK hnm hml g1 g2 hP hD hS kx => ?_) (hk _ _ _ _ h.2)
    rw [List.map_cons, List.map_cons, iv_ref a0]
    have he := wl_at (g := g) (ad := ad) a0 a1
    rw [en_o a2 h8.1] at he
    have hset := put_wl (g := g) (ad := ad) (M := M) (M' := wI M a k v) (k := k) rfl a0 a1 a2 h8.1 h8.2.2.1 h8.2.2.2 (fun b hb => ⟨funext fun j => wI_o (Or.inl hb), rfl, rfl⟩) (fun j hj => ⟨wI_o (Or.inr hj), rfl, rfl⟩)
    have hv : iv ad (sv (wI M a k v) a k 0) = iv ad (.int v) := by
      show iv ad (.int (mI (wI M a k v) a k)) = _
      rw [wI_s]
    rw [hv] at hset
    refine va_put hx hb hts hin ty0 hty hnmf hown hK hP hD hS (a - 1) he hc k h8.2.1 (hts _ hw) (fun _ z => z) hfin (ty := .boolean) hti (by rcases h.1 with e | e <;> rw [e] <;> rfl) (by rcases h.1 with e | e <;> rw [e] <;> rfl) (by unfold eo; simp; exact h8.2.2.1) hd (fun H1 locs1 p1 p2 p3 => ?_)
    rw [hset] at p1 p2
    exact kx H1 locs1 p1 p2 p3
  · exact h.elim
theorem ok_putL {c k idx : Nat} {Cn : String} {T : u_T} {N : Nat} (ty0 : Nat → FieldType) (hty : ∀ k, k < N → parseFieldDescriptor (T k).2.2.1 = some (ty0 k)) (hnmf : ∀ a, a < N → ∀ b, b < N → a ≠ b → (T a).2.1 ≠ (T b).2.1) (hc : vwCl[c]? = some (Cn, T, N)) (hin : ∀ w ∈ u_ws Cn T N, w ∈ wB) (h8 : c < 8 ∧ k < N ∧ k < (tf c).length ∧ (tf c).getD k 0 = 1) (hfin : (T k).2.2.2 = false) (hti : parseFieldDescriptor (T k).2.2.1 = some .long) (hw : Cond.fieldLink q.1.cls idx (T k).1 (T k).2.1 (T k).2.2.1 ∈ wB) (hd : decode q.2.1 pc = .ok (.putfield idx, 3)) : OK l X q d na b pc (oPL pc c k) := by
  intro kn kr ls st M hk h
  simp only [oPL] at h
  split at h
  · rename_i v a st
    obtain ⟨h0, h⟩ := condT h
    obtain ⟨a0, a1, a2⟩ := kk_of h0
    refine Wf.mem (M' := wL M a k v) rfl id (fun p e R s m args below meth c' H locs cells slots Q D g ad A la hx hb hown hts hK hnm hml g1 g2 hP hD hS kx => ?_) (hk _ _ _ _ h)
    rw [List.map_cons, List.map_cons, iv_ref a0]
    have he := wl_at (g := g) (ad := ad) a0 a1
    rw [en_o a2 h8.1] at he
    have hset := put_wl (g := g) (ad := ad) (M := M) (M' := wL M a k v) (k := k) rfl a0 a1 a2 h8.1 h8.2.2.1 h8.2.2.2 (fun b hb => ⟨rfl, funext fun j => wL_o (Or.inl hb), rfl⟩) (fun j hj => ⟨rfl, wL_o (Or.inr hj), rfl⟩)
    have hv : iv ad (sv (wL M a k v) a k 1) = iv ad (.long v) := by
      show iv ad (.long (mL (wL M a k v) a k)) = _
      rw [wL_s]
    rw [hv] at hset
    refine va_put hx hb hts hin ty0 hty hnmf hown hK hP hD hS (a - 1) he hc k h8.2.1 (hts _ hw) (fun _ z => z) hfin (ty := .long) hti rfl rfl (by unfold eo; simp; exact h8.2.2.1) hd (fun H1 locs1 p1 p2 p3 => ?_)
    rw [hset] at p1 p2
    exact kx H1 locs1 p1 p2 p3
  · exact h.elim
theorem ok_putRO {Cf : String} {c k idx : Nat} {Cn : String} {T : u_T} {N : Nat} (ty0 : Nat → FieldType) (hty : ∀ k, k < N → parseFieldDescriptor (T k).2.2.1 = some (ty0 k)) (hnmf : ∀ a, a < N → ∀ b, b < N → a ≠ b → (T a).2.1 ≠ (T b).2.1) (hc : vwCl[c]? = some (Cn, T, N)) (hin : ∀ w ∈ u_ws Cn T N, w ∈ wB) (h8 : c < 8 ∧ k < N ∧ k < (tf c).length ∧ (tf c).getD k 0 = 2) (hfin : (T k).2.2.2 = false) (hti : parseFieldDescriptor (T k).2.2.1 = some (.object Cf)) (hw : Cond.fieldLink q.1.cls idx (T k).1 (T k).2.1 (T k).2.2.1 ∈ wB) (hd : decode q.2.1 pc = .ok (.putfield idx, 3)) : OK l X q d na b pc (oPR pc c k) := by
  intro kn kr ls st M hk h
  simp only [oPR] at h
  split at h
  · rename_i v a st
    obtain ⟨h0, h⟩ := condT h
    obtain ⟨h0, v1⟩ := Bool.and_eq_true_iff.mp h0
    obtain ⟨v0, v1⟩ := Bool.and_eq_true_iff.mp v1
    have v0 : 0 < v := Nat.le_of_ble_eq_true v0
    have v1 := Nat.le_of_ble_eq_true v1
    obtain ⟨a0, a1, a2⟩ := kk_of h0
    refine Wf.mem (M' := wR M a k v) rfl (fun z b j => by
      show (if b = a ∧ j = k then v else M.2.2.2 b j) ≤ mN M
      split
      · exact v1
      · exact z b j) (fun p e R s m args below meth c' H locs cells slots Q D g ad A la hx hb hown hts hK hnm hml g1 g2 hP hD hS kx => ?_) (hk _ _ _ _ h)
    rw [List.map_cons, List.map_cons, iv_ref a0, iv_ref v0]
    have he := wl_at (g := g) (ad := ad) a0 a1
    rw [en_o a2 h8.1] at he
    have hset := put_wl (g := g) (ad := ad) (M := M) (M' := wR M a k v) (k := k) rfl a0 a1 a2 h8.1 h8.2.2.1 h8.2.2.2 (fun b hb => ⟨rfl, rfl, funext fun j => wR_o (Or.inl hb)⟩) (fun j hj => ⟨rfl, rfl, wR_o (Or.inr hj)⟩)
    have hv : iv ad (sv (wR M a k v) a k 2) = .ref (ad v) := by
      show iv ad (.ref (mR (wR M a k v) a k)) = _
      rw [wR_s]; exact iv_ref v0
    rw [hv] at hset
    refine va_put hx hb hts hin ty0 hty hnmf hown hK hP hD hS (a - 1) he hc k h8.2.1 (hts _ hw) (fun _ z => z) hfin (ty := .object Cf) hti rfl rfl (by unfold eo; simp; exact h8.2.2.1) hd (fun H1 locs1 p1 p2 p3 => ?_)
    rw [hset] at p1 p2
    exact kx H1 locs1 p1 p2 p3
  · exact h.elim
theorem ok_putRA {tf0 : FieldType} {c k idx : Nat} {Cn : String} {T : u_T} {N : Nat} (ty0 : Nat → FieldType) (hty : ∀ k, k < N → parseFieldDescriptor (T k).2.2.1 = some (ty0 k)) (hnmf : ∀ a, a < N → ∀ b, b < N → a ≠ b → (T a).2.1 ≠ (T b).2.1) (hc : vwCl[c]? = some (Cn, T, N)) (hin : ∀ w ∈ u_ws Cn T N, w ∈ wB) (h8 : c < 8 ∧ k < N ∧ k < (tf c).length ∧ (tf c).getD k 0 = 2) (hfin : (T k).2.2.2 = false) (hti : parseFieldDescriptor (T k).2.2.1 = some (.array tf0)) (hw : Cond.fieldLink q.1.cls idx (T k).1 (T k).2.1 (T k).2.2.1 ∈ wB) (hd : decode q.2.1 pc = .ok (.putfield idx, 3)) : OK l X q d na b pc (oPR pc c k) := by
  intro kn kr ls st M hk h
  simp only [oPR] at h
  split at h
  · rename_i v a st
    obtain ⟨h0, h⟩ := condT h
    obtain ⟨h0, v1⟩ := Bool.and_eq_true_iff.mp h0
    obtain ⟨v0, v1⟩ := Bool.and_eq_true_iff.mp v1
    have v0 : 0 < v := Nat.le_of_ble_eq_true v0
    have v1 := Nat.le_of_ble_eq_true v1
    obtain ⟨a0, a1, a2⟩ := kk_of h0
    refine Wf.mem (M' := wR M a k v) rfl (fun z b j => by
      show (if b = a ∧ j = k then v else M.2.2.2 b j) ≤ mN M
      split
      · exact v1
      · exact z b j) (fun p e R s m args below meth c' H locs cells slots Q D g ad A la hx hb hown hts hK hnm hml g1 g2 hP hD hS kx => ?_) (hk _ _ _ _ h)
    rw [List.map_cons, List.map_cons, iv_ref a0, iv_ref v0]
    have he := wl_at (g := g) (ad := ad) a0 a1
    rw [en_o a2 h8.1] at he
    have hset := put_wl (g := g) (ad := ad) (M := M) (M' := wR M a k v) (k := k) rfl a0 a1 a2 h8.1 h8.2.2.1 h8.2.2.2 (fun b hb => ⟨rfl, rfl, funext fun j => wR_o (Or.inl hb)⟩) (fun j hj => ⟨rfl, rfl, wR_o (Or.inr hj)⟩)
    have hv : iv ad (sv (wR M a k v) a k 2) = .ref (ad v) := by
      show iv ad (.ref (mR (wR M a k v) a k)) = _
      rw [wR_s]; exact iv_ref v0
    rw [hv] at hset
    refine va_put hx hb hts hin ty0 hty hnmf hown hK hP hD hS (a - 1) he hc k h8.2.1 (hts _ hw) (fun _ z => z) hfin (ty := .array tf0) hti rfl rfl (by unfold eo; simp; exact h8.2.2.1) hd (fun H1 locs1 p1 p2 p3 => ?_)
    rw [hset] at p1 p2
    exact kx H1 locs1 p1 p2 p3
  · exact h.elim
theorem ok_putRFO {Cf : String} {c k idx : Nat} {Cn : String} {T : u_T} {N : Nat} (ty0 : Nat → FieldType) (hty : ∀ k, k < N → parseFieldDescriptor (T k).2.2.1 = some (ty0 k)) (hnmf : ∀ a, a < N → ∀ b, b < N → a ≠ b → (T a).2.1 ≠ (T b).2.1) (hc : vwCl[c]? = some (Cn, T, N)) (hin : ∀ w ∈ u_ws Cn T N, w ∈ wB) (h8 : c < 8 ∧ k < N ∧ k < (tf c).length ∧ (tf c).getD k 0 = 2) (hfin : (T k).2.2.2 = true) (hini : q.1.name = "<init>") (hdecl : (T k).1 = q.1.cls) (hti : parseFieldDescriptor (T k).2.2.1 = some (.object Cf)) (hw : Cond.fieldLink q.1.cls idx (T k).1 (T k).2.1 (T k).2.2.1 ∈ wB) (hd : decode q.2.1 pc = .ok (.putfield idx, 3)) : OK l X q d na b pc (oPR pc c k) := by
  intro kn kr ls st M hk h
  simp only [oPR] at h
  split at h
  · rename_i v a st
    obtain ⟨h0, h⟩ := condT h
    obtain ⟨h0, v1⟩ := Bool.and_eq_true_iff.mp h0
    obtain ⟨v0, v1⟩ := Bool.and_eq_true_iff.mp v1
    have v0 : 0 < v := Nat.le_of_ble_eq_true v0
    have v1 := Nat.le_of_ble_eq_true v1
    obtain ⟨a0, a1, a2⟩ := kk_of h0
    refine Wf.mem (M' := wR M a k v) rfl (fun z b j => by
      show (if b = a ∧ j = k then v else M.2.2.2 b j) ≤ mN M
      split
      · exact v1
      · exact z b j) (fun p e R s m args below meth c' H locs cells slots Q D g ad A la hx hb hown hts hK hnm hml g1 g2 hP hD hS kx => ?_) (hk _ _ _ _ h)
    rw [List.map_cons, List.map_cons, iv_ref a0, iv_ref v0]
    have he := wl_at (g := g) (ad := ad) a0 a1
    rw [en_o a2 h8.1] at he
    have hset := put_wl (g := g) (ad := ad) (M := M) (M' := wR M a k v) (k := k) rfl a0 a1 a2 h8.1 h8.2.2.1 h8.2.2.2 (fun b hb => ⟨rfl, rfl, funext fun j => wR_o (Or.inl hb)⟩) (fun j hj => ⟨rfl, rfl, wR_o (Or.inr hj)⟩)
    have hv : iv ad (sv (wR M a k v) a k 2) = .ref (ad v) := by
      show iv ad (.ref (mR (wR M a k v) a k)) = _
      rw [wR_s]; exact iv_ref v0
    rw [hv] at hset
    refine va_putF hx hb hts hin ty0 hty hnmf hown hK hP hD hS (a - 1) he hc k h8.2.1 (hts _ hw) (fun _ z => z) hfin (hnm.trans hini) hdecl (ty := .object Cf) hti rfl rfl (by unfold eo; simp; exact h8.2.2.1) hd (fun H1 locs1 p1 p2 p3 => ?_)
    rw [hset] at p1 p2
    exact kx H1 locs1 p1 p2 p3
  · exact h.elim
theorem ok_putRFA {tf0 : FieldType} {c k idx : Nat} {Cn : String} {T : u_T} {N : Nat} (ty0 : Nat → FieldType) (hty : ∀ k, k < N → parseFieldDescriptor (T k).2.2.1 = some (ty0 k)) (hnmf : ∀ a, a < N → ∀ b, b < N → a ≠ b → (T a).2.1 ≠ (T b).2.1) (hc : vwCl[c]? = some (Cn, T, N)) (hin : ∀ w ∈ u_ws Cn T N, w ∈ wB) (h8 : c < 8 ∧ k < N ∧ k < (tf c).length ∧ (tf c).getD k 0 = 2) (hfin : (T k).2.2.2 = true) (hini : q.1.name = "<init>") (hdecl : (T k).1 = q.1.cls) (hti : parseFieldDescriptor (T k).2.2.1 = some (.array tf0)) (hw : Cond.fieldLink q.1.cls idx (T k).1 (T k).2.1 (T k).2.2.1 ∈ wB) (hd : decode q.2.1 pc = .ok (.putfield idx, 3)) : OK l X q d na b pc (oPR pc c k) := by
  intro kn kr ls st M hk h
  simp only [oPR] at h
  split at h
  · rename_i v a st
    obtain ⟨h0, h⟩ := condT h
    obtain ⟨h0, v1⟩ := Bool.and_eq_true_iff.mp h0
    obtain ⟨v0, v1⟩ := Bool.and_eq_true_iff.mp v1
    have v0 : 0 < v := Nat.le_of_ble_eq_true v0
    have v1 := Nat.le_of_ble_eq_true v1
    obtain ⟨a0, a1, a2⟩ := kk_of h0
    refine Wf.mem (M' := wR M a k v) rfl (fun z b j => by
      show (if b = a ∧ j = k then v else M.2.2.2 b j) ≤ mN M
      split
      · exact v1
      · exact z b j) (fun p e R s m args below meth c' H locs cells slots Q D g ad A la hx hb hown hts hK hnm hml g1 g2 hP hD hS kx => ?_) (hk _ _ _ _ h)
    rw [List.map_cons, List.map_cons, iv_ref a0, iv_ref v0]
    have he := wl_at (g := g) (ad := ad) a0 a1
    rw [en_o a2 h8.1] at he
    have hset := put_wl (g := g) (ad := ad) (M := M) (M' := wR M a k v) (k := k) rfl a0 a1 a2 h8.1 h8.2.2.1 h8.2.2.2 (fun b hb => ⟨rfl, rfl, funext fun j => wR_o (Or.inl hb)⟩) (fun j hj => ⟨rfl, rfl, wR_o (Or.inr hj)⟩)
    have hv : iv ad (sv (wR M a k v) a k 2) = .ref (ad v) := by
      show iv ad (.ref (mR (wR M a k v) a k)) = _
      rw [wR_s]; exact iv_ref v0
    rw [hv] at hset
    refine va_putF hx hb hts hin ty0 hty hnmf hown hK hP hD hS (a - 1) he hc k h8.2.1 (hts _ hw) (fun _ z => z) hfin (hnm.trans hini) hdecl (ty := .array tf0) hti rfl rfl (by unfold eo; simp; exact h8.2.2.1) hd (fun H1 locs1 p1 p2 p3 => ?_)
    rw [hset] at p1 p2
    exact kx H1 locs1 p1 p2 p3
  · exact h.elim
/-! arrays -/
theorem vinj {j N : Nat} (h : j < 1000) (h2 : j < N) : vp_in (nI j) N ∧ (nI j).toNatClampNeg = j :=
  ⟨fun z => z.elim (nI_pos (by omega)) (fun z => by rw [nI_clamp (by omega)] at z; omega), nI_clamp (by omega)⟩
def oIal (pc : Nat) : OP := fun kn _ ls st M => match st with
  | .int i :: .ref a :: st => cond (kk M a 9) (∃ j : Nat, (i = nI j ∧ j < 1000 ∧ j < (mK M a).2) ∧ kn (pc + 1) ls (.int (mI M a j) :: st) M) False
  | _ => False
def oBal (pc : Nat) : OP := fun kn _ ls st M => match st with
  | .int i :: .ref a :: st => cond (kk M a 8) (∃ j : Nat, (i = nI j ∧ j < 1000 ∧ j < (mK M a).2) ∧ kn (pc + 1) ls (.int (mI M a j) :: st) M) False
  | _ => False
def oLal (pc : Nat) : OP := fun kn _ ls st M => match st with
  | .int i :: .ref a :: st => cond (kk M a 10) (∃ j : Nat, (i = nI j ∧ j < 1000 ∧ j < (mK M a).2) ∧ kn (pc + 1) ls (.long (mL M a j) :: st) M) False
  | _ => False
def oAal (pc c : Nat) : OP := fun kn _ ls st M => match st with
  | .int i :: .ref a :: st => cond (kk M a c) (∃ j : Nat, (i = nI j ∧ j < 1000 ∧ j < (mK M a).2) ∧ kn (pc + 1) ls (.ref (mR M a j) :: st) M) False
  | _ => False
theorem ok_iaload (hd : decode q.2.1 pc = .ok (.iaload, 1)) : OK l X q d na b pc (oIal pc) := by
  intro kn kr ls st M hk h
  simp only [oIal] at h
  split at h
  · rename_i i a st
    obtain ⟨h0, j0, ⟨rfl, j1, j2⟩, h9⟩ := condT h
    clear h
    have h := h9
    clear h9
    obtain ⟨h1, j3⟩ := vinj j1 j2
    rw [← j3] at h
    generalize nI j0 = i at h h1 j3 ⊢
    obtain ⟨a0, a1, a2⟩ := kk_of h0
    refine Wf.mem rfl id (fun p e R s m args below meth c' H locs cells slots Q D g ad A la hx hb hown hts hK hnm hml g1 g2 hP hD hS kx => ?_) (hk _ _ _ _ h)
    rw [List.map_cons, List.map_cons, iv_ref a0]
    have he := wl_at (g := g) (ad := ad) a0 a1
    rw [en_i a2] at he
    exact va_iald hx hb hK hP (a - 1) 1 he rfl h1 hd (kx H locs hP hD hS)
  · exact h.elim
theorem ok_baload (hd : decode q.2.1 pc = .ok (.baload, 1)) : OK l X q d na b pc (oBal pc) := by
  intro kn kr ls st M hk h
  simp only [oBal] at h
  split at h
  · rename_i i a st
    obtain ⟨h0, j0, ⟨rfl, j1, j2⟩, h9⟩ := condT h
    clear h
    have h := h9
    clear h9
    obtain ⟨h1, j3⟩ := vinj j1 j2
    rw [← j3] at h
    generalize nI j0 = i at h h1 j3 ⊢
    obtain ⟨a0, a1, a2⟩ := kk_of h0
    refine Wf.mem rfl id (fun p e R s m args below meth c' H locs cells slots Q D g ad A la hx hb hown hts hK hnm hml g1 g2 hP hD hS kx => ?_) (hk _ _ _ _ h)
    rw [List.map_cons, List.map_cons, iv_ref a0]
    have he := wl_at (g := g) (ad := ad) a0 a1
    rw [en_b a2] at he
    exact va_bald hx hb hK hP (a - 1) 0 he rfl h1 hd (kx H locs hP hD hS)
  · exact h.elim
theorem ok_laload (hd : decode q.2.1 pc = .ok (.laload, 1)) : OK l X q d na b pc (oLal pc) := by
  intro kn kr ls st M hk h
  simp only [oLal] at h
  split at h
  · rename_i i a st
    obtain ⟨h0, j0, ⟨rfl, j1, j2⟩, h9⟩ := condT h
    clear h
    have h := h9
    clear h9
    obtain ⟨h1, j3⟩ := vinj j1 j2
    rw [← j3] at h
    generalize nI j0 = i at h h1 j3 ⊢
    obtain ⟨a0, a1, a2⟩ := kk_of h0
    refine Wf.mem rfl id (fun p e R s m args below meth c' H locs cells slots Q D g ad A la hx hb hown hts hK hnm hml g1 g2 hP hD hS kx => ?_) (hk _ _ _ _ h)
    rw [List.map_cons, List.map_cons, iv_ref a0]
    have he := wl_at (g := g) (ad := ad) a0 a1
    rw [en_j a2] at he
    exact va_lald hx hb hK hP (a - 1) 2 he rfl h1 hd (kx H locs hP hD hS)
  · exact h.elim
theorem ok_aaloadM (hd : decode q.2.1 pc = .ok (.aaload, 1)) : OK l X q d na b pc (oAal pc 11) := by
  intro kn kr ls st M hk h
  simp only [oAal] at h
  split at h
  · rename_i i a st
    obtain ⟨h0, j0, ⟨rfl, j1, j2⟩, h9⟩ := condT h
    clear h
    have h := h9
    clear h9
    obtain ⟨h1, j3⟩ := vinj j1 j2
    rw [← j3] at h
    generalize nI j0 = i at h h1 j3 ⊢
    obtain ⟨a0, a1, a2⟩ := kk_of h0
    refine Wf.mem rfl id (fun p e R s m args below meth c' H locs cells slots Q D g ad A la hx hb hown hts hK hnm hml g1 g2 hP hD hS kx => ?_) (hk _ _ _ _ h)
    rw [List.map_cons, List.map_cons, iv_ref a0]
    have he := wl_at (g := g) (ad := ad) a0 a1
    rw [en_q a2 (by decide)] at he
    have hlt : i.toNatClampNeg < (mK M a).2 := Nat.not_le.mp fun z => h1 (Or.inr z)
    have kx := kx H locs hP hD hS
    rw [List.map_cons, ← er_rf] at kx
    exact W.aald (v := va_rf (er ad M a i.toNatClampNeg)) (ty := .object RX2) hx hb (hP (a - 1) _ he) ((hK.2 3 _ rfl).1 (mK M a).2 (fun j => va_rf (er ad M a j))) rfl (fun z => by cases z) (by show ¬ (i < 0 ∨ (arrV _ _ _).slots.size ≤ _); rw [arrV_size]; exact h1) (by show (arrV _ _ _).slots[_]? = _; rw [arrV_read _ _ hlt]) rfl rfl hd kx
  · exact h.elim
theorem ok_aaloadI (hd : decode q.2.1 pc = .ok (.aaload, 1)) : OK l X q d na b pc (oAal pc 12) := by
  intro kn kr ls st M hk h
  simp only [oAal] at h
  split at h
  · rename_i i a st
    obtain ⟨h0, j0, ⟨rfl, j1, j2⟩, h9⟩ := condT h
    clear h
    have h := h9
    clear h9
    obtain ⟨h1, j3⟩ := vinj j1 j2
    rw [← j3] at h
    generalize nI j0 = i at h h1 j3 ⊢
    obtain ⟨a0, a1, a2⟩ := kk_of h0
    refine Wf.mem rfl id (fun p e R s m args below meth c' H locs cells slots Q D g ad A la hx hb hown hts hK hnm hml g1 g2 hP hD hS kx => ?_) (hk _ _ _ _ h)
    rw [List.map_cons, List.map_cons, iv_ref a0]
    have he := wl_at (g := g) (ad := ad) a0 a1
    rw [en_q a2 (by decide)] at he
    have hlt : i.toNatClampNeg < (mK M a).2 := Nat.not_le.mp fun z => h1 (Or.inr z)
    have kx := kx H locs hP hD hS
    rw [List.map_cons, ← er_rf] at kx
    exact W.aald (v := va_rf (er ad M a i.toNatClampNeg)) (ty := .array .int) hx hb (hP (a - 1) _ he) ((hK.2 4 _ rfl).1 (mK M a).2 (fun j => va_rf (er ad M a j))) rfl (fun z => by cases z) (by show ¬ (i < 0 ∨ (arrV _ _ _).slots.size ≤ _); rw [arrV_size]; exact h1) (by show (arrV _ _ _).slots[_]? = _; rw [arrV_read _ _ hlt]) rfl rfl hd kx
  · exact h.elim
/-- an array's new place: the world of the new memory -/
theorem ast_wl {g : Nat → ClassId} {ad : Nat → Nat} {M M' : Mm} {a : Nat} {e : va_E} (h1 : M'.1 = M.1) (a0 : 0 < a) (a1 : a ≤ mN M) (ho : ∀ b, b ≠ a → mI M' b = mI M b ∧ mL M' b = mL M b ∧ mR M' b = mR M b) (he : en g ad M' a = e) : (wl g ad M).set (a - 1) (ad a, e) = wl g ad M' := by
  have hK : ∀ b, mK M' b = mK M b := fun b => congrFun (congrArg (fun x => x.2.2.2) h1) b
  rw [← he]
  exact wl_set a0 a1 (congrArg (fun x => x.1) h1) (fun b hb => en_same (hK b) (ho b hb).1 (ho b hb).2.1 (ho b hb).2.2)
theorem wI_upd {M : Mm} {a i : Nat} {v : Int32} : mI (wI M a i v) a = upd (mI M a) i v := by
  funext j
  show (if a = a ∧ j = i then v else M.2.1 a j) = if j = i then v else M.2.1 a j
  by_cases hj : j = i
  · rw [if_pos ⟨rfl, hj⟩, if_pos hj]
  · rw [if_neg (fun z => hj z.2), if_neg hj]
theorem wL_upd {M : Mm} {a i : Nat} {v : Int64} : mL (wL M a i v) a = vp_updL (mL M a) i v := by
  funext j
  show (if a = a ∧ j = i then v else M.2.2.1 a j) = if j = i then v else M.2.2.1 a j
  by_cases hj : j = i
  · rw [if_pos ⟨rfl, hj⟩, if_pos hj]
  · rw [if_neg (fun z => hj z.2), if_neg hj]
def oIas (pc : Nat) : OP := fun kn _ ls st M => match st with
  | .int v :: .int i :: .ref a :: st => cond (kk M a 9) (∃ j : Nat, (i = nI j ∧ j < 1000 ∧ j < (mK M a).2) ∧ kn (pc + 1) ls st (wI M a j v)) False
  | _ => False
def oBas (pc : Nat) : OP := fun kn _ ls st M => match st with
  | .int v :: .int i :: .ref a :: st => cond (kk M a 8) (∃ j : Nat, (i = nI j ∧ j < 1000 ∧ j < (mK M a).2) ∧ kn (pc + 1) ls st (wI M a j v.toInt8.toInt32)) False
  | _ => False
def oLas (pc : Nat) : OP := fun kn _ ls st M => match st with
  | .long v :: .int i :: .ref a :: st => cond (kk M a 10) (∃ j : Nat, (i = nI j ∧ j < 1000 ∧ j < (mK M a).2) ∧ kn (pc + 1) ls st (wL M a j v)) False
  | _ => False
def oAas (pc : Nat) : OP := fun kn _ ls st M => match st with
  | .ref v :: .int i :: .ref a :: st => cond (kk M a 11 && kk M v 2) (∃ j : Nat, (i = nI j ∧ j < 1000 ∧ j < (mK M a).2) ∧ kn (pc + 1) ls st (wR M a j v)) False
  | _ => False
theorem ok_iastore (hd : decode q.2.1 pc = .ok (.iastore, 1)) : OK l X q d na b pc (oIas pc) := by
  intro kn kr ls st M hk h
  simp only [oIas] at h
  split at h
  · rename_i v i a st
    obtain ⟨h0, j0, ⟨rfl, j1, j2⟩, h9⟩ := condT h
    clear h
    have h := h9
    clear h9
    obtain ⟨h1, j3⟩ := vinj j1 j2
    rw [← j3] at h
    generalize nI j0 = i at h h1 j3 ⊢
    obtain ⟨a0, a1, a2⟩ := kk_of h0
    refine Wf.mem (M' := wI M a i.toNatClampNeg v) rfl id (fun p e R s m args below meth c' H locs cells slots Q D g ad A la hx hb hown hts hK hnm hml g1 g2 hP hD hS kx => ?_) (hk _ _ _ _ h)
    rw [List.map_cons, List.map_cons, List.map_cons, iv_ref a0]
    have he := wl_at (g := g) (ad := ad) a0 a1
    rw [en_i a2] at he
    refine va_iast hx hb hK hP hD hS (a - 1) 1 he rfl h1 hd (fun H1 locs1 p1 p2 p3 => ?_)
    have hset := ast_wl (g := g) (ad := ad) (M := M) (M' := wI M a i.toNatClampNeg v) (e := .inl (g 9, (mK M a).2, .inl (upd (mI M a) i.toNatClampNeg v))) rfl a0 a1 (fun b hb => ⟨funext fun j => wI_o (Or.inl hb), rfl, rfl⟩) (by rw [en_i (M := wI M a i.toNatClampNeg v) a2, wI_upd]; rfl)
    rw [hset] at p1 p2
    exact kx H1 locs1 p1 p2 p3
  · exact h.elim
theorem ok_bastore (hd : decode q.2.1 pc = .ok (.bastore, 1)) : OK l X q d na b pc (oBas pc) := by
  intro kn kr ls st M hk h
  simp only [oBas] at h
  split at h
  · rename_i v i a st
    obtain ⟨h0, j0, ⟨rfl, j1, j2⟩, h9⟩ := condT h
    clear h
    have h := h9
    clear h9
    obtain ⟨h1, j3⟩ := vinj j1 j2
    rw [← j3] at h
    generalize nI j0 = i at h h1 j3 ⊢
    obtain ⟨a0, a1, a2⟩ := kk_of h0
    refine Wf.mem (M' := wI M a i.toNatClampNeg v.toInt8.toInt32) rfl id (fun p e R s m args below meth c' H locs cells slots Q D g ad A la hx hb hown hts hK hnm hml g1 g2 hP hD hS kx => ?_) (hk _ _ _ _ h)
    rw [List.map_cons, List.map_cons, List.map_cons, iv_ref a0]
    have he := wl_at (g := g) (ad := ad) a0 a1
    rw [en_b a2] at he
    refine va_bast hx hb hK hP hD hS (a - 1) 0 he rfl h1 hd (fun H1 locs1 p1 p2 p3 => ?_)
    have hset := ast_wl (g := g) (ad := ad) (M := M) (M' := wI M a i.toNatClampNeg v.toInt8.toInt32) (e := .inl (g 8, (mK M a).2, .inl (upd (mI M a) i.toNatClampNeg (vp_nar .byte v)))) rfl a0 a1 (fun b hb => ⟨funext fun j => wI_o (Or.inl hb), rfl, rfl⟩) (by rw [en_b (M := wI M a i.toNatClampNeg v.toInt8.toInt32) a2, wI_upd]; rfl)
    rw [hset] at p1 p2
    exact kx H1 locs1 p1 p2 p3
  · exact h.elim
theorem ok_lastore (hd : decode q.2.1 pc = .ok (.lastore, 1)) : OK l X q d na b pc (oLas pc) := by
  intro kn kr ls st M hk h
  simp only [oLas] at h
  split at h
  · rename_i v i a st
    obtain ⟨h0, j0, ⟨rfl, j1, j2⟩, h9⟩ := condT h
    clear h
    have h := h9
    clear h9
    obtain ⟨h1, j3⟩ := vinj j1 j2
    rw [← j3] at h
    generalize nI j0 = i at h h1 j3 ⊢
    obtain ⟨a0, a1, a2⟩ := kk_of h0
    refine Wf.mem (M' := wL M a i.toNatClampNeg v) rfl id (fun p e R s m args below meth c' H locs cells slots Q D g ad A la hx hb hown hts hK hnm hml g1 g2 hP hD hS kx => ?_) (hk _ _ _ _ h)
    rw [List.map_cons, List.map_cons, List.map_cons, iv_ref a0]
    have he := wl_at (g := g) (ad := ad) a0 a1
    rw [en_j a2] at he
    refine va_last hx hb hK hP hD hS (a - 1) 2 he rfl h1 hd (fun H1 locs1 p1 p2 p3 => ?_)
    have hset := ast_wl (g := g) (ad := ad) (M := M) (M' := wL M a i.toNatClampNeg v) (e := .inl (g 10, (mK M a).2, .inr (.inl (vp_updL (mL M a) i.toNatClampNeg v)))) rfl a0 a1 (fun b hb => ⟨rfl, funext fun j => wL_o (Or.inl hb), rfl⟩) (by rw [en_j (M := wL M a i.toNatClampNeg v) a2, wL_upd]; rfl)
    rw [hset] at p1 p2
    exact kx H1 locs1 p1 p2 p3
  · exact h.elim
theorem ok_aastore (hd : decode q.2.1 pc = .ok (.aastore, 1)) : OK l X q d na b pc (oAas pc) := by
  intro kn kr ls st M hk h
  simp only [oAas] at h
  split at h
  · rename_i v i a st
    obtain ⟨h0, j0, ⟨rfl, j1, j2⟩, h9⟩ := condT h
    clear h
    have h := h9
    clear h9
    obtain ⟨h1, j3⟩ := vinj j1 j2
    rw [← j3] at h
    generalize nI j0 = i at h h1 j3 ⊢
    obtain ⟨h0, hv⟩ := Bool.and_eq_true_iff.mp h0
    obtain ⟨a0, a1, a2⟩ := kk_of h0
    obtain ⟨v0, v1, v2⟩ := kk_of hv
    refine Wf.mem (M' := wR M a i.toNatClampNeg v) rfl (fun z b j => by
      show (if b = a ∧ j = i.toNatClampNeg then v else M.2.2.2 b j) ≤ mN M
      split
      · exact v1
      · exact z b j) (fun p e R s m args below meth c' H locs cells slots Q D g ad A la hx hb hown hts hK hnm hml g1 g2 hP hD hS kx => ?_) (hk _ _ _ _ h)
    rw [List.map_cons, List.map_cons, List.map_cons, iv_ref a0, iv_ref v0]
    have he := wl_at (g := g) (ad := ad) a0 a1
    rw [en_q a2 (by decide)] at he
    have hev := wl_at (g := g) (ad := ad) v0 v1
    rw [en_o v2 (by decide)] at hev
    refine va_astq (r := (RX2, TX2, 6)) hx hb hK hP hD hS (a - 1) 3 (v - 1) 2 he rfl hev rfl h1 hd (fun H1 locs1 p1 p2 p3 => ?_)
    have hset := ast_wl (g := g) (ad := ad) (M := M) (M' := wR M a i.toNatClampNeg v) (e := .inl (g 11, (mK M a).2, .inr (.inr (.inr (.inr (va_up (er ad M a) i.toNatClampNeg (some (ad v)))))))) rfl a0 a1 (fun b hb => ⟨rfl, rfl, funext fun j => wR_o (Or.inl hb)⟩) ?_
    · rw [hset] at p1 p2
      exact kx H1 locs1 p1 p2 p3
    · rw [en_q (M := wR M a i.toNatClampNeg v) a2 (by decide)]
      have e2 : er ad (wR M a i.toNatClampNeg v) a = va_up (er ad M a) i.toNatClampNeg (some (ad v)) := by
        funext j
        unfold er va_up
        by_cases hj : j = i.toNatClampNeg
        · rw [if_pos hj, hj, wR_s]
          cases v with
          | zero => exact absurd v0 (Nat.lt_irrefl 0)
          | succ n => rfl
        · rw [if_neg hj, wR_o (Or.inr hj)]
      rw [e2]
      rfl
  · exact h.elim
/-! the script -/
def oScd (X : Nat × (Nat → Int32)) (pc : Nat) : OP := fun kn _ ls st M => match st with
  | .int i :: .ref 4999 :: st => vp_in i X.1 ∧ kn (pc + 1) ls (.int (X.2 i.toNatClampNeg) :: st) M
  | _ => False
def oScl (X : Nat × (Nat → Int32)) (pc : Nat) : OP := fun kn _ ls st M => match st with
  | .ref 4999 :: st => kn (pc + 1) ls (.int (Int32.ofNat X.1) :: st) M
  | _ => False
theorem ok_scd (hd : decode q.2.1 pc = .ok (.iaload, 1)) : OK l X q d na b pc (oScd X pc) := by
  intro kn kr ls st M hk h
  simp only [oScd] at h
  split at h
  · intro p e R s m args below meth c Q D g ad0 A n0 S0 c0 s0 ad H locs la hf g1 g2 g3 g4 g5 g6 g7 g8 hr hl hk2
    obtain ⟨k1, k2, k3⟩ := hf.2.2.2.2.2.2.2.2.2.2.2.2.2.2.2
    have ea : ad 4999 = ad0 4999 := hr.2.2.2.2.2.2.1 4999 (Or.inr (Nat.le_refl _))
    rw [List.map_cons, List.map_cons, iv_ref (by decide), ea]
    exact va_sld hf.1 hf.2.1 k1 k2 k3 hr.2.2.1 h.1 hd (hk _ _ _ _ h.2 p e R s m args below meth c Q D g ad0 A n0 S0 c0 s0 ad H locs la hf g1 g2 g3 g4 g5 g6 g7 g8 hr hl hk2)
  · exact h.elim
theorem ok_scl (hd : decode q.2.1 pc = .ok (.arraylength, 1)) : OK l X q d na b pc (oScl X pc) := by
  intro kn kr ls st M hk h
  simp only [oScl] at h
  split at h
  · intro p e R s m args below meth c Q D g ad0 A n0 S0 c0 s0 ad H locs la hf g1 g2 g3 g4 g5 g6 g7 g8 hr hl hk2
    obtain ⟨k1, k2, k3⟩ := hf.2.2.2.2.2.2.2.2.2.2.2.2.2.2.2
    have ea : ad 4999 = ad0 4999 := hr.2.2.2.2.2.2.1 4999 (Or.inr (Nat.le_refl _))
    rw [List.map_cons, iv_ref (by decide), ea]
    exact va_slen hf.1 hf.2.1 k1 k2 k3 hr.2.2.1 hd (hk _ _ _ _ h p e R s m args below meth c Q D g ad0 A n0 S0 c0 s0 ad H locs la hf g1 g2 g3 g4 g5 g6 g7 g8 hr hl hk2)
  · exact h.elim
end MEM
