section OPS
variable {l : Launch} {X : Nat × (Nat → Int32)} {q : Md} {d : Nat} {na : Bool} {b : Nat × Nat} {pc : Nat}
theorem Ev.of {mc ms : Nat} {av : List Value} {M : Mm} {kr : KR} (hp : plainName q.1.cls = true) (hlen : (lg_sl av).length ≤ q.2.2.1) (h : Wf l X q d na (mC M + mc, mS M + ms) 0 (lv_args 0 av) [] M kr) : Ev l X q d na mc ms av M kr := by
  intro D g ad A
  refine Met.ofW (cc := q.2.1) (maxL := q.2.2.1) (ret := q.2.2.2) hp rfl ?_
  intro p e s m args below meth c s₁ B hml hv
  obtain ⟨rfl, hP, hD, hA, hk, hn, hs⟩ := hv
  have hlocks := B.notSynchronized
  have hts := atoms_spec (ws := wz q) B.pre
  have hf : fx X q p s m (av.map (iv ad)).toArray meth c D g ad A := ⟨B.exec, B.bytes, hml, B.returns, hlocks, findClass_of_methodNamed B.named, (name_of_methodNamed B.named B.method).1, fun w hw => hts w (List.mem_cons_of_mem _ hw), hA, hs⟩
  have hl := lv_entry (av.map (iv ad)) (n := q.2.2.1) (by rw [sl_len]; exact hlen)
  rw [lg_entry_eq]
  rw [lv_args_iv] at hl
  generalize (lg_sl (av.map (iv ad)) ++ List.replicate (q.2.2.1 - (lg_sl (av.map (iv ad))).length) Slot.unset).toArray = la at hl ⊢
  have hW := h p e (headSpec (wz q) (rz d mc ms)).room s m (av.map (iv ad)).toArray below meth c (MQ below (qz D g ad A na M kr) (av.map (iv ad)).toArray s mc ms A) D g ad A (mN M) M.1 (mC M) (mS M) ad s.heap [] la hf (Nat.le_refl d) (Nat.le_refl _) (Nat.le_of_eq (Nat.add_comm _ _)) (Nat.le_of_eq (Nat.add_comm _ _)) (Nat.le_refl _) (Nat.le_refl _) (Nat.le_add_right _ _) (Nat.le_add_right _ _) ⟨hP, hD, va_S.rf, hk, Nat.le_refl _, hn, fun _ _ => rfl, fun _ => ⟨rfl, rfl⟩⟩ hl ?_
  · rw [Nat.sub_self, Nat.sub_self] at hW
    exact hW
  · intro pc' r M' ad' H' locs' la' hkr hr h1 h2 h3 h4 ht
    obtain ⟨r1, r2, r3, r4, r5, r6, r7, r8⟩ := hr
    have hq : ∀ t : State, t.heap = H' → s.WarmedH t.vm → qz D g ad A na M kr (av.map (iv ad)).toArray s (.returned (r.map (iv ad'))) t := fun t e1 _ => ⟨r, M', ad', rfl, hkr, r8, r7, r5, r6, r4, by rw [e1]; exact r1, r2, r3.F e1⟩
    have w3 : mC M' ≤ mC M + mc := h3
    have w4 : mS M' ≤ mS M + ms := h4
    refine W.widen (k := mc) (n := ms) (by omega) (by omega) ?_
    rcases ht with ⟨v, ty, rfl, e1, e2, e3⟩ | ⟨v, rfl, e1, e3⟩ | ⟨rfl, e1, e3⟩
    · exact W.zret B.exec B.bytes (B.returns.trans e1) e2 hq r3.2.2 e3 hlocks
    · exact W.lret B.exec B.bytes (B.returns.trans e1) hq r3.2.2 e3 hlocks
    · exact W.vret B.exec B.bytes (B.returns.trans e1) hq r3.2.2 e3 hlocks
/-! the ends -/
def oIr : OP := fun _ kr _ st M => match st with
  | [.int v] => kr (some (.int v)) M
  | _ => False
def oZr : OP := fun _ kr _ st M => match st with
  | [.int v] => (v = 0 ∨ v = 1) ∧ kr (some (.int v)) M
  | _ => False
def oLr : OP := fun _ kr _ st M => match st with
  | [.long v] => kr (some (.long v)) M
  | _ => False
def oVr : OP := fun _ kr _ st M => match st with
  | [] => kr none M
  | _ => False
theorem Wf.end {kr : KR} {ls : Ls} {M : Mm} {r : Option Value} (ht : rt q pc r) (h : kr r M) : Wf l X q d na b pc ls r.toList M kr := by
  intro p e R s m args below meth c Q D g ad0 A n0 S0 c0 s0 ad H locs la hf h1 h2 h3 h4 h5 h6 h7 h8 hr hl hk
  exact hk pc r M ad H locs la h hr h5 h6 h7 h8 ht
theorem ok_ir (hr : q.2.2.2 = some .int) (hd : decode q.2.1 pc = .ok (.ireturn, 1)) : OK l X q d na b pc oIr := by
  intro kn kr ls st M hk h
  simp only [oIr] at h
  split at h
  · exact Wf.end (r := some (.int _)) (Or.inl ⟨_, _, rfl, hr, rfl, hd⟩) h
  · exact h.elim
theorem ok_zr (hr : q.2.2.2 = some .boolean) (hd : decode q.2.1 pc = .ok (.ireturn, 1)) : OK l X q d na b pc oZr := by
  intro kn kr ls st M hk h
  simp only [oZr] at h
  split at h
  · refine Wf.end (r := some (.int _)) (Or.inl ⟨_, _, rfl, hr, ?_, hd⟩) h.2
    rcases h.1 with e | e <;> rw [e] <;> rfl
  · exact h.elim
theorem ok_lr (hr : q.2.2.2 = some .long) (hd : decode q.2.1 pc = .ok (.lreturn, 1)) : OK l X q d na b pc oLr := by
  intro kn kr ls st M hk h
  simp only [oLr] at h
  split at h
  · exact Wf.end (r := some (.long _)) (Or.inr (Or.inl ⟨_, rfl, hr, hd⟩)) h
  · exact h.elim
theorem ok_vr (hr : q.2.2.2 = none) (hd : decode q.2.1 pc = .ok (.return_, 1)) : OK l X q d na b pc oVr := by
  intro kn kr ls st M hk h
  simp only [oVr] at h
  split at h
  · exact Wf.end (r := none) (Or.inr (Or.inr ⟨rfl, hr, hd⟩)) h
  · exact h.elim
/-! constants -/
def oIc (pc n : Nat) (v : Int32) : OP := fun kn _ ls st M => kn (pc + n) ls (.int v :: st) M
def oLc (pc n : Nat) (v : Int64) : OP := fun kn _ ls st M => kn (pc + n) ls (.long v :: st) M
theorem ok_iconst {n : Int} {v : Int32} (hv : Int32.ofInt n = v) (hd : decode q.2.1 pc = .ok (.iconst n, 1)) : OK l X q d na b pc (oIc pc 1 v) :=
  fun _ _ _ _ _ hk h => Wf.pure (fun _ _ _ _ _ _ _ _ _ _ _ _ _ _ ad la hx hb hown hts hl k => lv_iconst hx hb hd hv (k la hl)) (hk _ _ _ _ h)
theorem ok_bipush {n : Int} {v : Int32} (hv : (Int8.ofInt n).toInt32 = v) (hd : decode q.2.1 pc = .ok (.bipush n, 2)) : OK l X q d na b pc (oIc pc 2 v) :=
  fun _ _ _ _ _ hk h => Wf.pure (fun _ _ _ _ _ _ _ _ _ _ _ _ _ _ ad la hx hb hown hts hl k => lv_bipush hx hb hd hv (k la hl)) (hk _ _ _ _ h)
theorem ok_sipush {n : Int} {v : Int32} (hv : (Int16.ofInt n).toInt32 = v) (hd : decode q.2.1 pc = .ok (.sipush n, 3)) : OK l X q d na b pc (oIc pc 3 v) :=
  fun _ _ _ _ _ hk h => Wf.pure (fun _ _ _ _ _ _ _ _ _ _ _ _ _ _ ad la hx hb hown hts hl k => lv_sipush hx hb hd hv (k la hl)) (hk _ _ _ _ h)
theorem ok_lconst {n : Fin 2} {v : Int64} (hv : Int64.ofNat (n : Nat) = v) (hd : decode q.2.1 pc = .ok (.lconst n, 1)) : OK l X q d na b pc (oLc pc 1 v) :=
  fun _ _ _ _ _ hk h => Wf.pure (fun _ _ _ _ _ _ _ _ _ _ _ _ _ _ ad la hx hb hown hts hl k => lv_lconst hx hb hd hv (k la hl)) (hk _ _ _ _ h)
theorem ok_ldc {n : Nat} {v : Int32} (hw : Jvm.Cond.constant q.1.cls n v ∈ wB) (hd : decode q.2.1 pc = .ok (.ldc n, 2)) : OK l X q d na b pc (oIc pc 2 v) :=
  fun _ _ _ _ _ hk h => Wf.pure (fun _ _ _ _ _ _ _ _ _ _ _ _ _ _ ad la hx hb hown hts hl k => lv_ldc hx hb hown (hts _ hw) hd (k la hl)) (hk _ _ _ _ h)
theorem ok_ldc2 {n : Nat} {v : Int64} (hw : Jvm.Cond.constantLong q.1.cls n v ∈ wB) (hd : decode q.2.1 pc = .ok (.ldc2_w n, 3)) : OK l X q d na b pc (oLc pc 3 v) :=
  fun _ _ _ _ _ hk h => Wf.pure (fun _ _ _ _ _ _ _ _ _ _ _ _ _ _ ad la hx hb hown hts hl k => lv_ldc2 hx hb hown (hts _ hw) hd (k la hl)) (hk _ _ _ _ h)
theorem ok_ldcw {n : Nat} {v : Int32} (hw : Jvm.Cond.constant q.1.cls n v ∈ wB) (hd : decode q.2.1 pc = .ok (.ldc_w n, 3)) : OK l X q d na b pc (oIc pc 3 v) := by
  intro kn kr ls st M hk h
  refine Wf.pure (fun p e R s m args below meth c H locs cells slots Q ad la hx hb hown hts hl k => ?_) (hk _ _ _ _ h)
  intro T hT Xs
  obtain ⟨t, a, b⟩ := k la hl T hT Xs
  exact ⟨t, va_ldcwI Xs hx hown (hts _ hw) (g := F0 m pc la (st.map (iv ad))) rfl (by rw [hb]; exact hd) t a, b⟩
/-! locals -/
def oIl (pc n i : Nat) : OP := fun kn _ ls st M => match lg ls i with
  | some (.int x) => kn (pc + n) ls (.int x :: st) M
  | _ => False
def oLl (pc n i : Nat) : OP := fun kn _ ls st M => match lg ls i with
  | some (.long x) => kn (pc + n) ls (.long x :: st) M
  | _ => False
def oAl (pc n i : Nat) : OP := fun kn _ ls st M => match lg ls i with
  | some (.ref a) => cond (Nat.blt 0 a) (kn (pc + n) ls (.ref a :: st) M) False
  | _ => False
theorem condT {c : Bool} {P : Prop} (h : cond c P False) : c = true ∧ P := by
  cases c with
  | true => exact ⟨rfl, h⟩
  | false => exact h.elim
theorem ok_iload_n {i : Nat} {k : Fin 4} (hi : (k : Nat) = i) (hd : decode q.2.1 pc = .ok (.iload_n k, 1)) : OK l X q d na b pc (oIl pc 1 i) := by
  intro kn kr ls st M hk h
  simp only [oIl] at h
  split at h
  · rename_i e
    exact Wf.pure (fun _ _ _ _ _ _ _ _ _ _ _ _ _ _ ad la hx hb hown hts hl k => lv_iload_n hx hb hd hi (lg_has e hl) (k la hl)) (hk _ _ _ _ h)
  · exact h.elim
theorem ok_iload {i : Nat} (hd : decode q.2.1 pc = .ok (.iload i, 2)) : OK l X q d na b pc (oIl pc 2 i) := by
  intro kn kr ls st M hk h
  simp only [oIl] at h
  split at h
  · rename_i e
    exact Wf.pure (fun _ _ _ _ _ _ _ _ _ _ _ _ _ _ ad la hx hb hown hts hl k => lv_iload hx hb hd (lg_has e hl) (k la hl)) (hk _ _ _ _ h)
  · exact h.elim
theorem ok_lload_n {i : Nat} {k : Fin 4} (hi : (k : Nat) = i) (hd : decode q.2.1 pc = .ok (.lload_n k, 1)) : OK l X q d na b pc (oLl pc 1 i) := by
  intro kn kr ls st M hk h
  simp only [oLl] at h
  split at h
  · rename_i e
    exact Wf.pure (fun _ _ _ _ _ _ _ _ _ _ _ _ _ _ ad la hx hb hown hts hl k => lv_lload_n hx hb hd hi (lg_has e hl) (k la hl)) (hk _ _ _ _ h)
  · exact h.elim
theorem ok_lload {i : Nat} (hd : decode q.2.1 pc = .ok (.lload i, 2)) : OK l X q d na b pc (oLl pc 2 i) := by
  intro kn kr ls st M hk h
  simp only [oLl] at h
  split at h
  · rename_i e
    exact Wf.pure (fun _ _ _ _ _ _ _ _ _ _ _ _ _ _ ad la hx hb hown hts hl k => lv_lload hx hb hd (lg_has e hl) (k la hl)) (hk _ _ _ _ h)
  · exact h.elim
theorem ok_aload_n {i : Nat} {k : Fin 4} (hi : (k : Nat) = i) (hd : decode q.2.1 pc = .ok (.aload_n k, 1)) : OK l X q d na b pc (oAl pc 1 i) := by
  intro kn kr ls st M hk h
  simp only [oAl] at h
  split at h
  · rename_i a e
    obtain ⟨h0, h⟩ := condT h
    have h0 : 0 < a := Nat.le_of_ble_eq_true h0
    refine Wf.pure (fun p e' R s m args below meth c H locs cells slots Q ad la hx hb hown hts hl k => ?_) (hk _ _ _ _ h)
    have k := k la hl
    rw [List.map_cons, iv_ref h0] at k
    exact lv_aload_n hx hb hd hi (by rw [← iv_ref h0]; exact lg_has e hl) k
  · exact h.elim
theorem ok_aload {i : Nat} (hd : decode q.2.1 pc = .ok (.aload i, 2)) : OK l X q d na b pc (oAl pc 2 i) := by
  intro kn kr ls st M hk h
  simp only [oAl] at h
  split at h
  · rename_i a e
    obtain ⟨h0, h⟩ := condT h
    have h0 : 0 < a := Nat.le_of_ble_eq_true h0
    refine Wf.pure (fun p e' R s m args below meth c H locs cells slots Q ad la hx hb hown hts hl k => ?_) (hk _ _ _ _ h)
    have k := k la hl
    rw [List.map_cons, iv_ref h0] at k
    exact lv_aload hx hb hd (by rw [← iv_ref h0]; exact lg_has e hl) k
  · exact h.elim
def oIs (pc n i : Nat) : OP := fun kn _ ls st M => match st with
  | .int x :: st => kn (pc + n) (lp ls i (.int x)) st M
  | _ => False
def oLs (pc n i : Nat) : OP := fun kn _ ls st M => match st with
  | .long x :: st => kn (pc + n) (lp ls i (.long x)) st M
  | _ => False
def oAs (pc n i : Nat) : OP := fun kn _ ls st M => match st with
  | .ref a :: st => cond (Nat.blt 0 a) (kn (pc + n) (lp ls i (.ref a)) st M) False
  | _ => False
def oInc (pc i : Nat) (n : Int32) : OP := fun kn _ ls st M => match lg ls i with
  | some (.int x) => kn (pc + 3) (lp ls i (.int (x + n))) st M
  | _ => False
theorem ok_istore_n {i : Nat} {k : Fin 4} (hi : (k : Nat) = i) (hn : i < q.2.2.1) (hd : decode q.2.1 pc = .ok (.istore_n k, 1)) : OK l X q d na b pc (oIs pc 1 i) := by
  intro kn kr ls st M hk h
  simp only [oIs] at h
  split at h
  · exact Wf.pure (fun _ _ _ _ _ _ _ _ _ _ _ _ _ _ ad la hx hb hown hts hl k => lv_istore_n hx hb hd hi hl hn rfl (fun la' hl' => k la' (lp_1 rfl hl'))) (hk _ _ _ _ h)
  · exact h.elim
theorem ok_istore {i : Nat} (hn : i < q.2.2.1) (hd : decode q.2.1 pc = .ok (.istore i, 2)) : OK l X q d na b pc (oIs pc 2 i) := by
  intro kn kr ls st M hk h
  simp only [oIs] at h
  split at h
  · exact Wf.pure (fun _ _ _ _ _ _ _ _ _ _ _ _ _ _ ad la hx hb hown hts hl k => lv_istore hx hb hd hl hn rfl (fun la' hl' => k la' (lp_1 rfl hl'))) (hk _ _ _ _ h)
  · exact h.elim
theorem ok_lstore_n {i : Nat} {k : Fin 4} (hi : (k : Nat) = i) (hn : i + 1 < q.2.2.1) (hd : decode q.2.1 pc = .ok (.lstore_n k, 1)) : OK l X q d na b pc (oLs pc 1 i) := by
  intro kn kr ls st M hk h
  simp only [oLs] at h
  split at h
  · exact Wf.pure (fun _ _ _ _ _ _ _ _ _ _ _ _ _ _ ad la hx hb hown hts hl k => lv_lstore_n hx hb hd hi hl hn rfl (fun la' hl' => k la' (lp_2 rfl hl'))) (hk _ _ _ _ h)
  · exact h.elim
theorem ok_lstore {i : Nat} (hn : i + 1 < q.2.2.1) (hd : decode q.2.1 pc = .ok (.lstore i, 2)) : OK l X q d na b pc (oLs pc 2 i) := by
  intro kn kr ls st M hk h
  simp only [oLs] at h
  split at h
  · exact Wf.pure (fun _ _ _ _ _ _ _ _ _ _ _ _ _ _ ad la hx hb hown hts hl k => lv_lstore hx hb hd hl hn rfl (fun la' hl' => k la' (lp_2 rfl hl'))) (hk _ _ _ _ h)
  · exact h.elim
theorem ok_astore_n {i : Nat} {k : Fin 4} (hi : (k : Nat) = i) (hn : i < q.2.2.1) (hd : decode q.2.1 pc = .ok (.astore_n k, 1)) : OK l X q d na b pc (oAs pc 1 i) := by
  intro kn kr ls st M hk h
  simp only [oAs] at h
  split at h
  · rename_i a st
    obtain ⟨h0, h⟩ := condT h
    have h0 : 0 < a := Nat.le_of_ble_eq_true h0
    refine Wf.pure (fun p e' R s m args below meth c H locs cells slots Q ad la hx hb hown hts hl k => ?_) (hk _ _ _ _ h)
    rw [List.map_cons, iv_ref h0]
    exact lv_astore_n hx hb hd hi hl hn rfl (fun la' hl' => k la' (lp_1 rfl (by rw [iv_ref h0]; exact hl')))
  · exact h.elim
theorem ok_astore {i : Nat} (hn : i < q.2.2.1) (hd : decode q.2.1 pc = .ok (.astore i, 2)) : OK l X q d na b pc (oAs pc 2 i) := by
  intro kn kr ls st M hk h
  simp only [oAs] at h
  split at h
  · rename_i a st
    obtain ⟨h0, h⟩ := condT h
    have h0 : 0 < a := Nat.le_of_ble_eq_true h0
    refine Wf.pure (fun p e' R s m args below meth c H locs cells slots Q ad la hx hb hown hts hl k => ?_) (hk _ _ _ _ h)
    rw [List.map_cons, iv_ref h0]
    exact lv_astore hx hb hd hl hn rfl (fun la' hl' => k la' (lp_1 rfl (by rw [iv_ref h0]; exact hl')))
  · exact h.elim
theorem ok_iinc {i : Nat} {n : Int} {v : Int32} (hv : Int32.ofInt n = v) (hn : i < q.2.2.1) (hd : decode q.2.1 pc = .ok (.iinc i n, 3)) : OK l X q d na b pc (oInc pc i v) := by
  intro kn kr ls st M hk h
  simp only [oInc] at h
  split at h
  · rename_i x e
    subst hv
    refine Wf.pure (fun p e' R s m args below meth c H locs cells slots Q ad la hx hb hown hts hl k => ?_) (hk _ _ _ _ h)
    obtain ⟨j, hj⟩ := List.getElem?_of_mem (List.mem_map.mpr ⟨(i, Value.int x), lg_mem e, rfl⟩ : (i, Value.int x) ∈ lm ad ls)
    exact lv_iinc hx hb hd hl hj rfl hn rfl (fun la' hl' => k la' (lp_1 rfl hl'))
  · exact h.elim
/-! numbers -/
def o2 (pc : Nat) (f : Int32 → Int32 → Int32) : OP := fun kn _ ls st M => match st with
  | .int y :: .int x :: st => kn (pc + 1) ls (.int (f x y) :: st) M
  | _ => False
def o2d (pc : Nat) (f : Int32 → Int32 → Int32) : OP := fun kn _ ls st M => match st with
  | .int y :: .int x :: st => ¬ y = 0 ∧ kn (pc + 1) ls (.int (f x y) :: st) M
  | _ => False
def o1 (pc : Nat) (f : Int32 → Int32) : OP := fun kn _ ls st M => match st with
  | .int x :: st => kn (pc + 1) ls (.int (f x) :: st) M
  | _ => False
def oL2 (pc : Nat) (f : Int64 → Int64 → Int64) : OP := fun kn _ ls st M => match st with
  | .long y :: .long x :: st => kn (pc + 1) ls (.long (f x y) :: st) M
  | _ => False
def oL2d (pc : Nat) (f : Int64 → Int64 → Int64) : OP := fun kn _ ls st M => match st with
  | .long y :: .long x :: st => ¬ y = 0 ∧ kn (pc + 1) ls (.long (f x y) :: st) M
  | _ => False
def oi2l (pc : Nat) : OP := fun kn _ ls st M => match st with
  | .int x :: st => kn (pc + 1) ls (.long x.toInt64 :: st) M
  | _ => False
def olcmp (pc : Nat) : OP := fun kn _ ls st M => match st with
  | .long y :: .long x :: st => kn (pc + 1) ls (.int (lg_cmp x y) :: st) M
  | _ => False
theorem ok_iadd (hd : decode q.2.1 pc = .ok (.iadd, 1)) : OK l X q d na b pc (o2 pc (fun x y => x + y)) := by
  intro kn kr ls st M hk h
  simp only [o2] at h
  split at h
  · exact Wf.pure (fun _ _ _ _ _ _ _ _ _ _ _ _ _ _ ad la hx hb hown hts hl k => lv_iadd hx hb hd (k la hl)) (hk _ _ _ _ h)
  · exact h.elim
theorem ok_isub (hd : decode q.2.1 pc = .ok (.isub, 1)) : OK l X q d na b pc (o2 pc (fun x y => x - y)) := by
  intro kn kr ls st M hk h
  simp only [o2] at h
  split at h
  · exact Wf.pure (fun _ _ _ _ _ _ _ _ _ _ _ _ _ _ ad la hx hb hown hts hl k => lv_isub hx hb hd (k la hl)) (hk _ _ _ _ h)
  · exact h.elim
theorem ok_imul (hd : decode q.2.1 pc = .ok (.imul, 1)) : OK l X q d na b pc (o2 pc (fun x y => x * y)) := by
  intro kn kr ls st M hk h
  simp only [o2] at h
  split at h
  · exact Wf.pure (fun _ _ _ _ _ _ _ _ _ _ _ _ _ _ ad la hx hb hown hts hl k => lv_imul hx hb hd (k la hl)) (hk _ _ _ _ h)
  · exact h.elim
theorem ok_iand (hd : decode q.2.1 pc = .ok (.iand, 1)) : OK l X q d na b pc (o2 pc (fun x y => x &&& y)) := by
  intro kn kr ls st M hk h
  simp only [o2] at h
  split at h
  · exact Wf.pure (fun _ _ _ _ _ _ _ _ _ _ _ _ _ _ ad la hx hb hown hts hl k => lv_iand hx hb hd (k la hl)) (hk _ _ _ _ h)
  · exact h.elim
theorem ok_ior (hd : decode q.2.1 pc = .ok (.ior, 1)) : OK l X q d na b pc (o2 pc (fun x y => x ||| y)) := by
  intro kn kr ls st M hk h
  simp only [o2] at h
  split at h
  · exact Wf.pure (fun _ _ _ _ _ _ _ _ _ _ _ _ _ _ ad la hx hb hown hts hl k => lv_ior hx hb hd (k la hl)) (hk _ _ _ _ h)
  · exact h.elim
theorem ok_ixor (hd : decode q.2.1 pc = .ok (.ixor, 1)) : OK l X q d na b pc (o2 pc (fun x y => x ^^^ y)) := by
  intro kn kr ls st M hk h
  simp only [o2] at h
  split at h
  · exact Wf.pure (fun _ _ _ _ _ _ _ _ _ _ _ _ _ _ ad la hx hb hown hts hl k => lv_ixor hx hb hd (k la hl)) (hk _ _ _ _ h)
  · exact h.elim
theorem ok_ishl (hd : decode q.2.1 pc = .ok (.ishl, 1)) : OK l X q d na b pc (o2 pc (fun x y => x <<< (y &&& 31))) := by
  intro kn kr ls st M hk h
  simp only [o2] at h
  split at h
  · exact Wf.pure (fun _ _ _ _ _ _ _ _ _ _ _ _ _ _ ad la hx hb hown hts hl k => lv_ishl hx hb hd (k la hl)) (hk _ _ _ _ h)
  · exact h.elim
theorem ok_ishr (hd : decode q.2.1 pc = .ok (.ishr, 1)) : OK l X q d na b pc (o2 pc (fun x y => x >>> (y &&& 31))) := by
  intro kn kr ls st M hk h
  simp only [o2] at h
  split at h
  · exact Wf.pure (fun _ _ _ _ _ _ _ _ _ _ _ _ _ _ ad la hx hb hown hts hl k => lv_ishr hx hb hd (k la hl)) (hk _ _ _ _ h)
  · exact h.elim
theorem ok_iushr (hd : decode q.2.1 pc = .ok (.iushr, 1)) : OK l X q d na b pc (o2 pc (fun x y => (x.toUInt32 >>> (y.toUInt32 &&& Int32.toUInt32 31)).toInt32)) := by
  intro kn kr ls st M hk h
  simp only [o2] at h
  split at h
  · exact Wf.pure (fun _ _ _ _ _ _ _ _ _ _ _ _ _ _ ad la hx hb hown hts hl k => lv_iushr hx hb hd rfl (k la hl)) (hk _ _ _ _ h)
  · exact h.elim
theorem ok_idiv (hd : decode q.2.1 pc = .ok (.idiv, 1)) : OK l X q d na b pc (o2d pc (fun x y => x / y)) := by
  intro kn kr ls st M hk h
  simp only [o2d] at h
  split at h
  · exact Wf.pure (fun _ _ _ _ _ _ _ _ _ _ _ _ _ _ ad la hx hb hown hts hl k => lv_idiv hx hb hd h.1 (k la hl)) (hk _ _ _ _ h.2)
  · exact h.elim
theorem ok_irem (hd : decode q.2.1 pc = .ok (.irem, 1)) : OK l X q d na b pc (o2d pc (fun x y => x - x / y * y)) := by
  intro kn kr ls st M hk h
  simp only [o2d] at h
  split at h
  · exact Wf.pure (fun _ _ _ _ _ _ _ _ _ _ _ _ _ _ ad la hx hb hown hts hl k => lv_irem hx hb hd h.1 (k la hl)) (hk _ _ _ _ h.2)
  · exact h.elim
theorem ok_ineg (hd : decode q.2.1 pc = .ok (.ineg, 1)) : OK l X q d na b pc (o1 pc (fun x => -x)) := by
  intro kn kr ls st M hk h
  simp only [o1] at h
  split at h
  · exact Wf.pure (fun _ _ _ _ _ _ _ _ _ _ _ _ _ _ ad la hx hb hown hts hl k => lv_ineg hx hb hd (k la hl)) (hk _ _ _ _ h)
  · exact h.elim
theorem ok_i2b (hd : decode q.2.1 pc = .ok (.i2b, 1)) : OK l X q d na b pc (o1 pc (fun x => x.toInt8.toInt32)) := by
  intro kn kr ls st M hk h
  simp only [o1] at h
  split at h
  · exact Wf.pure (fun _ _ _ _ _ _ _ _ _ _ _ _ _ _ ad la hx hb hown hts hl k => lv_i2b hx hb hd rfl (k la hl)) (hk _ _ _ _ h)
  · exact h.elim
theorem ok_i2c (hd : decode q.2.1 pc = .ok (.i2c, 1)) : OK l X q d na b pc (o1 pc (fun x => (x.toUInt32 % 65536).toInt32)) := by
  intro kn kr ls st M hk h
  simp only [o1] at h
  split at h
  · exact Wf.pure (fun _ _ _ _ _ _ _ _ _ _ _ _ _ _ ad la hx hb hown hts hl k => lv_i2c hx hb hd rfl (k la hl)) (hk _ _ _ _ h)
  · exact h.elim
theorem ok_ladd (hd : decode q.2.1 pc = .ok (.ladd, 1)) : OK l X q d na b pc (oL2 pc (fun x y => x + y)) := by
  intro kn kr ls st M hk h
  simp only [oL2] at h
  split at h
  · exact Wf.pure (fun _ _ _ _ _ _ _ _ _ _ _ _ _ _ ad la hx hb hown hts hl k => lv_ladd hx hb hd (k la hl)) (hk _ _ _ _ h)
  · exact h.elim
theorem ok_lsub (hd : decode q.2.1 pc = .ok (.lsub, 1)) : OK l X q d na b pc (oL2 pc (fun x y => x - y)) := by
  intro kn kr ls st M hk h
  simp only [oL2] at h
  split at h
  · exact Wf.pure (fun _ _ _ _ _ _ _ _ _ _ _ _ _ _ ad la hx hb hown hts hl k => lv_lsub hx hb hd (k la hl)) (hk _ _ _ _ h)
  · exact h.elim
theorem ok_lmul (hd : decode q.2.1 pc = .ok (.lmul, 1)) : OK l X q d na b pc (oL2 pc (fun x y => x * y)) := by
  intro kn kr ls st M hk h
  simp only [oL2] at h
  split at h
  · exact Wf.pure (fun _ _ _ _ _ _ _ _ _ _ _ _ _ _ ad la hx hb hown hts hl k => lv_lmul hx hb hd (k la hl)) (hk _ _ _ _ h)
  · exact h.elim
theorem ok_ldiv (hd : decode q.2.1 pc = .ok (.ldiv, 1)) : OK l X q d na b pc (oL2d pc (fun x y => x / y)) := by
  intro kn kr ls st M hk h
  simp only [oL2d] at h
  split at h
  · exact Wf.pure (fun _ _ _ _ _ _ _ _ _ _ _ _ _ _ ad la hx hb hown hts hl k => lv_ldiv hx hb hd h.1 (k la hl)) (hk _ _ _ _ h.2)
  · exact h.elim
theorem ok_lrem (hd : decode q.2.1 pc = .ok (.lrem, 1)) : OK l X q d na b pc (oL2d pc (fun x y => x - x / y * y)) := by
  intro kn kr ls st M hk h
  simp only [oL2d] at h
  split at h
  · exact Wf.pure (fun _ _ _ _ _ _ _ _ _ _ _ _ _ _ ad la hx hb hown hts hl k => lv_lrem hx hb hd h.1 (k la hl)) (hk _ _ _ _ h.2)
  · exact h.elim
theorem ok_i2l (hd : decode q.2.1 pc = .ok (.i2l, 1)) : OK l X q d na b pc (oi2l pc) := by
  intro kn kr ls st M hk h
  simp only [oi2l] at h
  split at h
  · exact Wf.pure (fun _ _ _ _ _ _ _ _ _ _ _ _ _ _ ad la hx hb hown hts hl k => lv_i2l hx hb hd rfl (k la hl)) (hk _ _ _ _ h)
  · exact h.elim
theorem ok_lcmp (hd : decode q.2.1 pc = .ok (.lcmp, 1)) : OK l X q d na b pc (olcmp pc) := by
  intro kn kr ls st M hk h
  simp only [olcmp] at h
  split at h
  · exact Wf.pure (fun _ _ _ _ _ _ _ _ _ _ _ _ _ _ ad la hx hb hown hts hl k => W.lcmp hx hb hd (k la hl)) (hk _ _ _ _ h)
  · exact h.elim
/-! the stack -/
def oDup (pc : Nat) : OP := fun kn _ ls st M => match st with
  | v :: st => cond (Nat.beq v.category 1) (kn (pc + 1) ls (v :: v :: st) M) False
  | _ => False
def oDup2 (pc : Nat) : OP := fun kn _ ls st M => match st with
  | v :: w :: st => cond (Nat.beq v.category 1 && Nat.beq w.category 1) (kn (pc + 1) ls (v :: w :: v :: w :: st) M) False
  | _ => False
def oPop (pc : Nat) : OP := fun kn _ ls st M => match st with
  | v :: st => cond (Nat.beq v.category 1) (kn (pc + 1) ls st M) False
  | _ => False
theorem ok_dup (hd : decode q.2.1 pc = .ok (.dup, 1)) : OK l X q d na b pc (oDup pc) := by
  intro kn kr ls st M hk h
  simp only [oDup] at h
  split at h
  · obtain ⟨h0, h⟩ := condT h
    have h0 := Nat.eq_of_beq_eq_true h0
    exact Wf.pure (fun _ _ _ _ _ _ _ _ _ _ _ _ _ _ ad la hx hb hown hts hl k => lv_dup hx hb hd (by rw [iv_cat]; exact h0) (k la hl)) (hk _ _ _ _ h)
  · exact h.elim
theorem ok_pop (hd : decode q.2.1 pc = .ok (.pop, 1)) : OK l X q d na b pc (oPop pc) := by
  intro kn kr ls st M hk h
  simp only [oPop] at h
  split at h
  · obtain ⟨h0, h⟩ := condT h
    have h0 := Nat.eq_of_beq_eq_true h0
    exact Wf.pure (fun _ _ _ _ _ _ _ _ _ _ _ _ _ _ ad la hx hb hown hts hl k => lv_pop hx hb hd (by rw [iv_cat]; exact h0) (k la hl)) (hk _ _ _ _ h)
  · exact h.elim
theorem ok_dup2 (hd : decode q.2.1 pc = .ok (.dup2, 1)) : OK l X q d na b pc (oDup2 pc) := by
  intro kn kr ls st M hk h
  simp only [oDup2] at h
  split at h
  · obtain ⟨h0, h⟩ := condT h
    obtain ⟨h0, h1⟩ := Bool.and_eq_true_iff.mp h0
    have h0 := Nat.eq_of_beq_eq_true h0
    have h1 := Nat.eq_of_beq_eq_true h1
    exact Wf.pure (fun _ _ _ _ _ _ _ _ _ _ _ _ _ _ ad la hx hb hown hts hl k => lv_dup2_11 hx hb hd (by rw [iv_cat]; exact h0) (by rw [iv_cat]; exact h1) (k la hl)) (hk _ _ _ _ h)
  · exact h.elim
/-! branches -/
def oGo (t : Nat) : OP := fun kn _ ls st M => kn t ls st M
def oIf (pc t : Nat) (P N : Int32 → Prop) : OP := fun kn _ ls st M => match st with
  | .int x :: st => (P x → kn t ls st M) ∧ (N x → kn (pc + 3) ls st M)
  | _ => False
def oCm (pc t : Nat) (P N : Int32 → Int32 → Prop) : OP := fun kn _ ls st M => match st with
  | .int y :: .int x :: st => (P x y → kn t ls st M) ∧ (N x y → kn (pc + 3) ls st M)
  | _ => False
def oTs (lo : Int) (ts : List Nat) (df : Nat) : OP := fun kn _ ls st M => match st with
  | .int x :: st => (∀ (k t : Nat), ts[k]? = some t → x.toInt = lo + (k : Int) → kn t ls st M) ∧ ((x.toInt < lo ∨ lo + (ts.length : Int) ≤ x.toInt) → kn df ls st M)
  | _ => False
theorem ok_goto {off : Int} {t : Nat} (ht : (pc : Int) + off = (t : Int)) (hd : decode q.2.1 pc = .ok (.goto off, 3)) : OK l X q d na b pc (oGo t) :=
  fun _ _ _ _ _ hk h => Wf.pure (fun _ _ _ _ _ _ _ _ _ _ _ _ _ _ ad la hx hb hown hts hl k => lv_goto hx hb hd ht (k la hl)) (hk _ _ _ _ h)
theorem Wf.two {kr : KR} {ls : Ls} {st st' : List Value} {M : Mm} {t t' : Nat} {P N : Prop} (hPN : P ∨ N) (h : ∀ (p : Program) (e : Env) (R : Room) (s : State) (m : MethodId) (args : Array Value) (below : List Frame) (meth : Method) (c : Code) (H : Heap) (locs : List Loc) (cells slots : Nat) (Q : State → Prop) (ad : Nat → Nat) (la : Array Slot), p.tables.exec = Jvm.exec → c.code = q.2.1 → (P → W p l e R s m args below meth c H locs cells slots Q (F0 m t la (st'.map (iv ad)))) → (N → W p l e R s m args below meth c H locs cells slots Q (F0 m t' la (st'.map (iv ad)))) → W p l e R s m args below meth c H locs cells slots Q (F0 m pc la (st.map (iv ad)))) (k1 : P → Wf l X q d na b t ls st' M kr) (k2 : N → Wf l X q d na b t' ls st' M kr) : Wf l X q d na b pc ls st M kr := by
  intro p e R s m args below meth c Q D g ad0 A n0 S0 c0 s0 ad H locs la hf h1 h2 h3 h4 h5 h6 h7 h8 hr hl hk
  exact h p e R s m args below meth c H locs _ _ Q ad la hf.1 hf.2.1 (fun z => k1 z p e R s m args below meth c Q D g ad0 A n0 S0 c0 s0 ad H locs la hf h1 h2 h3 h4 h5 h6 h7 h8 hr hl hk) (fun z => k2 z p e R s m args below meth c Q D g ad0 A n0 S0 c0 s0 ad H locs la hf h1 h2 h3 h4 h5 h6 h7 h8 hr hl hk)
theorem ok_ifeq {off : Int} {t : Nat} (ht : (pc : Int) + off = (t : Int)) (hd : decode q.2.1 pc = .ok (.ifCond .eq off, 3)) : OK l X q d na b pc (oIf pc t (fun x => x = 0) (fun x => ¬ x = 0)) := by
  intro kn kr ls st M hk h
  simp only [oIf] at h
  split at h
  · exact Wf.two (Decidable.em _) (fun _ _ _ _ _ _ _ _ _ _ _ _ _ _ ad la hx hb k1 k2 => lv_if_eq hx hb hd ht k1 k2) (fun z => hk _ _ _ _ (h.1 z)) (fun z => hk _ _ _ _ (h.2 z))
  · exact h.elim
theorem ok_icmpeq {off : Int} {t : Nat} (ht : (pc : Int) + off = (t : Int)) (hd : decode q.2.1 pc = .ok (.if_icmp .eq off, 3)) : OK l X q d na b pc (oCm pc t (fun x y => x = y) (fun x y => ¬ x = y)) := by
  intro kn kr ls st M hk h
  simp only [oCm] at h
  split at h
  · exact Wf.two (Decidable.em _) (fun _ _ _ _ _ _ _ _ _ _ _ _ _ _ ad la hx hb k1 k2 => lv_icmp_eq hx hb hd ht k1 k2) (fun z => hk _ _ _ _ (h.1 z)) (fun z => hk _ _ _ _ (h.2 z))
  · exact h.elim
theorem ok_ifne {off : Int} {t : Nat} (ht : (pc : Int) + off = (t : Int)) (hd : decode q.2.1 pc = .ok (.ifCond .ne off, 3)) : OK l X q d na b pc (oIf pc t (fun x => ¬ x = 0) (fun x => x = 0)) := by
  intro kn kr ls st M hk h
  simp only [oIf] at h
  split at h
  · exact Wf.two (Decidable.em _).symm (fun _ _ _ _ _ _ _ _ _ _ _ _ _ _ ad la hx hb k1 k2 => lv_if_ne hx hb hd ht k1 k2) (fun z => hk _ _ _ _ (h.1 z)) (fun z => hk _ _ _ _ (h.2 z))
  · exact h.elim
theorem ok_icmpne {off : Int} {t : Nat} (ht : (pc : Int) + off = (t : Int)) (hd : decode q.2.1 pc = .ok (.if_icmp .ne off, 3)) : OK l X q d na b pc (oCm pc t (fun x y => ¬ x = y) (fun x y => x = y)) := by
  intro kn kr ls st M hk h
  simp only [oCm] at h
  split at h
  · exact Wf.two (Decidable.em _).symm (fun _ _ _ _ _ _ _ _ _ _ _ _ _ _ ad la hx hb k1 k2 => lv_icmp_ne hx hb hd ht k1 k2) (fun z => hk _ _ _ _ (h.1 z)) (fun z => hk _ _ _ _ (h.2 z))
  · exact h.elim
theorem ok_iflt {off : Int} {t : Nat} (ht : (pc : Int) + off = (t : Int)) (hd : decode q.2.1 pc = .ok (.ifCond .lt off, 3)) : OK l X q d na b pc (oIf pc t (fun x => x < 0) (fun x => ¬ x < 0)) := by
  intro kn kr ls st M hk h
  simp only [oIf] at h
  split at h
  · exact Wf.two (Decidable.em _) (fun _ _ _ _ _ _ _ _ _ _ _ _ _ _ ad la hx hb k1 k2 => lv_if_lt hx hb hd ht k1 k2) (fun z => hk _ _ _ _ (h.1 z)) (fun z => hk _ _ _ _ (h.2 z))
  · exact h.elim
theorem ok_icmplt {off : Int} {t : Nat} (ht : (pc : Int) + off = (t : Int)) (hd : decode q.2.1 pc = .ok (.if_icmp .lt off, 3)) : OK l X q d na b pc (oCm pc t (fun x y => x < y) (fun x y => ¬ x < y)) := by
  intro kn kr ls st M hk h
  simp only [oCm] at h
  split at h
  · exact Wf.two (Decidable.em _) (fun _ _ _ _ _ _ _ _ _ _ _ _ _ _ ad la hx hb k1 k2 => lv_icmp_lt hx hb hd ht k1 k2) (fun z => hk _ _ _ _ (h.1 z)) (fun z => hk _ _ _ _ (h.2 z))
  · exact h.elim
theorem ok_ifge {off : Int} {t : Nat} (ht : (pc : Int) + off = (t : Int)) (hd : decode q.2.1 pc = .ok (.ifCond .ge off, 3)) : OK l X q d na b pc (oIf pc t (fun x => 0 ≤ x) (fun x => ¬ 0 ≤ x)) := by
  intro kn kr ls st M hk h
  simp only [oIf] at h
  split at h
  · exact Wf.two (Decidable.em _) (fun _ _ _ _ _ _ _ _ _ _ _ _ _ _ ad la hx hb k1 k2 => lv_if_ge hx hb hd ht k1 k2) (fun z => hk _ _ _ _ (h.1 z)) (fun z => hk _ _ _ _ (h.2 z))
  · exact h.elim
theorem ok_icmpge {off : Int} {t : Nat} (ht : (pc : Int) + off = (t : Int)) (hd : decode q.2.1 pc = .ok (.if_icmp .ge off, 3)) : OK l X q d na b pc (oCm pc t (fun x y => y ≤ x) (fun x y => ¬ y ≤ x)) := by
  intro kn kr ls st M hk h
  simp only [oCm] at h
  split at h
  · exact Wf.two (Decidable.em _) (fun _ _ _ _ _ _ _ _ _ _ _ _ _ _ ad la hx hb k1 k2 => lv_icmp_ge hx hb hd ht k1 k2) (fun z => hk _ _ _ _ (h.1 z)) (fun z => hk _ _ _ _ (h.2 z))
  · exact h.elim
theorem ok_ifgt {off : Int} {t : Nat} (ht : (pc : Int) + off = (t : Int)) (hd : decode q.2.1 pc = .ok (.ifCond .gt off, 3)) : OK l X q d na b pc (oIf pc t (fun x => 0 < x) (fun x => ¬ 0 < x)) := by
  intro kn kr ls st M hk h
  simp only [oIf] at h
  split at h
  · exact Wf.two (Decidable.em _) (fun _ _ _ _ _ _ _ _ _ _ _ _ _ _ ad la hx hb k1 k2 => lv_if_gt hx hb hd ht k1 k2) (fun z => hk _ _ _ _ (h.1 z)) (fun z => hk _ _ _ _ (h.2 z))
  · exact h.elim
theorem ok_icmpgt {off : Int} {t : Nat} (ht : (pc : Int) + off = (t : Int)) (hd : decode q.2.1 pc = .ok (.if_icmp .gt off, 3)) : OK l X q d na b pc (oCm pc t (fun x y => y < x) (fun x y => ¬ y < x)) := by
  intro kn kr ls st M hk h
  simp only [oCm] at h
  split at h
  · exact Wf.two (Decidable.em _) (fun _ _ _ _ _ _ _ _ _ _ _ _ _ _ ad la hx hb k1 k2 => lv_icmp_gt hx hb hd ht k1 k2) (fun z => hk _ _ _ _ (h.1 z)) (fun z => hk _ _ _ _ (h.2 z))
  · exact h.elim
theorem ok_ifle {off : Int} {t : Nat} (ht : (pc : Int) + off = (t : Int)) (hd : decode q.2.1 pc = .ok (.ifCond .le off, 3)) : OK l X q d na b pc (oIf pc t (fun x => x ≤ 0) (fun x => ¬ x ≤ 0)) := by
  intro kn kr ls st M hk h
  simp only [oIf] at h
  split at h
  · exact Wf.two (Decidable.em _) (fun _ _ _ _ _ _ _ _ _ _ _ _ _ _ ad la hx hb k1 k2 => lv_if_le hx hb hd ht k1 k2) (fun z => hk _ _ _ _ (h.1 z)) (fun z => hk _ _ _ _ (h.2 z))
  · exact h.elim
theorem ok_icmple {off : Int} {t : Nat} (ht : (pc : Int) + off = (t : Int)) (hd : decode q.2.1 pc = .ok (.if_icmp .le off, 3)) : OK l X q d na b pc (oCm pc t (fun x y => x ≤ y) (fun x y => ¬ x ≤ y)) := by
  intro kn kr ls st M hk h
  simp only [oCm] at h
  split at h
  · exact Wf.two (Decidable.em _) (fun _ _ _ _ _ _ _ _ _ _ _ _ _ _ ad la hx hb k1 k2 => lv_icmp_le hx hb hd ht k1 k2) (fun z => hk _ _ _ _ (h.1 z)) (fun z => hk _ _ _ _ (h.2 z))
  · exact h.elim
theorem ok_ts {df lo hi : Int} {offs : Array Int} {n : Nat} {ts : List Nat} {t : Nat} (hn : hi + 1 = lo + ts.length) (h0 : (pc : Int) + df = (t : Int)) (hs : ts.map (fun (x : Nat) => (x : Int)) = offs.toList.map (fun o => (pc : Int) + o)) (hd : decode q.2.1 pc = .ok (.tableswitch df lo hi offs, n)) : OK l X q d na b pc (oTs lo ts t) := by
  intro kn kr ls st M hk h
  simp only [oTs] at h
  split at h
  · rename_i x st
    by_cases hx1 : x.toInt < lo ∨ lo + ts.length ≤ x.toInt
    · exact Wf.pure (fun _ _ _ _ _ _ _ _ _ _ _ _ _ _ ad la hx hb hown hts hl k => lv_tableOut hx hb hd (by omega) h0 (k la hl)) (hk _ _ _ _ (h.2 hx1))
    · have e1 : x.toInt = lo + ((x.toInt - lo).toNat : Nat) := by omega
      have e2 : (x.toInt - lo).toNat < ts.length := by omega
      have e3 : ts[(x.toInt - lo).toNat]? = some ts[(x.toInt - lo).toNat] := List.getElem?_eq_getElem e2
      have e4 : (offs.toList.map (fun o => (pc : Int) + o))[(x.toInt - lo).toNat]? = some (ts[(x.toInt - lo).toNat] : Int) := by
        rw [← hs, List.getElem?_map, e3]; rfl
      rw [List.getElem?_map] at e4
      cases ho : offs.toList[(x.toInt - lo).toNat]? with
      | none => rw [ho] at e4; cases e4
      | some o =>
        rw [ho] at e4
        have e5 : (pc : Int) + o = (ts[(x.toInt - lo).toNat] : Int) := Option.some.inj e4
        exact Wf.pure (fun _ _ _ _ _ _ _ _ _ _ _ _ _ _ ad la hx hb hown hts hl k => lv_tableIn hx hb hd (by omega) (by omega) (by rw [← Array.getElem?_toList]; exact ho) e5 (k la hl)) (hk _ _ _ _ (h.1 _ _ e3 e1))
  · exact h.elim
end OPS
