/-! plain instructions read out of a stretch of a long method's bytes: the bytes ahead of the stretch are passed once -/
section DCL
variable {c : ByteArray} {pc B m : Nat}
theorem rd_bind {α β : Type} {x : Jvm.ClassFile.Decoder α} {f : α → Jvm.ClassFile.Decoder β} {p s : Nat} {a : α} (hx : x c p = .ok (a, s)) : (Bind.bind x f : Jvm.ClassFile.Decoder β) c p = f a c s := by
  show (Bind.bind (x c p) (fun q => f q.1 c q.2) : Except Jvm.ClassFile.DecodeError (β × Nat)) = _
  rw [hx]
  rfl
theorem rd_u1 (h : pc < c.size) : (Jvm.ClassFile.Reader.u1 : Jvm.ClassFile.Decoder Nat) c pc = .ok (c[pc].toNat, pc + 1) := by
  show ((if h : pc < c.size then (Bind.bind (set (pc + 1)) (fun _ => Pure.pure c[pc].toNat)) else throw (Jvm.ClassFile.HasTruncated.truncated pc) : Jvm.ClassFile.Decoder Nat) c pc) = _
  rw [dif_pos h]
  rfl
theorem rd_u2 (h : pc < c.size) (h' : pc + 1 < c.size) : (Jvm.ClassFile.Reader.u2 : Jvm.ClassFile.Decoder Nat) c pc = .ok (c[pc].toNat * 256 + c[pc + 1].toNat, pc + 2) := by
  show (Bind.bind Jvm.ClassFile.Reader.u1 (fun hi => Bind.bind Jvm.ClassFile.Reader.u1 (fun lo => Pure.pure (hi * 256 + lo))) : Jvm.ClassFile.Decoder Nat) c pc = _
  rw [rd_bind (rd_u1 h), rd_bind (rd_u1 h')]
  rfl
theorem rd_s2 (h : pc < c.size) (h' : pc + 1 < c.size) : (Jvm.ClassFile.Reader.s2 : Jvm.ClassFile.Decoder Int) c pc = .ok (Jvm.ClassFile.Reader.signed 16 (c[pc].toNat * 256 + c[pc + 1].toNat), pc + 2) := by
  show (Bind.bind ((Jvm.ClassFile.Reader.u2 : Jvm.ClassFile.Decoder Nat) c pc) (fun q => Except.ok (Jvm.ClassFile.Reader.signed 16 q.1, q.2)) : Except Jvm.ClassFile.DecodeError (Int × Nat)) = _
  rw [rd_u2 h h']
  rfl
def dcl (a b d : Nat) : Option (Instr × Nat) := match a with
  | 2 => some (.iconst (-1), 1)
  | 3 => some (.iconst 0, 1)
  | 4 => some (.iconst 1, 1)
  | 5 => some (.iconst 2, 1)
  | 6 => some (.iconst 3, 1)
  | 7 => some (.iconst 4, 1)
  | 8 => some (.iconst 5, 1)
  | 21 => some (.iload b, 2)
  | 42 => some (.aload_n 0, 1)
  | 43 => some (.aload_n 1, 1)
  | 44 => some (.aload_n 2, 1)
  | 45 => some (.aload_n 3, 1)
  | 46 => some (.iaload, 1)
  | 87 => some (.pop, 1)
  | 88 => some (.pop2, 1)
  | 96 => some (.iadd, 1)
  | 153 => some (.ifCond .eq (Jvm.ClassFile.Reader.signed 16 (b * 256 + d)), 3)
  | 154 => some (.ifCond .ne (Jvm.ClassFile.Reader.signed 16 (b * 256 + d)), 3)
  | 167 => some (.goto (Jvm.ClassFile.Reader.signed 16 (b * 256 + d)), 3)
  | 182 => some (.invokevirtual (b * 256 + d), 3)
  | _ => none
theorem instr_b (pc : Nat) : ∃ g : Nat → Jvm.ClassFile.Decoder Instr, Jvm.ClassFile.Decoder.instr pc = Bind.bind Jvm.ClassFile.Reader.u1 g ∧ (g 2 = Pure.pure (Instr.iconst (-1)) ∧ g 3 = Pure.pure (Instr.iconst 0) ∧ g 4 = Pure.pure (Instr.iconst 1) ∧ g 5 = Pure.pure (Instr.iconst 2) ∧ g 6 = Pure.pure (Instr.iconst 3) ∧ g 7 = Pure.pure (Instr.iconst 4) ∧ g 8 = Pure.pure (Instr.iconst 5)) ∧ g 21 = Bind.bind Jvm.ClassFile.Reader.u1 (fun v => Pure.pure (Instr.iload v)) ∧ (g 42 = Pure.pure (Instr.aload_n 0) ∧ g 43 = Pure.pure (Instr.aload_n 1) ∧ g 44 = Pure.pure (Instr.aload_n 2) ∧ g 45 = Pure.pure (Instr.aload_n 3)) ∧ (g 46 = Pure.pure Instr.iaload ∧ g 87 = Pure.pure Instr.pop ∧ g 88 = Pure.pure Instr.pop2 ∧ g 96 = Pure.pure Instr.iadd) ∧ g 153 = Bind.bind Jvm.ClassFile.Reader.s2 (fun v => Pure.pure (Instr.ifCond .eq v)) ∧ g 154 = Bind.bind Jvm.ClassFile.Reader.s2 (fun v => Pure.pure (Instr.ifCond .ne v)) ∧ g 167 = Bind.bind Jvm.ClassFile.Reader.s2 (fun v => Pure.pure (Instr.goto v)) ∧ g 182 = Bind.bind Jvm.ClassFile.Reader.u2 (fun v => Pure.pure (Instr.invokevirtual v)) :=
  ⟨_, rfl, ⟨rfl, rfl, rfl, rfl, rfl, rfl, rfl⟩, rfl, ⟨rfl, rfl, rfl, rfl⟩, ⟨rfl, rfl, rfl, rfl⟩, rfl, rfl, rfl, rfl⟩
theorem dec_at {g : Nat → Jvm.ClassFile.Decoder Instr} (hg : Jvm.ClassFile.Decoder.instr pc = Bind.bind Jvm.ClassFile.Reader.u1 g) (h : pc < c.size) {v : Instr} {n : Nat} (q : (g c[pc].toNat) c (pc + 1) = .ok (v, pc + n)) : decode c pc = .ok (v, n) := by
  have e : (Jvm.ClassFile.Decoder.instr pc) c pc = .ok (v, pc + n) := by
    rw [hg, rd_bind (rd_u1 h)]
    exact q
  show (Bind.bind ((Jvm.ClassFile.Decoder.instr pc) c pc) (fun r => Except.ok (r.1, r.2 - pc)) : Except Jvm.ClassFile.DecodeError (Instr × Nat)) = _
  rw [e]
  show Except.ok (v, pc + n - pc) = _
  rw [Nat.add_sub_cancel_left]
theorem dcl_ok (h0 : pc < c.size) (h1 : pc + 1 < c.size) (h2 : pc + 2 < c.size) {v : Instr × Nat} (e : dcl c[pc].toNat c[pc + 1].toNat c[pc + 2].toNat = some v) : decode c pc = .ok v := by
  obtain ⟨g, hg, ⟨a2, a3, a4, a5, a6, a7, a8⟩, a21, ⟨a42, a43, a44, a45⟩, ⟨a46, a87, a88, a96⟩, a153, a154, a167, a182⟩ := instr_b pc
  have k : ∀ {v : Instr} {n : Nat}, (g c[pc].toNat) c (pc + 1) = .ok (v, pc + n) → decode c pc = .ok (v, n) := fun q => dec_at hg h0 q
  have w1 := rd_u1 h1
  have w2 := rd_u2 h1 h2
  have w3 := rd_s2 h1 h2
  generalize c[pc].toNat = a at e k
  unfold dcl at e
  split at e
  · cases e; exact k (by rw [a2]; rfl)
  · cases e; exact k (by rw [a3]; rfl)
  · cases e; exact k (by rw [a4]; rfl)
  · cases e; exact k (by rw [a5]; rfl)
  · cases e; exact k (by rw [a6]; rfl)
  · cases e; exact k (by rw [a7]; rfl)
  · cases e; exact k (by rw [a8]; rfl)
  · cases e; exact k (by rw [a21, rd_bind w1]; rfl)
  · cases e; exact k (by rw [a42]; rfl)
  · cases e; exact k (by rw [a43]; rfl)
  · cases e; exact k (by rw [a44]; rfl)
  · cases e; exact k (by rw [a45]; rfl)
  · cases e; exact k (by rw [a46]; rfl)
  · cases e; exact k (by rw [a87]; rfl)
  · cases e; exact k (by rw [a88]; rfl)
  · cases e; exact k (by rw [a96]; rfl)
  · cases e; exact k (by rw [a153, rd_bind w3]; rfl)
  · cases e; exact k (by rw [a154, rd_bind w3]; rfl)
  · cases e; exact k (by rw [a167, rd_bind w3]; rfl)
  · cases e; exact k (by rw [a182, rd_bind w2]; rfl)
  · exact absurd e (by simp)
/-- a byte of a stretch -/
def byt (L : List UInt8) (j : Nat) : Nat := (L[j]?.getD 0).toNat
def str (c : ByteArray) (B m : Nat) : List UInt8 := (c.data.toList.drop B).take m
theorem byt_at {i : Nat} (hi : i < (str c B m).length) : ∃ h : B + i < c.size, byt (str c B m) i = c[B + i].toNat := by
  unfold str at hi
  rw [List.length_take, List.length_drop] at hi
  have hm : i < m := by omega
  have hs : B + i < c.data.toList.length := by omega
  refine ⟨hs, ?_⟩
  unfold byt str
  rw [List.getElem?_take_of_lt hm, List.getElem?_drop, List.getElem?_eq_getElem hs]
  rfl
def ckI (L : List UInt8) (B : Nat) (x : Nat × Instr × Nat) : Bool := Nat.ble B x.1 && (Nat.ble (x.1 - B + 3) L.length && decide (dcl (byt L (x.1 - B)) (byt L (x.1 - B + 1)) (byt L (x.1 - B + 2)) = some x.2))
theorem ckI_ok {x : Nat × Instr × Nat} (h : ckI (str c B m) B x = true) : decode c x.1 = .ok x.2 := by
  obtain ⟨h1, h2⟩ := andT h
  obtain ⟨h2, h3⟩ := andT h2
  have h1 := Nat.le_of_ble_eq_true h1
  have h2 := Nat.le_of_ble_eq_true h2
  have h3 := of_decide_eq_true h3
  obtain ⟨pc, ii, n⟩ := x
  have h1 : B ≤ pc := h1
  obtain ⟨j, rfl⟩ : ∃ j, pc = B + j := ⟨pc - B, by omega⟩
  have h2 : B + j - B + 3 ≤ (str c B m).length := h2
  have h3 : dcl (byt (str c B m) (B + j - B)) (byt (str c B m) (B + j - B + 1)) (byt (str c B m) (B + j - B + 2)) = some (ii, n) := h3
  rw [Nat.add_sub_cancel_left] at h2 h3
  obtain ⟨b0, e0⟩ := byt_at (c := c) (B := B) (m := m) (i := j) (by omega)
  obtain ⟨b1, e1⟩ := byt_at (c := c) (B := B) (m := m) (i := j + 1) (by omega)
  obtain ⟨b2, e2⟩ := byt_at (c := c) (B := B) (m := m) (i := j + 2) (by omega)
  rw [e0, e1, e2] at h3
  exact dcl_ok (pc := B + j) b0 b1 b2 h3
end DCL
