/-! what bounds say of values, one by one -/
theorem gbs_0 {av : List Value} (h : gbs av []) : av = [] := by
  cases av with
  | nil => rfl
  | cons _ _ => exact h.elim
theorem gbs_1 {av : List Value} {b : AB} {bs : List AB} (h : gbs av (b :: bs)) : ∃ v t, av = v :: t ∧ gb v b ∧ gbs t bs := by
  cases av with
  | nil => exact h.elim
  | cons v t => exact ⟨v, t, rfl, h.1, h.2⟩
theorem gb_i {v : Value} {lo hi : Int} {ns : List Nat} (h : gb v (0, lo, hi, ns)) : ∃ x : Int32, v = .int x ∧ lo ≤ x.toInt ∧ x.toInt ≤ hi := by
  cases v with
  | int x => exact ⟨x, rfl, h.2⟩
  | long x => have h1 := h.1; cases h1
  | ref x => have h1 := h.1; cases h1
  | _ => exact h.elim
theorem gb_l {v : Value} {lo hi : Int} {ns : List Nat} (h : gb v (1, lo, hi, ns)) : ∃ x : Int64, v = .long x ∧ lo ≤ x.toInt ∧ x.toInt ≤ hi := by
  cases v with
  | int x => have h1 := h.1; cases h1
  | long x => exact ⟨x, rfl, h.2⟩
  | ref x => have h1 := h.1; cases h1
  | _ => exact h.elim
theorem gb_r {v : Value} {lo hi : Int} {ns : List Nat} (h : gb v (2, lo, hi, ns)) : ∃ n : Nat, v = .ref n ∧ n ∈ ns := by
  cases v with
  | int x => have h1 := h.1; cases h1
  | long x => have h1 := h.1; cases h1
  | ref x => exact ⟨x, rfl, h.2⟩
  | _ => exact h.elim
theorem gb_r1 {v : Value} {lo hi : Int} {n : Nat} (h : gb v (2, lo, hi, [n])) : v = .ref n := by
  obtain ⟨m, rfl, hm⟩ := gb_r h
  rw [List.mem_singleton.mp hm]
/-- an end without more words -/
theorem gps_i {av : List Value} {M : Mm} {lo hi : Int} {r : Int32} (h1 : lo ≤ r.toInt) (h2 : r.toInt ≤ hi) : gps av (some (.int r)) M [(some (0, lo, hi, []), [], [])] := ⟨_, List.mem_singleton.mpr rfl, ⟨rfl, h1, h2⟩, fun x hx => absurd hx List.not_mem_nil, fun x hx => absurd hx List.not_mem_nil⟩
theorem gps_any {av : List Value} {M : Mm} {r : Int32} : gps av (some (.int r)) M [(some (0, iLo, iHi, []), [], [])] := gps_i (i32_lo r) (i32_hi r)
theorem gps_n {av : List Value} {M : Mm} : gps av none M [(none, [], [])] := ⟨_, List.mem_singleton.mpr rfl, trivial, fun x hx => absurd hx List.not_mem_nil, fun x hx => absurd hx List.not_mem_nil⟩
