/-! THE CHECKER BY REFLECTION: abstract values over a list of symbols (symbol 0 is the number 0). -/
/-- a symbol's bounds -/
abbrev Sto : Type := List (Int × Int)
/-- (0, s, c, _): the int (value of symbol s) + c; (1, s, c, _): a long likewise; (2, _, _, names): a reference, one of these (0 is null) -/
abbrev AV : Type := Nat × Nat × Int × List Nat
def gv (rho : List Int) (v : Value) (a : AV) : Prop := match v with
  | .int x => a.1 = 0 ∧ ∃ e, rho[a.2.1]? = some e ∧ x.toInt = e + a.2.2.1
  | .long x => a.1 = 1 ∧ ∃ e, rho[a.2.1]? = some e ∧ x.toInt = e + a.2.2.1
  | .ref n => a.1 = 2 ∧ n ∈ a.2.2.2
  | _ => False
def gs (r0 rho : List Int) (S : Sto) : Prop := (rho.length = S.length ∧ ∃ t, rho = r0 ++ t) ∧ ∀ (k : Nat) (b : Int × Int), S[k]? = some b → ∃ e, rho[k]? = some e ∧ b.1 ≤ e ∧ e ≤ b.2
theorem gv_app {rho : List Int} {v : Value} {a : AV} {e : Int} (h : gv rho v a) : gv (rho ++ [e]) v a := by
  cases v with
  | int x =>
    obtain ⟨h1, y, h2, h3⟩ := h
    exact ⟨h1, y, by rw [List.getElem?_append_left (List.getElem?_eq_some_iff.mp h2).1]; exact h2, h3⟩
  | long x =>
    obtain ⟨h1, y, h2, h3⟩ := h
    exact ⟨h1, y, by rw [List.getElem?_append_left (List.getElem?_eq_some_iff.mp h2).1]; exact h2, h3⟩
  | _ => exact h
theorem gs_app {r0 : List Int} {rho : List Int} {S : Sto} {e lo hi : Int} (h : gs r0 rho S) (h1 : lo ≤ e) (h2 : e ≤ hi) : gs r0 (rho ++ [e]) (S ++ [(lo, hi)]) := by
  obtain ⟨⟨hlen, t, ht⟩, hh⟩ := h
  have h : gs r0 rho S := ⟨⟨hlen, t, ht⟩, hh⟩
  refine ⟨⟨by simp [hlen], t ++ [e], by rw [ht, List.append_assoc]⟩, fun k b hb => ?_⟩
  by_cases hk : k < S.length
  · rw [List.getElem?_append_left hk] at hb
    obtain ⟨y, h3, h4⟩ := h.2 k b hb
    exact ⟨y, by rw [List.getElem?_append_left (by rw [hlen]; exact hk)]; exact h3, h4⟩
  · have hl : k < (S ++ [(lo, hi)]).length := (List.getElem?_eq_some_iff.mp hb).1
    have he : k = S.length := by simp at hl; omega
    subst he
    rw [List.getElem?_append_right (Nat.le_refl _), Nat.sub_self] at hb
    cases hb
    exact ⟨e, by rw [← hlen, List.getElem?_append_right (Nat.le_refl _), Nat.sub_self]; rfl, h1, h2⟩
/-- the bounds of an abstract number -/
def ab (S : Sto) (a : AV) : Option (Int × Int) := match S[a.2.1]? with
  | some b => some (b.1 + a.2.2.1, b.2 + a.2.2.1)
  | none => none
/-- the number of a value -/
def vN (v : Value) : Int := match v with
  | .int x => x.toInt
  | .long x => x.toInt
  | _ => 0
theorem gv_num {rho : List Int} {v : Value} {a : AV} (h : gv rho v a) (h2 : Nat.beq a.1 2 = false) : ∃ e, rho[a.2.1]? = some e ∧ vN v = e + a.2.2.1 := by
  cases v with
  | int x => exact h.2
  | long x => exact h.2
  | ref n => have h1 := h.1; rw [h1] at h2; cases h2
  | _ => exact h.elim
theorem ab_num {r0 : List Int} {rho : List Int} {S : Sto} {v : Value} {a : AV} {b : Int × Int} (hs : gs r0 rho S) (h : ∃ e, rho[a.2.1]? = some e ∧ vN v = e + a.2.2.1) (hb : ab S a = some b) : b.1 ≤ vN v ∧ vN v ≤ b.2 := by
  obtain ⟨e, h2, h3⟩ := h
  unfold ab at hb
  cases hk : S[a.2.1]? with
  | none => rw [hk] at hb; cases hb
  | some c =>
    rw [hk] at hb
    cases hb
    obtain ⟨y, h4, h5, h6⟩ := hs.2 _ c hk
    cases h2.symm.trans h4
    show c.1 + a.2.2.1 ≤ vN v ∧ vN v ≤ c.2 + a.2.2.1
    omega
theorem ab_ok {r0 : List Int} {rho : List Int} {S : Sto} {x : Int32} {a : AV} {b : Int × Int} (hs : gs r0 rho S) (h : gv rho (.int x) a) (hb : ab S a = some b) : b.1 ≤ x.toInt ∧ x.toInt ≤ b.2 := ab_num (v := .int x) hs h.2 hb
/-- a symbol's bounds made narrower -/
def nar (S : Sto) (s : Nat) (lo hi : Int) : Sto := S.modify s (fun b => (max b.1 lo, min b.2 hi))
theorem gs_nar {r0 : List Int} {rho : List Int} {S : Sto} {s : Nat} {lo hi e : Int} (h : gs r0 rho S) (he : rho[s]? = some e) (h1 : lo ≤ e) (h2 : e ≤ hi) : gs r0 rho (nar S s lo hi) := by
  refine ⟨⟨by simp [nar, h.1.1], h.1.2⟩, fun k b hb => ?_⟩
  unfold nar at hb
  rw [List.getElem?_modify] at hb
  cases hk : S[k]? with
  | none => rw [hk] at hb; cases hb
  | some c =>
    rw [hk] at hb
    obtain ⟨y, h3, h4, h5⟩ := h.2 k c hk
    by_cases hsk : s = k
    · subst hsk
      cases h3.symm.trans he
      simp at hb
      subst hb
      exact ⟨_, h3, by simp; omega, by simp; omega⟩
    · simp [hsk] at hb
      subst hb
      exact ⟨y, h3, h4, h5⟩
/-- values in a row -/
def gl (rho : List Int) : List Value → List AV → Prop
  | [], [] => True
  | v :: t, a :: u => gv rho v a ∧ gl rho t u
  | _, _ => False
theorem gl_app {rho : List Int} {e : Int} : ∀ {vs : List Value} {as : List AV}, gl rho vs as → gl (rho ++ [e]) vs as
  | [], [], _ => trivial
  | _ :: _, _ :: _, h => ⟨gv_app h.1, gl_app h.2⟩
  | [], _ :: _, h => h.elim
  | _ :: _, [], h => h.elim
theorem gl_1 {rho : List Int} {st : List Value} {a : AV} {sk : List AV} (h : gl rho st (a :: sk)) : ∃ v t, st = v :: t ∧ gv rho v a ∧ gl rho t sk := by
  cases st with
  | nil => exact h.elim
  | cons v t => exact ⟨v, t, rfl, h.1, h.2⟩
def acat (a : AV) : Nat := cond (Nat.beq a.1 1) 2 1
theorem gv_cat {rho : List Int} {v : Value} {a : AV} (h : gv rho v a) : v.category = acat a := by
  cases v with
  | int x => have h1 := h.1; unfold acat; rw [h1]; rfl
  | long x => have h1 := h.1; unfold acat; rw [h1]; rfl
  | ref n => have h1 := h.1; unfold acat; rw [h1]; rfl
  | _ => exact h.elim
theorem gv_int {rho : List Int} {v : Value} {a : AV} (h : gv rho v a) (h0 : Nat.beq a.1 0 = true) : ∃ x, v = .int x := by
  have e : a.1 = 0 := Nat.eq_of_beq_eq_true h0
  cases v with
  | int x => exact ⟨x, rfl⟩
  | long x => have h1 := h.1; omega
  | ref n => have h1 := h.1; omega
  | _ => exact h.elim
theorem gv_long {rho : List Int} {v : Value} {a : AV} (h : gv rho v a) (h0 : Nat.beq a.1 1 = true) : ∃ x, v = .long x := by
  have e : a.1 = 1 := Nat.eq_of_beq_eq_true h0
  cases v with
  | int x => have h1 := h.1; omega
  | long x => exact ⟨x, rfl⟩
  | ref n => have h1 := h.1; omega
  | _ => exact h.elim
theorem gv_ref {rho : List Int} {v : Value} {a : AV} (h : gv rho v a) (h0 : Nat.beq a.1 2 = true) : ∃ n, v = .ref n ∧ n ∈ a.2.2.2 := by
  have e : a.1 = 2 := Nat.eq_of_beq_eq_true h0
  cases v with
  | int x => have h1 := h.1; omega
  | long x => have h1 := h.1; omega
  | ref n => exact ⟨n, rfl, h.2⟩
  | _ => exact h.elim
theorem gl_i {rho : List Int} {st : List Value} {a : AV} {sk : List AV} (h : gl rho st (a :: sk)) (h0 : Nat.beq a.1 0 = true) : ∃ x t, st = .int x :: t ∧ gv rho (.int x) a ∧ gl rho t sk := by
  obtain ⟨v, t, rfl, h1, h2⟩ := gl_1 h
  obtain ⟨x, rfl⟩ := gv_int h1 h0
  exact ⟨x, t, rfl, h1, h2⟩
theorem gl_l {rho : List Int} {st : List Value} {a : AV} {sk : List AV} (h : gl rho st (a :: sk)) (h0 : Nat.beq a.1 1 = true) : ∃ x t, st = .long x :: t ∧ gv rho (.long x) a ∧ gl rho t sk := by
  obtain ⟨v, t, rfl, h1, h2⟩ := gl_1 h
  obtain ⟨x, rfl⟩ := gv_long h1 h0
  exact ⟨x, t, rfl, h1, h2⟩
theorem gl_r {rho : List Int} {st : List Value} {a : AV} {sk : List AV} (h : gl rho st (a :: sk)) (h0 : Nat.beq a.1 2 = true) : ∃ n t, st = .ref n :: t ∧ n ∈ a.2.2.2 ∧ gl rho t sk := by
  obtain ⟨v, t, rfl, h1, h2⟩ := gl_1 h
  obtain ⟨x, rfl, hx⟩ := gv_ref h1 h0
  exact ⟨x, t, rfl, hx, h2⟩
/-! locals -/
def ag : List (Nat × AV) → Nat → Option AV
  | [], _ => none
  | x :: t, i => cond (Nat.beq x.1 i) (some x.2) (ag t i)
theorem ag_mem : ∀ {al : List (Nat × AV)} {i : Nat} {a : AV}, ag al i = some a → (i, a) ∈ al
  | [], _, _, h => by cases h
  | x :: t, i, a, h => by
    unfold ag at h
    cases hb : Nat.beq x.1 i with
    | true =>
      rw [hb] at h
      have e : x.1 = i := Nat.eq_of_beq_eq_true hb
      have e2 : x.2 = a := Option.some.inj h
      rw [← e, ← e2]
      exact List.mem_cons_self
    | false =>
      rw [hb] at h
      exact List.mem_cons_of_mem _ (ag_mem h)
theorem lg_li_ne {i j : Nat} {v : Value} (hne : j ≠ i) : ∀ {ls : Ls}, lg (li ls i v) j = lg ls j
  | [] => by
    have hb : Nat.beq i j = false := by
      cases h : Nat.beq i j with
      | false => rfl
      | true => exact absurd (Nat.eq_of_beq_eq_true h).symm hne
    show cond (Nat.beq i j) _ _ = _
    rw [hb]; rfl
  | x :: t => by
    unfold li
    cases Nat.ble x.1 i with
    | true =>
      show cond (Nat.beq x.1 j) _ _ = cond (Nat.beq x.1 j) _ _
      rw [lg_li_ne hne]
    | false =>
      have hb : Nat.beq i j = false := by
        cases h : Nat.beq i j with
        | false => rfl
        | true => exact absurd (Nat.eq_of_beq_eq_true h).symm hne
      show cond (Nat.beq i j) _ _ = _
      rw [hb]; rfl
theorem beq_self (i : Nat) : Nat.beq i i = true := Nat.beq_refl i
theorem lg_li_eq {i : Nat} {v : Value} : ∀ {ls : Ls}, (∀ x ∈ ls, Nat.beq x.1 i = false) → lg (li ls i v) i = some v
  | [], _ => by show cond (Nat.beq i i) _ _ = _; rw [beq_self]; rfl
  | x :: t, h => by
    unfold li
    cases Nat.ble x.1 i with
    | true =>
      show cond (Nat.beq x.1 i) _ _ = _
      rw [h x List.mem_cons_self]
      exact lg_li_eq (fun y hy => h y (List.mem_cons_of_mem _ hy))
    | false => show cond (Nat.beq i i) _ _ = _; rw [beq_self]; rfl
theorem lg_filter {p : Nat × Value → Bool} {j : Nat} {w : Value} : ∀ {ls : Ls}, lg ls j = some w → p (j, w) = true → lg (ls.filter p) j = some w
  | [], h, _ => by cases h
  | x :: t, h, hp => by
    unfold lg at h
    cases hb : Nat.beq x.1 j with
    | true =>
      rw [hb] at h
      have e : x.1 = j := Nat.eq_of_beq_eq_true hb
      have e2 : x.2 = w := Option.some.inj h
      have e3 : x = (j, w) := by rw [← e, ← e2]
      rw [List.filter_cons, e3, hp]
      show cond (Nat.beq j j) _ _ = _
      rw [beq_self]; rfl
    | false =>
      rw [hb] at h
      rw [List.filter_cons]
      cases p x with
      | true =>
        show cond (Nat.beq x.1 j) _ _ = _
        rw [hb]
        exact lg_filter h hp
      | false => exact lg_filter h hp
theorem lg_lp_eq {ls : Ls} {i : Nat} {v : Value} : lg (lp ls i v) i = some v := by
  refine lg_li_eq (fun x hx => ?_)
  have h := (List.mem_filter.mp hx).2
  unfold lf at h
  cases hb : Nat.beq x.1 i with
  | false => rfl
  | true => rw [hb] at h; cases h
theorem lg_lp_ne {ls : Ls} {i j : Nat} {v w : Value} (h : lg ls j = some w) (hf : lf i (Nat.beq v.category 2) (j, w) = true) : lg (lp ls i v) j = some w := by
  have hne : j ≠ i := by
    intro e
    unfold lf at hf
    rw [show ((j, w) : Nat × Value).1 = i from e, beq_self] at hf
    cases hf
  unfold lp
  rw [lg_li_ne hne]
  exact lg_filter h hf
