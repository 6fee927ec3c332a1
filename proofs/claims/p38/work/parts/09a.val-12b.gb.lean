section
/-! THE CHECKER BY REFLECTION: abstract values over a list of symbols (symbol 0 is the number 0). -/
/-- a symbol's bounds -/
noncomputable abbrev Sto : Type := List (Int × Int)
/-- (0, s, c, _): the int (value of symbol s) + c; (1, s, c, _): a long likewise; (2, _, _, names): a reference, one of these (0 is null) -/
noncomputable abbrev AV : Type := Nat × Nat × Int × List Nat
noncomputable def gv (rho : List Int) (v : Value) (a : AV) : Prop := match v with
  | .int x => a.1 = 0 ∧ ∃ e, rho[a.2.1]? = some e ∧ x.toInt = e + a.2.2.1
  | .long x => a.1 = 1 ∧ ∃ e, rho[a.2.1]? = some e ∧ x.toInt = e + a.2.2.1
  | .ref n => a.1 = 2 ∧ n ∈ a.2.2.2
  | _ => False
noncomputable def gs (r0 rho : List Int) (S : Sto) : Prop := (rho.length = S.length ∧ ∃ t, rho = r0 ++ t) ∧ ∀ (k : Nat) (b : Int × Int), S[k]? = some b → ∃ e, rho[k]? = some e ∧ b.1 ≤ e ∧ e ≤ b.2
theorem gv_app {rho : List Int} {v : Value} {a : AV} {e : Int} (h : gv rho v a) : gv (rho ++ [e]) v a := by
  cases v with
  | int x =>
    obtain ⟨h1, y, h2, h3⟩ := h
    exact ⟨h1, y, by rw [List.getElem?_append_left (List.getElem?_eq_some_iff.mp h2).1]; exact h2, h3⟩
  | long x =>
    obtain ⟨h1, y, h2, h3⟩ := h
    exact ⟨h1, y, by rw [List.getElem?_append_left (List.getElem?_eq_some_iff.mp h2).1]; exact h2, h3⟩
  | _ => exact h
theorem gs_app {r0 : List Int} {rho : List Int} {S : Sto} {e lo hi : Int} (h : gs r0 rho S) (h1 : lo ≤ e) (h2 : e ≤ hi) : gs r0 (rho ++ [e]) (S ++ [(lo, hi)]) := by
  obtain ⟨⟨hlen, t, ht⟩, hh⟩ := h
  have h : gs r0 rho S := ⟨⟨hlen, t, ht⟩, hh⟩
  refine ⟨⟨by simp [hlen], t ++ [e], by rw [ht, List.append_assoc]⟩, fun k b hb => ?_⟩
  by_cases hk : k < S.length
  · rw [List.getElem?_append_left hk] at hb
    obtain ⟨y, h3, h4⟩ := h.2 k b hb
    exact ⟨y, by rw [List.getElem?_append_left (by rw [hlen]; exact hk)]; exact h3, h4⟩
  · have hl : k < (S ++ [(lo, hi)]).length := (List.getElem?_eq_some_iff.mp hb).1
    have he : k = S.length := by simp at hl; omega
    subst he
    rw [List.getElem?_append_right (Nat.le_refl _), Nat.sub_self] at hb
    cases hb
    exact ⟨e, by rw [← hlen, List.getElem?_append_right (Nat.le_refl _), Nat.sub_self]; rfl, h1, h2⟩
/-- the bounds of an abstract number -/
noncomputable def ab (S : Sto) (a : AV) : Option (Int × Int) := match S[a.2.1]? with
  | some b => some (b.1 + a.2.2.1, b.2 + a.2.2.1)
  | none => none
/-- the number of a value -/
noncomputable def vN (v : Value) : Int := match v with
  | .int x => x.toInt
  | .long x => x.toInt
  | _ => 0
theorem ab_num {r0 : List Int} {rho : List Int} {S : Sto} {v : Value} {a : AV} {b : Int × Int} (hs : gs r0 rho S) (h : ∃ e, rho[a.2.1]? = some e ∧ vN v = e + a.2.2.1) (hb : ab S a = some b) : b.1 ≤ vN v ∧ vN v ≤ b.2 := by
  obtain ⟨e, h2, h3⟩ := h
  unfold ab at hb
  cases hk : S[a.2.1]? with
  | none => rw [hk] at hb; cases hb
  | some c =>
    rw [hk] at hb
    cases hb
    obtain ⟨y, h4, h5, h6⟩ := hs.2 _ c hk
    cases h2.symm.trans h4
    show c.1 + a.2.2.1 ≤ vN v ∧ vN v ≤ c.2 + a.2.2.1
    omega
theorem ab_ok {r0 : List Int} {rho : List Int} {S : Sto} {x : Int32} {a : AV} {b : Int × Int} (hs : gs r0 rho S) (h : gv rho (.int x) a) (hb : ab S a = some b) : b.1 ≤ x.toInt ∧ x.toInt ≤ b.2 := ab_num (v := .int x) hs h.2 hb
/-- a symbol's bounds made narrower -/
noncomputable def nar (S : Sto) (s : Nat) (lo hi : Int) : Sto := S.modify s (fun b => (max b.1 lo, min b.2 hi))
theorem gs_nar {r0 : List Int} {rho : List Int} {S : Sto} {s : Nat} {lo hi e : Int} (h : gs r0 rho S) (he : rho[s]? = some e) (h1 : lo ≤ e) (h2 : e ≤ hi) : gs r0 rho (nar S s lo hi) := by
  refine ⟨⟨by simp [nar, h.1.1], h.1.2⟩, fun k b hb => ?_⟩
  unfold nar at hb
  rw [List.getElem?_modify] at hb
  cases hk : S[k]? with
  | none => rw [hk] at hb; cases hb
  | some c =>
    rw [hk] at hb
    obtain ⟨y, h3, h4, h5⟩ := h.2 k c hk
    by_cases hsk : s = k
    · subst hsk
      cases h3.symm.trans he
      simp at hb
      subst hb
      exact ⟨_, h3, by simp; omega, by simp; omega⟩
    · simp [hsk] at hb
      subst hb
      exact ⟨y, h3, h4, h5⟩
/-- values in a row -/
noncomputable def gl (rho : List Int) : List Value → List AV → Prop
  | [], [] => True
  | v :: t, a :: u => gv rho v a ∧ gl rho t u
  | _, _ => False
theorem gl_app {rho : List Int} {e : Int} : ∀ {vs : List Value} {as : List AV}, gl rho vs as → gl (rho ++ [e]) vs as
  | [], [], _ => trivial
  | _ :: _, _ :: _, h => ⟨gv_app h.1, gl_app h.2⟩
  | [], _ :: _, h => h.elim
  | _ :: _, [], h => h.elim
theorem gl_1 {rho : List Int} {st : List Value} {a : AV} {sk : List AV} (h : gl rho st (a :: sk)) : ∃ v t, st = v :: t ∧ gv rho v a ∧ gl rho t sk := by
  cases st with
  | nil => exact h.elim
  | cons v t => exact ⟨v, t, rfl, h.1, h.2⟩
noncomputable def acat (a : AV) : Nat := cond (Nat.beq a.1 1) 2 1
theorem gv_cat {rho : List Int} {v : Value} {a : AV} (h : gv rho v a) : v.category = acat a := by
  cases v with
  | int x => have h1 := h.1; unfold acat; rw [h1]; rfl
  | long x => have h1 := h.1; unfold acat; rw [h1]; rfl
  | ref n => have h1 := h.1; unfold acat; rw [h1]; rfl
  | _ => exact h.elim
theorem gv_int {rho : List Int} {v : Value} {a : AV} (h : gv rho v a) (h0 : Nat.beq a.1 0 = true) : ∃ x, v = .int x := by
  have e : a.1 = 0 := Nat.eq_of_beq_eq_true h0
  cases v with
  | int x => exact ⟨x, rfl⟩
  | long x => have h1 := h.1; omega
  | ref n => have h1 := h.1; omega
  | _ => exact h.elim
theorem gv_long {rho : List Int} {v : Value} {a : AV} (h : gv rho v a) (h0 : Nat.beq a.1 1 = true) : ∃ x, v = .long x := by
  have e : a.1 = 1 := Nat.eq_of_beq_eq_true h0
  cases v with
  | int x => have h1 := h.1; omega
  | long x => exact ⟨x, rfl⟩
  | ref n => have h1 := h.1; omega
  | _ => exact h.elim
theorem gv_ref {rho : List Int} {v : Value} {a : AV} (h : gv rho v a) (h0 : Nat.beq a.1 2 = true) : ∃ n, v = .ref n ∧ n ∈ a.2.2.2 := by
  have e : a.1 = 2 := Nat.eq_of_beq_eq_true h0
  cases v with
  | int x => have h1 := h.1; omega
  | long x => have h1 := h.1; omega
  | ref n => exact ⟨n, rfl, h.2⟩
  | _ => exact h.elim
theorem gl_i {rho : List Int} {st : List Value} {a : AV} {sk : List AV} (h : gl rho st (a :: sk)) (h0 : Nat.beq a.1 0 = true) : ∃ x t, st = .int x :: t ∧ gv rho (.int x) a ∧ gl rho t sk := by
  obtain ⟨v, t, rfl, h1, h2⟩ := gl_1 h
  obtain ⟨x, rfl⟩ := gv_int h1 h0
  exact ⟨x, t, rfl, h1, h2⟩
theorem gl_l {rho : List Int} {st : List Value} {a : AV} {sk : List AV} (h : gl rho st (a :: sk)) (h0 : Nat.beq a.1 1 = true) : ∃ x t, st = .long x :: t ∧ gv rho (.long x) a ∧ gl rho t sk := by
  obtain ⟨v, t, rfl, h1, h2⟩ := gl_1 h
  obtain ⟨x, rfl⟩ := gv_long h1 h0
  exact ⟨x, t, rfl, h1, h2⟩
theorem gl_r {rho : List Int} {st : List Value} {a : AV} {sk : List AV} (h : gl rho st (a :: sk)) (h0 : Nat.beq a.1 2 = true) : ∃ n t, st = .ref n :: t ∧ n ∈ a.2.2.2 ∧ gl rho t sk := by
  obtain ⟨v, t, rfl, h1, h2⟩ := gl_1 h
  obtain ⟨x, rfl, hx⟩ := gv_ref h1 h0
  exact ⟨x, t, rfl, hx, h2⟩
/-! locals -/
noncomputable def ag : List (Nat × AV) → Nat → Option AV
  | [], _ => none
  | x :: t, i => cond (Nat.beq x.1 i) (some x.2) (ag t i)
theorem ag_mem : ∀ {al : List (Nat × AV)} {i : Nat} {a : AV}, ag al i = some a → (i, a) ∈ al
  | [], _, _, h => by cases h
  | x :: t, i, a, h => by
    unfold ag at h
    cases hb : Nat.beq x.1 i with
    | true =>
      rw [hb] at h
      have e : x.1 = i := Nat.eq_of_beq_eq_true hb
      have e2 : x.2 = a := Option.some.inj h
      rw [← e, ← e2]
      exact List.mem_cons_self
    | false =>
      rw [hb] at h
      exact List.mem_cons_of_mem _ (ag_mem h)
theorem lg_li_ne {i j : Nat} {v : Value} (hne : j ≠ i) : ∀ {ls : Ls}, lg (li ls i v) j = lg ls j
  | [] => by
    have hb : Nat.beq i j = false := by
      cases h : Nat.beq i j with
      | false => rfl
      | true => exact absurd (Nat.eq_of_beq_eq_true h).symm hne
    show cond (Nat.beq i j) _ _ = _
    rw [hb]; rfl
  | x :: t => by
    unfold li
    cases Nat.ble x.1 i with
    | true =>
      show cond (Nat.beq x.1 j) _ _ = cond (Nat.beq x.1 j) _ _
      rw [lg_li_ne hne]
    | false =>
      have hb : Nat.beq i j = false := by
        cases h : Nat.beq i j with
        | false => rfl
        | true => exact absurd (Nat.eq_of_beq_eq_true h).symm hne
      show cond (Nat.beq i j) _ _ = _
      rw [hb]; rfl
theorem beq_self (i : Nat) : Nat.beq i i = true := Nat.beq_refl i
theorem lg_li_eq {i : Nat} {v : Value} : ∀ {ls : Ls}, (∀ x ∈ ls, Nat.beq x.1 i = false) → lg (li ls i v) i = some v
  | [], _ => by show cond (Nat.beq i i) _ _ = _; rw [beq_self]; rfl
  | x :: t, h => by
    unfold li
    cases Nat.ble x.1 i with
    | true =>
      show cond (Nat.beq x.1 i) _ _ = _
      rw [h x List.mem_cons_self]
      exact lg_li_eq (fun y hy => h y (List.mem_cons_of_mem _ hy))
    | false => show cond (Nat.beq i i) _ _ = _; rw [beq_self]; rfl
theorem lg_filter {p : Nat × Value → Bool} {j : Nat} {w : Value} : ∀ {ls : Ls}, lg ls j = some w → p (j, w) = true → lg (ls.filter p) j = some w
  | [], h, _ => by cases h
  | x :: t, h, hp => by
    unfold lg at h
    cases hb : Nat.beq x.1 j with
    | true =>
      rw [hb] at h
      have e : x.1 = j := Nat.eq_of_beq_eq_true hb
      have e2 : x.2 = w := Option.some.inj h
      have e3 : x = (j, w) := by rw [← e, ← e2]
      rw [List.filter_cons, e3, hp]
      show cond (Nat.beq j j) _ _ = _
      rw [beq_self]; rfl
    | false =>
      rw [hb] at h
      rw [List.filter_cons]
      cases p x with
      | true =>
        show cond (Nat.beq x.1 j) _ _ = _
        rw [hb]
        exact lg_filter h hp
      | false => exact lg_filter h hp
theorem lg_lp_eq {ls : Ls} {i : Nat} {v : Value} : lg (lp ls i v) i = some v := by
  refine lg_li_eq (fun x hx => ?_)
  have h := (List.mem_filter.mp hx).2
  unfold lf at h
  cases hb : Nat.beq x.1 i with
  | false => rfl
  | true => rw [hb] at h; cases h
theorem lg_lp_ne {ls : Ls} {i j : Nat} {v w : Value} (h : lg ls j = some w) (hf : lf i (Nat.beq v.category 2) (j, w) = true) : lg (lp ls i v) j = some w := by
  have hne : j ≠ i := by
    intro e
    unfold lf at hf
    rw [show ((j, w) : Nat × Value).1 = i from e, beq_self] at hf
    cases hf
  unfold lp
  rw [lg_li_ne hne]
  exact lg_filter h hf
end
section
/-! the checker's states: locals (from 1000 on: the method's arguments as they came), stack, store, what is known of places of the memory -/
noncomputable abbrev ASt : Type := List (Nat × AV) × List AV × Sto × List (Nat × Nat × AV)
noncomputable def lz (av : List Value) (ls : Ls) (i : Nat) : Option Value := cond (Nat.blt i 999) (lg ls i) (av[i - 1000]?)
noncomputable def cvl (M : Mm) (n k t : Nat) : Value := cond (Nat.beq t 2) (.ref (mR M n k)) (cond (Nat.beq t 1) (.long (mL M n k)) (.int (mI M n k)))
noncomputable def gm (av : List Value) (rho : List Int) (ls : Ls) (al : List (Nat × AV)) : Prop := ∀ x ∈ al, ∃ v, lz av ls x.1 = some v ∧ gv rho v x.2
noncomputable def gC (rho : List Int) (M : Mm) (C : List (Nat × Nat × AV)) : Prop := ∀ e ∈ C, gv rho (cvl M e.1 e.2.1 e.2.2.1) e.2.2
noncomputable def gA (av : List Value) (r0 rho : List Int) (M : Mm) (ls : Ls) (st : List Value) (A : ASt) : Prop := gs r0 rho A.2.2.1 ∧ rho[0]? = some 0 ∧ gm av rho ls A.1 ∧ gl rho st A.2.1 ∧ gC rho M A.2.2.2
/-- some symbols' values make it so -/
noncomputable def gX (av : List Value) (r0 : List Int) (M : Mm) (ls : Ls) (st : List Value) (A : ASt) : Prop := ∃ rho, gA av r0 rho M ls st A
theorem gm_app {av : List Value} {rho : List Int} {ls : Ls} {al : List (Nat × AV)} {e : Int} (h : gm av rho ls al) : gm av (rho ++ [e]) ls al := fun x hx => by
  obtain ⟨v, h1, h2⟩ := h x hx
  exact ⟨v, h1, gv_app h2⟩
theorem gC_app {rho : List Int} {M : Mm} {C : List (Nat × Nat × AV)} {e : Int} (h : gC rho M C) : gC (rho ++ [e]) M C := fun x hx => gv_app (h x hx)
theorem r0_app {rho : List Int} {e : Int} (h : rho[0]? = some 0) : (rho ++ [e])[0]? = some 0 := by
  rw [List.getElem?_append_left (List.getElem?_eq_some_iff.mp h).1]; exact h
noncomputable def alf (i : Nat) (two : Bool) (q : Nat × AV) : Bool := !(Nat.beq q.1 i) && (!(Nat.beq (q.1 + 1) i && Nat.beq (acat q.2) 2) && !(two && Nat.beq q.1 (i + 1)))
noncomputable def alp (al : List (Nat × AV)) (i : Nat) (a : AV) : List (Nat × AV) := (i, a) :: al.filter (alf i (Nat.beq (acat a) 2))
theorem gm_lp {av : List Value} {rho : List Int} {i : Nat} {v : Value} {a : AV} {ls : Ls} {al : List (Nat × AV)} (hi : Nat.blt i 999 = true) (hv : gv rho v a) (h : gm av rho ls al) : gm av rho (lp ls i v) (alp al i a) := by
  intro x hx
  rcases List.mem_cons.mp hx with e | hx
  · subst e
    refine ⟨v, ?_, hv⟩
    unfold lz
    rw [hi]
    exact lg_lp_eq
  · obtain ⟨h1, h2⟩ := List.mem_filter.mp hx
    obtain ⟨w, h3, h4⟩ := h x h1
    refine ⟨w, ?_, h4⟩
    unfold lz at h3 ⊢
    cases hb : Nat.blt x.1 999 with
    | false => rw [hb] at h3; exact h3
    | true =>
      rw [hb] at h3
      refine lg_lp_ne h3 ?_
      unfold lf
      unfold alf at h2
      rw [gv_cat hv, gv_cat h4]
      exact h2
theorem gm_lg {av : List Value} {rho : List Int} {ls : Ls} {al : List (Nat × AV)} {i : Nat} {a : AV} (hi : Nat.blt i 999 = true) (h : gm av rho ls al) (ha : ag al i = some a) : ∃ v, lg ls i = some v ∧ gv rho v a := by
  obtain ⟨v, h1, h2⟩ := h _ (ag_mem ha)
  unfold lz at h1
  rw [hi] at h1
  exact ⟨v, h1, h2⟩
theorem gA_stk {av : List Value} {r0 rho : List Int} {M : Mm} {ls : Ls} {st st' : List Value} {A : ASt} {sk : List AV} (h : gA av r0 rho M ls st A) (hk : gl rho st' sk) : gA av r0 rho M ls st' (A.1, sk, A.2.2) := ⟨h.1, h.2.1, h.2.2.1, hk, h.2.2.2.2⟩
theorem gA_app {av : List Value} {r0 rho : List Int} {M : Mm} {ls : Ls} {st : List Value} {A : ASt} {e lo hi : Int} (h : gA av r0 rho M ls st A) (h1 : lo ≤ e) (h2 : e ≤ hi) : gA av r0 (rho ++ [e]) M ls st (A.1, A.2.1, A.2.2.1 ++ [(lo, hi)], A.2.2.2) :=
  ⟨gs_app h.1 h1 h2, r0_app h.2.1, gm_app h.2.2.1, gl_app h.2.2.2.1, gC_app h.2.2.2.2⟩
theorem at_end {r0 rho : List Int} {S : Sto} {e : Int} (h : gs r0 rho S) : (rho ++ [e])[S.length]? = some e := by
  rw [← h.1.1, List.getElem?_append_right (Nat.le_refl _), Nat.sub_self]
  rfl
noncomputable def cst (v : Int) : AV := (0, 0, v, [])
theorem gv_cst {rho : List Int} {v : Int32} (h : rho[0]? = some 0) : gv rho (.int v) (cst v.toInt) := ⟨rfl, 0, h, by show v.toInt = 0 + v.toInt; omega⟩
/-- a new symbol -/
noncomputable def fsh (A : ASt) (t : Nat) (sk : List AV) (lo hi : Int) : ASt := (A.1, (t, A.2.2.1.length, 0, []) :: sk, A.2.2.1 ++ [(lo, hi)], A.2.2.2)
theorem gA_fresh {av : List Value} {r0 rho : List Int} {M : Mm} {ls : Ls} {st st' : List Value} {A : ASt} {sk : List AV} {x : Int32} {lo hi : Int} (h : gA av r0 rho M ls st A) (hk : gl rho st' sk) (h1 : lo ≤ x.toInt) (h2 : x.toInt ≤ hi) : gX av r0 M ls (.int x :: st') (fsh A 0 sk lo hi) :=
  ⟨rho ++ [x.toInt], gA_stk (gA_app h h1 h2) ⟨⟨rfl, x.toInt, at_end h.1, by show x.toInt = x.toInt + 0; omega⟩, gl_app hk⟩⟩
theorem gA_freshL {av : List Value} {r0 rho : List Int} {M : Mm} {ls : Ls} {st st' : List Value} {A : ASt} {sk : List AV} {x : Int64} {lo hi : Int} (h : gA av r0 rho M ls st A) (hk : gl rho st' sk) (h1 : lo ≤ x.toInt) (h2 : x.toInt ≤ hi) : gX av r0 M ls (.long x :: st') (fsh A 1 sk lo hi) :=
  ⟨rho ++ [x.toInt], gA_stk (gA_app h h1 h2) ⟨⟨rfl, x.toInt, at_end h.1, by show x.toInt = x.toInt + 0; omega⟩, gl_app hk⟩⟩
/-- the ways on: whatever holds of a state's memory, locals and stack leads on -/
noncomputable def Nx (J : Mm → Prop) (av : List Value) (r0 : List Int) (kn : KN) (L : List (Nat × ASt)) : Prop := ∀ z ∈ L, ∀ ls st M, J M → gX av r0 M ls st z.2 → kn z.1 ls st M
/-- an operation leads from a state to the states of a list -/
noncomputable def Sd (J : Mm → Prop) (av : List Value) (r0 : List Int) (kr : KR) (o : OP) (A : ASt) (L : List (Nat × ASt)) : Prop := ∀ ls st M kn, J M → gX av r0 M ls st A → Nx J av r0 kn L → o kn kr ls st M
theorem Nx.one {J : Mm → Prop} {av : List Value} {r0 : List Int} {kn : KN} {pc : Nat} {B : ASt} {ls : Ls} {st : List Value} {M : Mm} (h : Nx J av r0 kn [(pc, B)]) (hJ : J M) (hg : gX av r0 M ls st B) : kn pc ls st M := h (pc, B) (List.mem_singleton.mpr rfl) ls st M hJ hg
theorem condN {α : Type} {c : Bool} {x : Option α} {y : α} (h : cond c x none = some y) : c = true ∧ x = some y := by
  cases c with
  | true => exact ⟨rfl, h⟩
  | false => cases h
theorem andT {a b : Bool} (h : (a && b) = true) : a = true ∧ b = true := Bool.and_eq_true_iff.mp h
noncomputable def iLo : Int := -2147483648
noncomputable def iHi : Int := 2147483647
noncomputable def lLo : Int := -9223372036854775808
noncomputable def lHi : Int := 9223372036854775807
theorem i32_lo (x : Int32) : iLo ≤ x.toInt := x.le_toInt
theorem i32_hi (x : Int32) : x.toInt ≤ iHi := by have := x.toInt_lt; unfold iHi; omega
theorem i64_lo (x : Int64) : lLo ≤ x.toInt := x.le_toInt
theorem i64_hi (x : Int64) : x.toInt ≤ lHi := by have := x.toInt_lt; unfold lHi; omega
theorem bm {z : Int} (h1 : iLo ≤ z) (h2 : z ≤ iHi) : z.bmod (2 ^ 32) = z := by
  unfold iLo at h1
  unfold iHi at h2
  exact Int.bmod_eq_of_le (by omega) (by omega)
theorem add_i {x y : Int32} (h1 : iLo ≤ x.toInt + y.toInt) (h2 : x.toInt + y.toInt ≤ iHi) : (x + y).toInt = x.toInt + y.toInt := by
  rw [Int32.toInt_add]
  exact bm h1 h2
theorem sub_i {x y : Int32} (h1 : iLo ≤ x.toInt - y.toInt) (h2 : x.toInt - y.toInt ≤ iHi) : (x - y).toInt = x.toInt - y.toInt := by
  rw [Int32.toInt_sub]
  exact bm h1 h2
theorem mul_i {x y : Int32} (h1 : iLo ≤ x.toInt * y.toInt) (h2 : x.toInt * y.toInt ≤ iHi) : (x * y).toInt = x.toInt * y.toInt := by
  rw [Int32.toInt_mul]
  exact bm h1 h2
end
section
/-! what a comparison tells -/
noncomputable def relH (r : Nat) (x y : Int) : Prop := match r with
  | 0 => x = y
  | 1 => x ≠ y
  | 2 => x < y
  | _ => x ≤ y
/-- bounds of both sides behind it -/
noncomputable def relB (r : Nat) (p q : Int × Int) : (Int × Int) × (Int × Int) := match r with
  | 0 => (q, p)
  | 1 => (if q.1 = q.2 ∧ p.1 = q.1 then (p.1 + 1, iHi) else if q.1 = q.2 ∧ p.2 = q.1 then (iLo, p.2 - 1) else (iLo, iHi), if p.1 = p.2 ∧ q.1 = p.1 then (q.1 + 1, iHi) else if p.1 = p.2 ∧ q.2 = p.1 then (iLo, q.2 - 1) else (iLo, iHi))
  | 2 => ((iLo, q.2 - 1), (p.1 + 1, iHi))
  | _ => ((iLo, q.2), (p.1, iHi))
theorem relN {p q : Int × Int} {x y : Int} (hx : p.1 ≤ x ∧ x ≤ p.2) (hy : q.1 ≤ y ∧ y ≤ q.2) (ix : iLo ≤ x ∧ x ≤ iHi) (h : x ≠ y) : (if q.1 = q.2 ∧ p.1 = q.1 then (p.1 + 1, iHi) else if q.1 = q.2 ∧ p.2 = q.1 then (iLo, p.2 - 1) else (iLo, iHi)).1 ≤ x ∧ x ≤ (if q.1 = q.2 ∧ p.1 = q.1 then (p.1 + 1, iHi) else if q.1 = q.2 ∧ p.2 = q.1 then (iLo, p.2 - 1) else (iLo, iHi)).2 := by
  split
  · show p.1 + 1 ≤ x ∧ x ≤ iHi
    omega
  · split
    · show iLo ≤ x ∧ x ≤ p.2 - 1
      omega
    · exact ix
theorem relB_ok {r : Nat} {p q : Int × Int} {x y : Int} (hx : p.1 ≤ x ∧ x ≤ p.2) (hy : q.1 ≤ y ∧ y ≤ q.2) (ix : iLo ≤ x ∧ x ≤ iHi) (iy : iLo ≤ y ∧ y ≤ iHi) (h : relH r x y) : ((relB r p q).1.1 ≤ x ∧ x ≤ (relB r p q).1.2) ∧ ((relB r p q).2.1 ≤ y ∧ y ≤ (relB r p q).2.2) := by
  match r with
  | 0 =>
    have h : x = y := h
    show (q.1 ≤ x ∧ x ≤ q.2) ∧ (p.1 ≤ y ∧ y ≤ p.2)
    omega
  | 1 => exact ⟨relN hx hy ix h, relN hy hx iy (fun e => (show x ≠ y from h) e.symm)⟩
  | 2 =>
    have h : x < y := h
    show (iLo ≤ x ∧ x ≤ q.2 - 1) ∧ (p.1 + 1 ≤ y ∧ y ≤ iHi)
    omega
  | r + 3 =>
    have h : x ≤ y := h
    show (iLo ≤ x ∧ x ≤ q.2) ∧ (p.1 ≤ y ∧ y ≤ iHi)
    omega
noncomputable def rfn (S : Sto) (a : AV) (b : Int × Int) : Sto := nar S a.2.1 (b.1 - a.2.2.1) (b.2 - a.2.2.1)
theorem rfn_ok {r0 : List Int} {rho : List Int} {S : Sto} {x : Int32} {a : AV} {b : Int × Int} (h : gs r0 rho S) (hx : gv rho (.int x) a) (h1 : b.1 ≤ x.toInt) (h2 : x.toInt ≤ b.2) : gs r0 rho (rfn S a b) := by
  obtain ⟨-, e, he, he2⟩ := hx
  exact gs_nar h he (by omega) (by omega)
/-- a symbol without a value: no run comes here -/
noncomputable def ded (S : Sto) : Bool := S.any (fun b => decide (b.2 < b.1))
theorem ded_ok {r0 : List Int} {rho : List Int} {S : Sto} (h : gs r0 rho S) : ded S = false := by
  cases hd : ded S with
  | false => rfl
  | true =>
    obtain ⟨b, hb, h2⟩ := List.any_eq_true.mp hd
    obtain ⟨k, hk⟩ := List.getElem?_of_mem hb
    obtain ⟨e, -, h3, h4⟩ := h.2 k b hk
    have h5 : b.2 < b.1 := of_decide_eq_true h2
    omega
/-- the ways on behind a state, none where no run comes -/
noncomputable def on1 (pc : Nat) (A : ASt) : List (Nat × ASt) := cond (ded A.2.2.1) [] [(pc, A)]
theorem on1_in {pc : Nat} {A : ASt} {av : List Value} {r0 : List Int} {M : Mm} {ls : Ls} {st : List Value} (h : gX av r0 M ls st A) : (pc, A) ∈ on1 pc A := by
  obtain ⟨rho, h⟩ := h
  unfold on1
  rw [ded_ok h.1]
  exact List.mem_singleton.mpr rfl
/-- the state behind a comparison of two abstract ints -/
noncomputable def cmp (r : Nat) (A : ASt) (x y : AV) (sk : List AV) : Option ASt := match ab A.2.2.1 x, ab A.2.2.1 y with
  | some p, some q => some (A.1, sk, rfn (rfn A.2.2.1 x (relB r p q).1) y (relB r p q).2, A.2.2.2)
  | _, _ => none
theorem cmp_ok {av : List Value} {r0 : List Int} {r : Nat} {rho : List Int} {M : Mm} {ls : Ls} {st st' : List Value} {A A' : ASt} {x y : AV} {sk : List AV} {a b : Int32} (h : gA av r0 rho M ls st A) (hx : gv rho (.int a) x) (hy : gv rho (.int b) y) (hk : gl rho st' sk) (hr : relH r a.toInt b.toInt) (he : cmp r A x y sk = some A') : gX av r0 M ls st' A' := by
  unfold cmp at he
  cases hp : ab A.2.2.1 x with
  | none => rw [hp] at he; cases he
  | some p =>
    cases hq : ab A.2.2.1 y with
    | none => rw [hp, hq] at he; cases he
    | some q =>
      rw [hp, hq] at he
      cases he
      have hb := relB_ok (ab_ok h.1 hx hp) (ab_ok h.1 hy hq) ⟨i32_lo a, i32_hi a⟩ ⟨i32_lo b, i32_hi b⟩ hr
      have hs := rfn_ok (rfn_ok h.1 hx hb.1.1 hb.1.2) hy hb.2.1 hb.2.2
      exact ⟨rho, hs, h.2.1, h.2.2.1, hk, h.2.2.2.2⟩
/-- the conditions of the tables, by number; what holds where they hold, where they don't -/
noncomputable def cpP (k : Nat) : Int32 → Int32 → Prop := match k with
  | 0 => fun x y => x = y
  | 1 => fun x y => ¬ x = y
  | 2 => fun x y => x < y
  | 3 => fun x y => y ≤ x
  | 4 => fun x y => y < x
  | _ => fun x y => x ≤ y
noncomputable def cpN (k : Nat) : Int32 → Int32 → Prop := match k with
  | 0 => fun x y => ¬ x = y
  | 1 => fun x y => x = y
  | 2 => fun x y => ¬ x < y
  | 3 => fun x y => ¬ y ≤ x
  | 4 => fun x y => ¬ y < x
  | _ => fun x y => ¬ x ≤ y
/-- (relation, the other way round) -/
noncomputable def cpR (k : Nat) : (Nat × Bool) × (Nat × Bool) := match k with
  | 0 => ((0, false), (1, false))
  | 1 => ((1, false), (0, false))
  | 2 => ((2, false), (3, true))
  | 3 => ((3, true), (2, false))
  | 4 => ((2, true), (3, false))
  | _ => ((3, false), (2, true))
noncomputable def relS (r : Nat × Bool) (x y : Int) : Prop := cond r.2 (relH r.1 y x) (relH r.1 x y)
theorem cp_p {k : Nat} {x y : Int32} (h : cpP k x y) : relS (cpR k).1 x.toInt y.toInt := by
  match k with
  | 0 => exact congrArg Int32.toInt (show x = y from h)
  | 1 => exact fun e => (show ¬ x = y from h) (Int32.toInt_inj.mp e)
  | 2 => exact Int32.lt_iff_toInt_lt.mp (show x < y from h)
  | 3 => exact Int32.le_iff_toInt_le.mp (show y ≤ x from h)
  | 4 => exact Int32.lt_iff_toInt_lt.mp (show y < x from h)
  | k + 5 => exact Int32.le_iff_toInt_le.mp (show x ≤ y from h)
theorem cp_n {k : Nat} {x y : Int32} (h : cpN k x y) : relS (cpR k).2 x.toInt y.toInt := by
  match k with
  | 0 => exact fun e => (show ¬ x = y from h) (Int32.toInt_inj.mp e)
  | 1 => exact congrArg Int32.toInt (show x = y from h)
  | 2 => exact Int.not_lt.mp (fun z => (show ¬ x < y from h) (Int32.lt_iff_toInt_lt.mpr z))
  | 3 => exact Int.not_le.mp (fun z => (show ¬ y ≤ x from h) (Int32.le_iff_toInt_le.mpr z))
  | 4 => exact Int.not_lt.mp (fun z => (show ¬ y < x from h) (Int32.lt_iff_toInt_lt.mpr z))
  | k + 5 => exact Int.not_le.mp (fun z => (show ¬ x ≤ y from h) (Int32.le_iff_toInt_le.mpr z))
noncomputable def cmpS (r : Nat × Bool) (A : ASt) (x y : AV) (sk : List AV) : Option ASt := cond r.2 (cmp r.1 A y x sk) (cmp r.1 A x y sk)
theorem cmpS_ok {av : List Value} {r0 : List Int} {r : Nat × Bool} {rho : List Int} {M : Mm} {ls : Ls} {st st' : List Value} {A A' : ASt} {x y : AV} {sk : List AV} {a b : Int32} (h : gA av r0 rho M ls st A) (hx : gv rho (.int a) x) (hy : gv rho (.int b) y) (hk : gl rho st' sk) (hr : relS r a.toInt b.toInt) (he : cmpS r A x y sk = some A') : gX av r0 M ls st' A' := by
  unfold cmpS at he
  unfold relS at hr
  cases hb : r.2 with
  | true => rw [hb] at he hr; exact cmp_ok h hy hx hk hr he
  | false => rw [hb] at he hr; exact cmp_ok h hx hy hk hr he
noncomputable def two (pc t k : Nat) (A : ASt) (x y : AV) (sk : List AV) : Option (List (Nat × ASt)) := match cmpS (cpR k).1 A x y sk, cmpS (cpR k).2 A x y sk with
  | some T, some F => some (on1 t T ++ on1 (pc + 3) F)
  | _, _ => none
theorem two_ok {J : Mm → Prop} {av : List Value} {r0 : List Int} {pc t k : Nat} {rho : List Int} {ls : Ls} {st st' : List Value} {A : ASt} {x y : AV} {sk : List AV} {a b : Int32} {L : List (Nat × ASt)} {M : Mm} {kn : KN} (hJ : J M) (h : gA av r0 rho M ls st A) (hx : gv rho (.int a) x) (hy : gv rho (.int b) y) (hk : gl rho st' sk) (he : two pc t k A x y sk = some L) (hn : Nx J av r0 kn L) : (cpP k a b → kn t ls st' M) ∧ (cpN k a b → kn (pc + 3) ls st' M) := by
  unfold two at he
  cases hT : cmpS (cpR k).1 A x y sk with
  | none => rw [hT] at he; cases he
  | some T =>
    cases hF : cmpS (cpR k).2 A x y sk with
    | none => rw [hT, hF] at he; cases he
    | some F =>
      rw [hT, hF] at he
      cases he
      refine ⟨fun hp => ?_, fun hp => ?_⟩
      · have h1 := cmpS_ok h hx hy hk (cp_p hp) hT
        exact hn (t, T) (List.mem_append_left _ (on1_in h1)) _ _ _ hJ h1
      · have h1 := cmpS_ok h hx hy hk (cp_n hp) hF
        exact hn (pc + 3, F) (List.mem_append_right _ (on1_in h1)) _ _ _ hJ h1
end
section
/-! the checker's steps over numbers, locals, jumps -/
noncomputable def bAny (_ _ : Int × Int) : Int × Int := (iLo, iHi)
theorem bAny_ok {g : Int32 → Int32 → Int32} (p q : Int × Int) (x y : Int32) (_ : p.1 ≤ x.toInt ∧ x.toInt ≤ p.2) (_ : q.1 ≤ y.toInt ∧ y.toInt ≤ q.2) : (bAny p q).1 ≤ (g x y).toInt ∧ (g x y).toInt ≤ (bAny p q).2 := ⟨i32_lo _, i32_hi _⟩
noncomputable def bSub (p q : Int × Int) : Int × Int := if iLo ≤ p.1 - q.2 ∧ p.2 - q.1 ≤ iHi then (p.1 - q.2, p.2 - q.1) else (iLo, iHi)
theorem bSub_ok (p q : Int × Int) (x y : Int32) (h1 : p.1 ≤ x.toInt ∧ x.toInt ≤ p.2) (h2 : q.1 ≤ y.toInt ∧ y.toInt ≤ q.2) : (bSub p q).1 ≤ (x - y).toInt ∧ (x - y).toInt ≤ (bSub p q).2 := by
  unfold bSub
  split
  · rw [sub_i (by omega) (by omega)]
    show p.1 - q.2 ≤ x.toInt - y.toInt ∧ x.toInt - y.toInt ≤ p.2 - q.1
    omega
  · exact ⟨i32_lo _, i32_hi _⟩
/-- a product of numbers that aren't below 0 -/
noncomputable def bMul (p q : Int × Int) : Int × Int := if 0 ≤ p.1 ∧ 0 ≤ q.1 ∧ p.2 * q.2 ≤ iHi then (p.1 * q.1, p.2 * q.2) else (iLo, iHi)
theorem bMul_ok (p q : Int × Int) (x y : Int32) (h1 : p.1 ≤ x.toInt ∧ x.toInt ≤ p.2) (h2 : q.1 ≤ y.toInt ∧ y.toInt ≤ q.2) : (bMul p q).1 ≤ (x * y).toInt ∧ (x * y).toInt ≤ (bMul p q).2 := by
  unfold bMul
  split
  · rename_i h
    have e1 : p.1 * q.1 ≤ x.toInt * y.toInt := Int.mul_le_mul h1.1 h2.1 h.2.1 (by omega)
    have e2 : x.toInt * y.toInt ≤ p.2 * q.2 := Int.mul_le_mul h1.2 h2.2 (by omega) (by omega)
    have e3 : 0 ≤ p.1 * q.1 := Int.mul_nonneg h.1 h.2.1
    have e4 : iLo ≤ 0 := by decide
    rw [mul_i (by omega) (by omega)]
    exact ⟨e1, e2⟩
  · exact ⟨i32_lo _, i32_hi _⟩
theorem and_b {x y : Int32} (h : 0 ≤ y.toInt) : 0 ≤ (x &&& y).toInt ∧ (x &&& y).toInt ≤ y.toInt := by
  have e : (x &&& y).toBitVec.toNat ≤ y.toBitVec.toNat := by
    rw [Int32.toBitVec_and, BitVec.toNat_and]
    exact Nat.and_le_right
  have e1 : (x &&& y).toInt = (x &&& y).toBitVec.toInt := rfl
  have e2 : y.toInt = y.toBitVec.toInt := rfl
  have hl := y.toBitVec.isLt
  rw [e1, e2, BitVec.toInt_eq_toNat_cond, BitVec.toInt_eq_toNat_cond]
  rw [e2, BitVec.toInt_eq_toNat_cond] at h
  split at h
  · rename_i h3
    rw [if_pos (by omega), if_pos h3]
    omega
  · omega
noncomputable def bAnd (p q : Int × Int) : Int × Int := if 0 ≤ q.1 then (0, q.2) else if 0 ≤ p.1 then (0, p.2) else (iLo, iHi)
theorem bAnd_ok (p q : Int × Int) (x y : Int32) (h1 : p.1 ≤ x.toInt ∧ x.toInt ≤ p.2) (h2 : q.1 ≤ y.toInt ∧ y.toInt ≤ q.2) : (bAnd p q).1 ≤ (x &&& y).toInt ∧ (x &&& y).toInt ≤ (bAnd p q).2 := by
  unfold bAnd
  split
  · have := and_b (x := x) (y := y) (by omega)
    show 0 ≤ (x &&& y).toInt ∧ (x &&& y).toInt ≤ q.2
    omega
  · split
    · have := and_b (x := y) (y := x) (by omega)
      rw [Int32.and_comm] at this
      show 0 ≤ (x &&& y).toInt ∧ (x &&& y).toInt ≤ p.2
      omega
    · exact ⟨i32_lo _, i32_hi _⟩
theorem shl1 : ∀ k : Fin 31, ((1 : Int32) <<< (nI k.val &&& 31)).toInt = ((2 ^ k.val : Nat) : Int) := by decide
theorem nI_at {i : Int32} (h0 : 0 ≤ i.toInt) (h1 : i.toInt < 1000) : i = nI i.toInt.toNat := by
  refine Int32.toInt_inj.mp ?_
  rw [nI_toInt (by omega)]
  omega
noncomputable def bShl (p q : Int × Int) : Int × Int := if (p.1 = 1 ∧ p.2 = 1) ∧ 0 ≤ q.1 ∧ q.2 ≤ 30 then (((2 ^ q.1.toNat : Nat) : Int), ((2 ^ q.2.toNat : Nat) : Int)) else (iLo, iHi)
theorem bShl_ok (p q : Int × Int) (x y : Int32) (h1 : p.1 ≤ x.toInt ∧ x.toInt ≤ p.2) (h2 : q.1 ≤ y.toInt ∧ y.toInt ≤ q.2) : (bShl p q).1 ≤ (x <<< (y &&& 31)).toInt ∧ (x <<< (y &&& 31)).toInt ≤ (bShl p q).2 := by
  unfold bShl
  split
  · rename_i h
    have hx : x = 1 := Int32.toInt_inj.mp (by show x.toInt = 1; omega)
    have hy := nI_at (i := y) (by omega) (by omega)
    have hk := shl1 ⟨y.toInt.toNat, by omega⟩
    rw [hx, hy, hk]
    show ((2 ^ q.1.toNat : Nat) : Int) ≤ ((2 ^ y.toInt.toNat : Nat) : Int) ∧ ((2 ^ y.toInt.toNat : Nat) : Int) ≤ ((2 ^ q.2.toNat : Nat) : Int)
    exact ⟨Int.ofNat_le.mpr (Nat.pow_le_pow_right (by decide) (by omega)), Int.ofNat_le.mpr (Nat.pow_le_pow_right (by decide) (by omega))⟩
  · exact ⟨i32_lo _, i32_hi _⟩
theorem div_i {x y : Int32} (h0 : 0 ≤ x.toInt) (h1 : 0 < y.toInt) : (x / y).toInt = x.toInt.tdiv y.toInt := by
  have e1 := Int.tdiv_le_self (a := x.toInt) y.toInt h0
  have e2 : 0 ≤ x.toInt.tdiv y.toInt := Int.tdiv_nonneg h0 (Int.le_of_lt h1)
  have e3 := i32_hi x
  have e4 : iLo ≤ 0 := by decide
  rw [Int32.toInt_div]
  exact bm (by omega) (by omega)
theorem rem_i {x y : Int32} (h0 : 0 ≤ x.toInt) (h1 : 0 < y.toInt) : (x - x / y * y).toInt = x.toInt.tmod y.toInt := by
  have d := div_i h0 h1
  have m0 := Int.tmod_nonneg y.toInt h0
  have e1 := Int.tmod_def x.toInt y.toInt
  rw [Int.mul_comm] at e1
  have e2 : 0 ≤ x.toInt.tdiv y.toInt := Int.tdiv_nonneg h0 (Int.le_of_lt h1)
  have e3 : 0 ≤ x.toInt.tdiv y.toInt * y.toInt := Int.mul_nonneg e2 (Int.le_of_lt h1)
  have e4 : iLo ≤ 0 := by decide
  have e5 := i32_hi x
  have m : (x / y * y).toInt = x.toInt.tdiv y.toInt * y.toInt := by
    rw [← d]
    exact mul_i (by rw [d]; omega) (by rw [d]; omega)
  rw [sub_i (by rw [m]; omega) (by rw [m]; omega), m, e1]
noncomputable def bDiv (p q : Int × Int) : Int × Int := if 0 ≤ p.1 ∧ 0 < q.1 then (0, p.2) else (iLo, iHi)
theorem bDiv_ok (p q : Int × Int) (x y : Int32) (h1 : p.1 ≤ x.toInt ∧ x.toInt ≤ p.2) (h2 : q.1 ≤ y.toInt ∧ y.toInt ≤ q.2) : (bDiv p q).1 ≤ (x / y).toInt ∧ (x / y).toInt ≤ (bDiv p q).2 := by
  unfold bDiv
  split
  · rw [div_i (by omega) (by omega)]
    have e1 := Int.tdiv_le_self (a := x.toInt) y.toInt (by omega)
    have e2 : 0 ≤ x.toInt.tdiv y.toInt := Int.tdiv_nonneg (by omega) (by omega)
    show 0 ≤ x.toInt.tdiv y.toInt ∧ x.toInt.tdiv y.toInt ≤ p.2
    omega
  · exact ⟨i32_lo _, i32_hi _⟩
noncomputable def bRem (p q : Int × Int) : Int × Int := if 0 ≤ p.1 ∧ 0 < q.1 then (0, q.2 - 1) else (iLo, iHi)
theorem bRem_ok (p q : Int × Int) (x y : Int32) (h1 : p.1 ≤ x.toInt ∧ x.toInt ≤ p.2) (h2 : q.1 ≤ y.toInt ∧ y.toInt ≤ q.2) : (bRem p q).1 ≤ (x - x / y * y).toInt ∧ (x - x / y * y).toInt ≤ (bRem p q).2 := by
  unfold bRem
  split
  · rw [rem_i (by omega) (by omega)]
    have e1 := Int.tmod_nonneg (a := x.toInt) y.toInt (by omega)
    have e2 := Int.tmod_lt_of_pos x.toInt (b := y.toInt) (by omega)
    show 0 ≤ x.toInt.tmod y.toInt ∧ x.toInt.tmod y.toInt ≤ q.2 - 1
    omega
  · exact ⟨i32_lo _, i32_hi _⟩
section NUM
variable {J : Mm → Prop} {av : List Value} {r0 : List Int} {kr : KR} {A : ASt} {L : List (Nat × ASt)} {pc : Nat}
noncomputable def aIc (pc n : Nat) (v : Int) (A : ASt) : Option (List (Nat × ASt)) := some [(pc + n, (A.1, cst v :: A.2.1, A.2.2))]
theorem aIc_ok {n : Nat} {v : Int32} (he : aIc pc n v.toInt A = some L) : Sd J av r0 kr (oIc pc n v) A L := by
  intro ls st M kn hJ hg hn
  obtain ⟨rho, hg⟩ := hg
  cases he
  exact hn.one hJ ⟨rho, gA_stk hg ⟨gv_cst hg.2.1, hg.2.2.2.1⟩⟩
/-- a local of a kind -/
noncomputable def aLd (t pc n i : Nat) (A : ASt) : Option (List (Nat × ASt)) := match ag A.1 i with
  | some a => cond (Nat.beq a.1 t && Nat.blt i 999) (some [(pc + n, (A.1, a :: A.2.1, A.2.2))]) none
  | none => none
theorem aLd_in {t n i : Nat} {ls : Ls} {st : List Value} {M : Mm} {kn : KN} (he : aLd t pc n i A = some L) (hJ : J M) (hg : gX av r0 M ls st A) (hn : Nx J av r0 kn L) : ∃ v a rho, lg ls i = some v ∧ gv rho v a ∧ Nat.beq a.1 t = true ∧ kn (pc + n) ls (v :: st) M := by
  obtain ⟨rho, hg⟩ := hg
  unfold aLd at he
  cases ha : ag A.1 i with
  | none => rw [ha] at he; cases he
  | some a =>
    rw [ha] at he
    obtain ⟨h0, he⟩ := condN he
    obtain ⟨h1, h2⟩ := andT h0
    cases he
    obtain ⟨v, hv, hva⟩ := gm_lg h2 hg.2.2.1 ha
    exact ⟨v, a, rho, hv, hva, h1, hn.one hJ ⟨rho, gA_stk hg ⟨hva, hg.2.2.2.1⟩⟩⟩
theorem aIl_ok {n i : Nat} (he : aLd 0 pc n i A = some L) : Sd J av r0 kr (oIl pc n i) A L := by
  intro ls st M kn hJ hg hn
  obtain ⟨v, a, rho, h1, h2, h3, h4⟩ := aLd_in he hJ hg hn
  obtain ⟨x, rfl⟩ := gv_int h2 h3
  simp only [oIl, h1]
  exact h4
theorem aLl_ok {n i : Nat} (he : aLd 1 pc n i A = some L) : Sd J av r0 kr (oLl pc n i) A L := by
  intro ls st M kn hJ hg hn
  obtain ⟨v, a, rho, h1, h2, h3, h4⟩ := aLd_in he hJ hg hn
  obtain ⟨x, rfl⟩ := gv_long h2 h3
  simp only [oLl, h1]
  exact h4
noncomputable def aAl (pc n i : Nat) (A : ASt) : Option (List (Nat × ASt)) := match ag A.1 i with
  | some a => cond (Nat.beq a.1 2 && (Nat.blt i 999 && a.2.2.2.all (Nat.blt 0))) (some [(pc + n, (A.1, a :: A.2.1, A.2.2))]) none
  | none => none
theorem aAl_ok {n i : Nat} (he : aAl pc n i A = some L) : Sd J av r0 kr (oAl pc n i) A L := by
  intro ls st M kn hJ hg hn
  obtain ⟨rho, hg⟩ := hg
  unfold aAl at he
  cases ha : ag A.1 i with
  | none => rw [ha] at he; cases he
  | some a =>
    rw [ha] at he
    obtain ⟨h0, he⟩ := condN he
    obtain ⟨h1, h2⟩ := andT h0
    obtain ⟨h2, h3⟩ := andT h2
    cases he
    obtain ⟨v, hv, hva⟩ := gm_lg h2 hg.2.2.1 ha
    obtain ⟨k, rfl, hm⟩ := gv_ref hva h1
    simp only [oAl, hv, List.all_eq_true.mp h3 k hm, cond_true]
    exact hn.one hJ ⟨rho, gA_stk hg ⟨hva, hg.2.2.2.1⟩⟩
/-- into a local -/
noncomputable def aSt (t pc n i : Nat) (A : ASt) : Option (List (Nat × ASt)) := match A.2.1 with
  | a :: sk => cond (Nat.beq a.1 t && (Nat.blt i 999 && (Nat.blt t 2 || a.2.2.2.all (Nat.blt 0)))) (some [(pc + n, (alp A.1 i a, sk, A.2.2))]) none
  | [] => none
theorem aSt_in {t n i : Nat} {ls : Ls} {st : List Value} {M : Mm} {kn : KN} (he : aSt t pc n i A = some L) (hJ : J M) (hg : gX av r0 M ls st A) (hn : Nx J av r0 kn L) : ∃ v a rho st', st = v :: st' ∧ gv rho v a ∧ Nat.beq a.1 t = true ∧ (Nat.blt t 2 || a.2.2.2.all (Nat.blt 0)) = true ∧ kn (pc + n) (lp ls i v) st' M := by
  obtain ⟨rho, hg⟩ := hg
  unfold aSt at he
  split at he
  · rename_i a sk hs
    obtain ⟨h0, he⟩ := condN he
    obtain ⟨h1, h2⟩ := andT h0
    obtain ⟨h2, h3⟩ := andT h2
    cases he
    have hl := hg.2.2.2.1
    rw [hs] at hl
    obtain ⟨v, t, rfl, hva, hl2⟩ := gl_1 hl
    exact ⟨v, a, rho, t, rfl, hva, h1, h3, hn.one hJ ⟨rho, hg.1, hg.2.1, gm_lp h2 hva hg.2.2.1, hl2, hg.2.2.2.2⟩⟩
  · cases he
theorem aIs_ok {n i : Nat} (he : aSt 0 pc n i A = some L) : Sd J av r0 kr (oIs pc n i) A L := by
  intro ls st M kn hJ hg hn
  obtain ⟨v, a, rho, st', rfl, h2, h3, -, h4⟩ := aSt_in he hJ hg hn
  obtain ⟨x, rfl⟩ := gv_int h2 h3
  exact h4
theorem aLs_ok {n i : Nat} (he : aSt 1 pc n i A = some L) : Sd J av r0 kr (oLs pc n i) A L := by
  intro ls st M kn hJ hg hn
  obtain ⟨v, a, rho, st', rfl, h2, h3, -, h4⟩ := aSt_in he hJ hg hn
  obtain ⟨x, rfl⟩ := gv_long h2 h3
  exact h4
theorem aAs_ok {n i : Nat} (he : aSt 2 pc n i A = some L) : Sd J av r0 kr (oAs pc n i) A L := by
  intro ls st M kn hJ hg hn
  obtain ⟨v, a, rho, st', rfl, h2, h3, h5, h4⟩ := aSt_in he hJ hg hn
  obtain ⟨x, rfl, hx⟩ := gv_ref h2 h3
  have h6 : a.2.2.2.all (Nat.blt 0) = true := h5
  simp only [oAs, List.all_eq_true.mp h6 x hx, cond_true]
  exact h4
/-- the sum: with a number known, the same symbol; else a new one -/
noncomputable def aAdd (A : ASt) (x y : AV) (sk : List AV) : Option ASt := match ab A.2.2.1 x, ab A.2.2.1 y with
  | some p, some q =>
    if iLo ≤ p.1 + q.1 ∧ p.2 + q.2 ≤ iHi then
      if y.2.1 = 0 then some (A.1, (0, x.2.1, x.2.2.1 + y.2.2.1, []) :: sk, A.2.2) else if x.2.1 = 0 then some (A.1, (0, y.2.1, x.2.2.1 + y.2.2.1, []) :: sk, A.2.2) else some (fsh A 0 sk (p.1 + q.1) (p.2 + q.2))
    else some (fsh A 0 sk iLo iHi)
  | _, _ => none
theorem aAdd_ok {rho : List Int} {M : Mm} {ls : Ls} {st st' : List Value} {A' : ASt} {x y : AV} {sk : List AV} {a b : Int32} (h : gA av r0 rho M ls st A) (hx : gv rho (.int a) x) (hy : gv rho (.int b) y) (hk : gl rho st' sk) (he : aAdd A x y sk = some A') : gX av r0 M ls (.int (a + b) :: st') A' := by
  unfold aAdd at he
  cases hp : ab A.2.2.1 x with
  | none => rw [hp] at he; cases he
  | some p =>
    cases hq : ab A.2.2.1 y with
    | none => rw [hp, hq] at he; cases he
    | some q =>
      rw [hp, hq] at he
      have b1 := ab_ok h.1 hx hp
      have b2 := ab_ok h.1 hy hq
      dsimp only at he
      split at he
      · rename_i hr
        have e : (a + b).toInt = a.toInt + b.toInt := add_i (by omega) (by omega)
        split at he
        · rename_i h0
          cases he
          obtain ⟨-, u, hu, hu2⟩ := hx
          obtain ⟨-, w, hw, hw2⟩ := hy
          rw [h0] at hw
          cases hw.symm.trans h.2.1
          exact ⟨rho, gA_stk h ⟨⟨rfl, u, hu, by rw [e]; show _ = u + (x.2.2.1 + y.2.2.1); omega⟩, hk⟩⟩
        · split at he
          · rename_i h0
            cases he
            obtain ⟨-, u, hu, hu2⟩ := hx
            obtain ⟨-, w, hw, hw2⟩ := hy
            rw [h0] at hu
            cases hu.symm.trans h.2.1
            exact ⟨rho, gA_stk h ⟨⟨rfl, w, hw, by rw [e]; show _ = w + (x.2.2.1 + y.2.2.1); omega⟩, hk⟩⟩
          · cases he
            exact gA_fresh h hk (by rw [e]; omega) (by rw [e]; omega)
      · cases he
        exact gA_fresh h hk (i32_lo _) (i32_hi _)
noncomputable def aInc (pc i : Nat) (v : Int) (A : ASt) : Option (List (Nat × ASt)) := match ag A.1 i with
  | some a => cond (Nat.beq a.1 0 && Nat.blt i 999) (match aAdd A a (cst v) A.2.1 with
    | some (al, w :: sk, S) => some [(pc + 3, (alp al i w, sk, S))]
    | _ => none) none
  | none => none
theorem aInc_ok {i : Nat} {v : Int32} (he : aInc pc i v.toInt A = some L) : Sd J av r0 kr (oInc pc i v) A L := by
  intro ls st M kn hJ hg hn
  obtain ⟨rho, hg⟩ := hg
  unfold aInc at he
  cases ha : ag A.1 i with
  | none => rw [ha] at he; cases he
  | some a =>
    rw [ha] at he
    obtain ⟨h0, he⟩ := condN he
    obtain ⟨h1, h2⟩ := andT h0
    obtain ⟨w, hv, hva⟩ := gm_lg h2 hg.2.2.1 ha
    obtain ⟨x, rfl⟩ := gv_int hva h1
    simp only [oInc, hv]
    split at he
    · rename_i al w sk S hadd
      cases he
      obtain ⟨rho2, g1, g2, g3, g4, g5⟩ := aAdd_ok (b := v) hg hva (gv_cst hg.2.1) hg.2.2.2.1 hadd
      exact hn.one hJ ⟨rho2, g1, g2, gm_lp h2 g4.1 g3, g4.2, g5⟩
    · cases he
noncomputable def aAd (pc : Nat) (A : ASt) : Option (List (Nat × ASt)) := match A.2.1 with
  | y :: x :: sk => cond (Nat.beq y.1 0 && Nat.beq x.1 0) (match aAdd A x y sk with
    | some B => some [(pc + 1, B)]
    | none => none) none
  | _ => none
theorem aAd_ok (he : aAd pc A = some L) : Sd J av r0 kr (o2 pc (fun x y => x + y)) A L := by
  intro ls st M kn hJ hg hn
  obtain ⟨rho, hg⟩ := hg
  unfold aAd at he
  split at he
  · rename_i y x sk hs
    obtain ⟨h0, he⟩ := condN he
    obtain ⟨hy0, hx0⟩ := andT h0
    have hl := hg.2.2.2.1
    rw [hs] at hl
    obtain ⟨b, t, rfl, hva, hl2⟩ := gl_i hl hy0
    obtain ⟨a, t, rfl, hwa, hl3⟩ := gl_i hl2 hx0
    split at he
    · rename_i B hB
      cases he
      exact hn.one hJ (aAdd_ok hg hwa hva hl3 hB)
    · cases he
  · cases he
/-- two ints, and bounds of what comes of them -/
noncomputable def a2 (f : Int × Int → Int × Int → Int × Int) (pc : Nat) (A : ASt) : Option (List (Nat × ASt)) := match A.2.1 with
  | y :: x :: sk => cond (Nat.beq y.1 0 && Nat.beq x.1 0) (match ab A.2.2.1 x, ab A.2.2.1 y with
    | some p, some q => some [(pc + 1, fsh A 0 sk (f p q).1 (f p q).2)]
    | _, _ => none) none
  | _ => none
theorem a2_ok {f : Int × Int → Int × Int → Int × Int} {g : Int32 → Int32 → Int32} (hf : ∀ (p q : Int × Int) (x y : Int32), (p.1 ≤ x.toInt ∧ x.toInt ≤ p.2) → (q.1 ≤ y.toInt ∧ y.toInt ≤ q.2) → (f p q).1 ≤ (g x y).toInt ∧ (g x y).toInt ≤ (f p q).2) (he : a2 f pc A = some L) : Sd J av r0 kr (o2 pc g) A L := by
  intro ls st M kn hJ hg hn
  obtain ⟨rho, hg⟩ := hg
  unfold a2 at he
  split at he
  · rename_i y x sk hs
    obtain ⟨h0, he⟩ := condN he
    obtain ⟨hy0, hx0⟩ := andT h0
    have hl := hg.2.2.2.1
    rw [hs] at hl
    obtain ⟨b, t, rfl, hva, hl2⟩ := gl_i hl hy0
    obtain ⟨a, t, rfl, hwa, hl3⟩ := gl_i hl2 hx0
    cases hp : ab A.2.2.1 x with
    | none => rw [hp] at he; cases he
    | some p =>
      cases hq : ab A.2.2.1 y with
      | none => rw [hp, hq] at he; cases he
      | some q =>
        rw [hp, hq] at he
        cases he
        have hb := hf p q a b (ab_ok hg.1 hwa hp) (ab_ok hg.1 hva hq)
        exact hn.one hJ (gA_fresh hg hl3 hb.1 hb.2)
  · cases he
/-- a difference: with a number known behind it, the same symbol -/
noncomputable def aSb (pc : Nat) (A : ASt) : Option (List (Nat × ASt)) := match A.2.1 with
  | y :: x :: sk => cond (Nat.beq y.1 0 && (Nat.beq x.1 0 && Nat.beq y.2.1 0)) (match ab A.2.2.1 x with
    | some p => if iLo ≤ p.1 - y.2.2.1 ∧ p.2 - y.2.2.1 ≤ iHi then some [(pc + 1, (A.1, (0, x.2.1, x.2.2.1 - y.2.2.1, []) :: sk, A.2.2))] else a2 bSub pc A
    | none => none) (a2 bSub pc A)
  | _ => none
theorem aSb_ok (he : aSb pc A = some L) : Sd J av r0 kr (o2 pc (fun x y => x - y)) A L := by
  intro ls st M kn hJ hg hn
  unfold aSb at he
  split at he
  · rename_i y x sk hs
    cases hc : (Nat.beq y.1 0 && (Nat.beq x.1 0 && Nat.beq y.2.1 0)) with
    | false => rw [hc] at he; exact a2_ok bSub_ok he ls st M kn hJ hg hn
    | true =>
      rw [hc] at he
      obtain ⟨hy0, hx0⟩ := andT hc
      obtain ⟨hx0, hz⟩ := andT hx0
      have hz := Nat.eq_of_beq_eq_true hz
      cases hp : ab A.2.2.1 x with
      | none => rw [hp] at he; cases he
      | some p =>
        rw [hp] at he
        have he : (if iLo ≤ p.1 - y.2.2.1 ∧ p.2 - y.2.2.1 ≤ iHi then some [(pc + 1, (A.1, (0, x.2.1, x.2.2.1 - y.2.2.1, []) :: sk, A.2.2))] else a2 bSub pc A) = some L := he
        split at he
        · rename_i hr
          cases he
          obtain ⟨rho, hg⟩ := hg
          have hl := hg.2.2.2.1
          rw [hs] at hl
          obtain ⟨b, t, rfl, hva, hl2⟩ := gl_i hl hy0
          obtain ⟨a, t, rfl, hwa, hl3⟩ := gl_i hl2 hx0
          have b1 := ab_ok hg.1 hwa hp
          obtain ⟨-, u, hu, hu2⟩ := hwa
          obtain ⟨-, w, hw, hw2⟩ := hva
          rw [hz] at hw
          cases hw.symm.trans hg.2.1
          have e : (a - b).toInt = a.toInt - b.toInt := sub_i (by omega) (by omega)
          exact hn.one hJ ⟨rho, gA_stk hg ⟨⟨rfl, u, hu, by rw [e]; show _ = u + (x.2.2.1 - y.2.2.1); omega⟩, hl3⟩⟩
        · exact a2_ok bSub_ok he ls st M kn hJ hg hn
  · cases he
/-- a division: the divisor's bounds leave 0 out -/
noncomputable def a2d (f : Int × Int → Int × Int → Int × Int) (pc : Nat) (A : ASt) : Option (List (Nat × ASt)) := match A.2.1 with
  | y :: x :: sk => cond (Nat.beq y.1 0 && Nat.beq x.1 0) (match ab A.2.2.1 x, ab A.2.2.1 y with
    | some p, some q => cond (decide (0 < q.1 ∨ q.2 < 0)) (some [(pc + 1, fsh A 0 sk (f p q).1 (f p q).2)]) none
    | _, _ => none) none
  | _ => none
theorem a2d_ok {f : Int × Int → Int × Int → Int × Int} {g : Int32 → Int32 → Int32} (hf : ∀ (p q : Int × Int) (x y : Int32), (p.1 ≤ x.toInt ∧ x.toInt ≤ p.2) → (q.1 ≤ y.toInt ∧ y.toInt ≤ q.2) → (f p q).1 ≤ (g x y).toInt ∧ (g x y).toInt ≤ (f p q).2) (he : a2d f pc A = some L) : Sd J av r0 kr (o2d pc g) A L := by
  intro ls st M kn hJ hg hn
  obtain ⟨rho, hg⟩ := hg
  unfold a2d at he
  split at he
  · rename_i y x sk hs
    obtain ⟨h0, he⟩ := condN he
    obtain ⟨hy0, hx0⟩ := andT h0
    have hl := hg.2.2.2.1
    rw [hs] at hl
    obtain ⟨b, t, rfl, hva, hl2⟩ := gl_i hl hy0
    obtain ⟨a, t, rfl, hwa, hl3⟩ := gl_i hl2 hx0
    cases hp : ab A.2.2.1 x with
    | none => rw [hp] at he; cases he
    | some p =>
      cases hq : ab A.2.2.1 y with
      | none => rw [hp, hq] at he; cases he
      | some q =>
        rw [hp, hq] at he
        obtain ⟨h5, he⟩ := condN he
        cases he
        have hd := of_decide_eq_true h5
        have hy := ab_ok hg.1 hva hq
        have hb := hf p q a b (ab_ok hg.1 hwa hp) hy
        refine ⟨fun z => ?_, hn.one hJ (gA_fresh hg hl3 hb.1 hb.2)⟩
        subst z
        have e0 : (0 : Int32).toInt = 0 := rfl
        omega
  · cases he
/-- one int, anything of it -/
noncomputable def a1 (pc : Nat) (A : ASt) : Option (List (Nat × ASt)) := match A.2.1 with
  | x :: sk => cond (Nat.beq x.1 0) (some [(pc + 1, fsh A 0 sk iLo iHi)]) none
  | _ => none
theorem a1_ok {g : Int32 → Int32} (he : a1 pc A = some L) : Sd J av r0 kr (o1 pc g) A L := by
  intro ls st M kn hJ hg hn
  obtain ⟨rho, hg⟩ := hg
  unfold a1 at he
  split at he
  · rename_i x sk hs
    obtain ⟨h0, he⟩ := condN he
    cases he
    have hl := hg.2.2.2.1
    rw [hs] at hl
    obtain ⟨b, t, rfl, hva, hl2⟩ := gl_i hl h0
    exact hn.one hJ (gA_fresh hg hl2 (i32_lo _) (i32_hi _))
  · cases he
/-! longs -/
noncomputable def aLc (pc n : Nat) (v : Int) (A : ASt) : Option (List (Nat × ASt)) := some [(pc + n, (A.1, (1, 0, v, []) :: A.2.1, A.2.2))]
theorem aLc_ok {n : Nat} {v : Int64} (he : aLc pc n v.toInt A = some L) : Sd J av r0 kr (oLc pc n v) A L := by
  intro ls st M kn hJ hg hn
  obtain ⟨rho, hg⟩ := hg
  cases he
  exact hn.one hJ ⟨rho, gA_stk hg ⟨⟨rfl, 0, hg.2.1, by show v.toInt = 0 + v.toInt; omega⟩, hg.2.2.2.1⟩⟩
noncomputable def aL2 (pc : Nat) (A : ASt) : Option (List (Nat × ASt)) := match A.2.1 with
  | y :: x :: sk => cond (Nat.beq y.1 1 && Nat.beq x.1 1) (some [(pc + 1, fsh A 1 sk lLo lHi)]) none
  | _ => none
theorem aL2_ok {g : Int64 → Int64 → Int64} (he : aL2 pc A = some L) : Sd J av r0 kr (oL2 pc g) A L := by
  intro ls st M kn hJ hg hn
  obtain ⟨rho, hg⟩ := hg
  unfold aL2 at he
  split at he
  · rename_i y x sk hs
    obtain ⟨h0, he⟩ := condN he
    obtain ⟨hy0, hx0⟩ := andT h0
    cases he
    have hl := hg.2.2.2.1
    rw [hs] at hl
    obtain ⟨b, t, rfl, hva, hl2⟩ := gl_l hl hy0
    obtain ⟨a, t, rfl, hwa, hl3⟩ := gl_l hl2 hx0
    exact hn.one hJ (gA_freshL hg hl3 (i64_lo _) (i64_hi _))
  · cases he
noncomputable def aL2d (pc : Nat) (A : ASt) : Option (List (Nat × ASt)) := match A.2.1 with
  | y :: x :: sk => cond (Nat.beq y.1 1 && Nat.beq x.1 1) (match ab A.2.2.1 y with
    | some q => cond (decide (0 < q.1 ∨ q.2 < 0)) (some [(pc + 1, fsh A 1 sk lLo lHi)]) none
    | none => none) none
  | _ => none
theorem aL2d_ok {g : Int64 → Int64 → Int64} (he : aL2d pc A = some L) : Sd J av r0 kr (oL2d pc g) A L := by
  intro ls st M kn hJ hg hn
  obtain ⟨rho, hg⟩ := hg
  unfold aL2d at he
  split at he
  · rename_i y x sk hs
    obtain ⟨h0, he⟩ := condN he
    obtain ⟨hy0, hx0⟩ := andT h0
    have hl := hg.2.2.2.1
    rw [hs] at hl
    obtain ⟨b, t, rfl, hva, hl2⟩ := gl_l hl hy0
    obtain ⟨a, t, rfl, hwa, hl3⟩ := gl_l hl2 hx0
    cases hq : ab A.2.2.1 y with
    | none => rw [hq] at he; cases he
    | some q =>
      rw [hq] at he
      obtain ⟨h5, he⟩ := condN he
      cases he
      have hd := of_decide_eq_true h5
      have hy : q.1 ≤ b.toInt ∧ b.toInt ≤ q.2 := ab_num (v := .long b) hg.1 hva.2 hq
      refine ⟨fun z => ?_, hn.one hJ (gA_freshL hg hl3 (i64_lo _) (i64_hi _))⟩
      subst z
      have e0 : (0 : Int64).toInt = 0 := rfl
      omega
  · cases he
noncomputable def ai2l (pc : Nat) (A : ASt) : Option (List (Nat × ASt)) := match A.2.1 with
  | x :: sk => cond (Nat.beq x.1 0) (some [(pc + 1, (A.1, (1, x.2.1, x.2.2.1, []) :: sk, A.2.2))]) none
  | _ => none
theorem ai2l_ok (he : ai2l pc A = some L) : Sd J av r0 kr (oi2l pc) A L := by
  intro ls st M kn hJ hg hn
  obtain ⟨rho, hg⟩ := hg
  unfold ai2l at he
  split at he
  · rename_i x sk hs
    obtain ⟨h0, he⟩ := condN he
    cases he
    have hl := hg.2.2.2.1
    rw [hs] at hl
    obtain ⟨b, t, rfl, hva, hl2⟩ := gl_i hl h0
    obtain ⟨-, e, h1, h2⟩ := hva
    exact hn.one hJ ⟨rho, gA_stk hg ⟨⟨rfl, e, h1, by rw [Int32.toInt_toInt64]; exact h2⟩, hl2⟩⟩
  · cases he
noncomputable def alcmp (pc : Nat) (A : ASt) : Option (List (Nat × ASt)) := match A.2.1 with
  | y :: x :: sk => cond (Nat.beq y.1 1 && Nat.beq x.1 1) (some [(pc + 1, fsh A 0 sk (-1) 1)]) none
  | _ => none
theorem cmp_b (x y : Int64) : -1 ≤ (lg_cmp x y).toInt ∧ (lg_cmp x y).toInt ≤ 1 := by
  unfold lg_cmp
  split
  · decide
  · split
    · decide
    · decide
theorem alcmp_ok (he : alcmp pc A = some L) : Sd J av r0 kr (olcmp pc) A L := by
  intro ls st M kn hJ hg hn
  obtain ⟨rho, hg⟩ := hg
  unfold alcmp at he
  split at he
  · rename_i y x sk hs
    obtain ⟨h0, he⟩ := condN he
    obtain ⟨hy0, hx0⟩ := andT h0
    cases he
    have hl := hg.2.2.2.1
    rw [hs] at hl
    obtain ⟨b, t, rfl, hva, hl2⟩ := gl_l hl hy0
    obtain ⟨a, t, rfl, hwa, hl3⟩ := gl_l hl2 hx0
    exact hn.one hJ (gA_fresh hg hl3 (cmp_b _ _).1 (cmp_b _ _).2)
  · cases he
/-! the stack, jumps -/
theorem cat1 {rho : List Int} {v : Value} {a : AV} (h : gv rho v a) (h0 : Nat.beq (acat a) 1 = true) : Nat.beq v.category 1 = true := by rw [gv_cat h]; exact h0
noncomputable def aDup (pc : Nat) (A : ASt) : Option (List (Nat × ASt)) := match A.2.1 with
  | a :: sk => cond (Nat.beq (acat a) 1) (some [(pc + 1, (A.1, a :: a :: sk, A.2.2))]) none
  | _ => none
theorem aDup_ok (he : aDup pc A = some L) : Sd J av r0 kr (oDup pc) A L := by
  intro ls st M kn hJ hg hn
  obtain ⟨rho, hg⟩ := hg
  unfold aDup at he
  split at he
  · rename_i a sk hs
    obtain ⟨h0, he⟩ := condN he
    cases he
    have hl := hg.2.2.2.1
    rw [hs] at hl
    obtain ⟨v, t, rfl, hva, hl2⟩ := gl_1 hl
    simp only [oDup, cat1 hva h0, cond_true]
    exact hn.one hJ ⟨rho, gA_stk hg ⟨hva, hva, hl2⟩⟩
  · cases he
noncomputable def aPop (pc : Nat) (A : ASt) : Option (List (Nat × ASt)) := match A.2.1 with
  | a :: sk => cond (Nat.beq (acat a) 1) (some [(pc + 1, (A.1, sk, A.2.2))]) none
  | _ => none
theorem aPop_ok (he : aPop pc A = some L) : Sd J av r0 kr (oPop pc) A L := by
  intro ls st M kn hJ hg hn
  obtain ⟨rho, hg⟩ := hg
  unfold aPop at he
  split at he
  · rename_i a sk hs
    obtain ⟨h0, he⟩ := condN he
    cases he
    have hl := hg.2.2.2.1
    rw [hs] at hl
    obtain ⟨v, t, rfl, hva, hl2⟩ := gl_1 hl
    simp only [oPop, cat1 hva h0, cond_true]
    exact hn.one hJ ⟨rho, gA_stk hg hl2⟩
  · cases he
noncomputable def aDup2 (pc : Nat) (A : ASt) : Option (List (Nat × ASt)) := match A.2.1 with
  | a :: b :: sk => cond (Nat.beq (acat a) 1 && Nat.beq (acat b) 1) (some [(pc + 1, (A.1, a :: b :: a :: b :: sk, A.2.2))]) none
  | _ => none
theorem aDup2_ok (he : aDup2 pc A = some L) : Sd J av r0 kr (oDup2 pc) A L := by
  intro ls st M kn hJ hg hn
  obtain ⟨rho, hg⟩ := hg
  unfold aDup2 at he
  split at he
  · rename_i a b sk hs
    obtain ⟨h0, he⟩ := condN he
    cases he
    obtain ⟨h1, h2⟩ := andT h0
    have hl := hg.2.2.2.1
    rw [hs] at hl
    obtain ⟨v, t, rfl, hva, hl2⟩ := gl_1 hl
    obtain ⟨w, t, rfl, hwa, hl3⟩ := gl_1 hl2
    simp only [oDup2, cat1 hva h1, cat1 hwa h2, Bool.and_self, cond_true]
    exact hn.one hJ ⟨rho, gA_stk hg ⟨hva, hwa, hva, hwa, hl3⟩⟩
  · cases he
noncomputable def aGo (t : Nat) (A : ASt) : Option (List (Nat × ASt)) := some [(t, A)]
theorem aGo_ok {t : Nat} (he : aGo t A = some L) : Sd J av r0 kr (oGo t) A L := by
  intro ls st M kn hJ hg hn
  cases he
  exact hn.one hJ hg
noncomputable def aIf (pc t k : Nat) (A : ASt) : Option (List (Nat × ASt)) := match A.2.1 with
  | x :: sk => cond (Nat.beq x.1 0) (two pc t k A x (cst 0) sk) none
  | _ => none
theorem aIf_ok {t k : Nat} (he : aIf pc t k A = some L) : Sd J av r0 kr (oIf pc t (fun x => cpP k x 0) (fun x => cpN k x 0)) A L := by
  intro ls st M kn hJ hg hn
  obtain ⟨rho, hg⟩ := hg
  unfold aIf at he
  split at he
  · rename_i x sk hs
    obtain ⟨h0, he⟩ := condN he
    have hl := hg.2.2.2.1
    rw [hs] at hl
    obtain ⟨a, u, rfl, hva, hl2⟩ := gl_i hl h0
    exact two_ok (b := 0) hJ hg hva (gv_cst (v := 0) hg.2.1) hl2 he hn
  · cases he
noncomputable def aCm (pc t k : Nat) (A : ASt) : Option (List (Nat × ASt)) := match A.2.1 with
  | y :: x :: sk => cond (Nat.beq y.1 0 && Nat.beq x.1 0) (two pc t k A x y sk) none
  | _ => none
theorem aCm_ok {t k : Nat} (he : aCm pc t k A = some L) : Sd J av r0 kr (oCm pc t (cpP k) (cpN k)) A L := by
  intro ls st M kn hJ hg hn
  obtain ⟨rho, hg⟩ := hg
  unfold aCm at he
  split at he
  · rename_i y x sk hs
    obtain ⟨h0, he⟩ := condN he
    obtain ⟨hy0, hx0⟩ := andT h0
    have hl := hg.2.2.2.1
    rw [hs] at hl
    obtain ⟨b, t, rfl, hva, hl2⟩ := gl_i hl hy0
    obtain ⟨a, t, rfl, hwa, hl3⟩ := gl_i hl2 hx0
    exact two_ok hJ hg hwa hva hl3 he hn
  · cases he
/-- a switch: every case from the state narrowed to it, and what is left -/
noncomputable def tsL (A : ASt) (x : AV) (sk : List AV) : Int → List Nat → List (Nat × ASt)
  | _, [] => []
  | v, t :: u => on1 t (A.1, sk, rfn A.2.2.1 x (v, v), A.2.2.2) ++ tsL A x sk (v + 1) u
noncomputable def aTs (lo : Int) (ts : List Nat) (df : Nat) (A : ASt) : Option (List (Nat × ASt)) := match A.2.1 with
  | x :: sk => cond (Nat.beq x.1 0) (some (tsL A x sk lo ts ++ [(df, (A.1, sk, A.2.2))])) none
  | _ => none
theorem tsL_in {x : AV} {sk : List AV} {t : Nat} {B : ASt} : ∀ {ts : List Nat} {lo : Int} {k : Nat}, ts[k]? = some t → (t, B) ∈ on1 t (A.1, sk, rfn A.2.2.1 x (lo + (k : Int), lo + (k : Int)), A.2.2.2) → (t, B) ∈ tsL A x sk lo ts
  | [], _, k, h, _ => by cases k <;> cases h
  | u :: ts, lo, 0, h, hB => by
    cases h
    rw [show lo + ((0 : Nat) : Int) = lo by omega] at hB
    exact List.mem_append_left _ hB
  | u :: ts, lo, k + 1, h, hB => by
    refine List.mem_append_right _ (tsL_in (ts := ts) (lo := lo + 1) (k := k) h ?_)
    rw [show lo + 1 + (k : Int) = lo + ((k + 1 : Nat) : Int) by omega]
    exact hB
theorem aTs_ok {lo : Int} {ts : List Nat} {df : Nat} (he : aTs lo ts df A = some L) : Sd J av r0 kr (oTs lo ts df) A L := by
  intro ls st M kn hJ hg hn
  obtain ⟨rho, hg⟩ := hg
  unfold aTs at he
  split at he
  · rename_i x sk hs
    obtain ⟨h0, he⟩ := condN he
    have hl := hg.2.2.2.1
    rw [hs] at hl
    obtain ⟨a, u, rfl, hva, hl2⟩ := gl_i hl h0
    cases he
    refine ⟨fun k t hk hx => ?_, fun _ => ?_⟩
    · have hX : gX av r0 M ls u (A.1, sk, rfn A.2.2.1 x (lo + (k : Int), lo + (k : Int)), A.2.2.2) := ⟨rho, rfn_ok hg.1 hva (by show lo + (k : Int) ≤ a.toInt; omega) (by show a.toInt ≤ lo + (k : Int); omega), hg.2.1, hg.2.2.1, hl2, hg.2.2.2.2⟩
      exact hn (t, _) (List.mem_append_left _ (tsL_in hk (on1_in hX))) _ _ _ hJ hX
    · exact hn (df, _) (List.mem_append_right _ (List.mem_singleton.mpr rfl)) _ _ _ hJ ⟨rho, gA_stk hg hl2⟩
  · cases he
/-- a String constant -/
noncomputable def aSc (pc n i : Nat) (A : ASt) : Option (List (Nat × ASt)) := some [(pc + n, (A.1, (2, 0, 0, [5000 + i]) :: A.2.1, A.2.2))]
theorem aSc_ok {n i : Nat} (he : aSc pc n i A = some L) : Sd J av r0 kr (oSc pc n i) A L := by
  intro ls st M kn hJ hg hn
  obtain ⟨rho, hg⟩ := hg
  cases he
  exact hn.one hJ ⟨rho, gA_stk hg ⟨⟨rfl, List.mem_singleton.mpr rfl⟩, hg.2.2.2.1⟩⟩
end NUM
end
section
/-! the checker's memory: kinds and references of names 1 .. 167 are known, ints lie within a table's bounds -/
/-- places p .. q of a name: bounds -/
noncomputable abbrev Row : Type := Nat × Nat × Int × Int
noncomputable def rIn (r : Row) (k : Nat) : Bool := Nat.ble r.1 k && Nat.ble k r.2.1
noncomputable def rCv (r : Row) (lo hi : Nat) : Bool := Nat.ble r.1 lo && Nat.ble hi r.2.1
noncomputable def rDj (r : Row) (lo hi : Nat) : Bool := Nat.blt r.2.1 lo || Nat.blt hi r.1
theorem rCv_in {r : Row} {lo hi k : Nat} (h : rCv r lo hi = true) (h1 : lo ≤ k) (h2 : k ≤ hi) : rIn r k = true := by
  obtain ⟨a, b⟩ := andT h
  exact Bool.and_eq_true_iff.mpr ⟨Nat.ble_eq_true_of_le (Nat.le_trans (Nat.le_of_ble_eq_true a) h1), Nat.ble_eq_true_of_le (Nat.le_trans h2 (Nat.le_of_ble_eq_true b))⟩
theorem rDj_in {r : Row} {lo hi k : Nat} (h : rDj r lo hi = true) (h1 : lo ≤ k) (h2 : k ≤ hi) : rIn r k = false := by
  cases hr : rIn r k with
  | false => rfl
  | true =>
    obtain ⟨a, b⟩ := andT hr
    have a := Nat.le_of_ble_eq_true a
    have b := Nat.le_of_ble_eq_true b
    rcases Bool.or_eq_true_iff.mp h with z | z
    · have z : r.2.1 < lo := Nat.le_of_ble_eq_true z
      omega
    · have z : hi < r.1 := Nat.le_of_ble_eq_true z
      omega
noncomputable def rwB : List Row → Nat → Int × Int
  | [], _ => (iLo, iHi)
  | r :: t, k => cond (rIn r k) (r.2.2.1, r.2.2.2) (rwB t k)
/-- bounds of all places lo .. hi -/
noncomputable def rwR : List Row → Nat → Nat → Int × Int
  | [], _, _ => (iLo, iHi)
  | r :: t, lo, hi => cond (rCv r lo hi) (r.2.2.1, r.2.2.2) (cond (rDj r lo hi) (rwR t lo hi) (min r.2.2.1 (rwR t lo hi).1, max r.2.2.2 (rwR t lo hi).2))
theorem rwR_ok {k : Nat} : ∀ {rs : List Row} {lo hi : Nat}, lo ≤ k → k ≤ hi → (rwR rs lo hi).1 ≤ (rwB rs k).1 ∧ (rwB rs k).2 ≤ (rwR rs lo hi).2
  | [], _, _, _, _ => ⟨Int.le_refl _, Int.le_refl _⟩
  | r :: t, lo, hi, h1, h2 => by
    have ih := rwR_ok (rs := t) h1 h2
    unfold rwR rwB
    cases hc : rCv r lo hi with
    | true =>
      rw [rCv_in hc h1 h2]
      exact ⟨Int.le_refl _, Int.le_refl _⟩
    | false =>
      cases hd : rDj r lo hi with
      | true =>
        rw [rDj_in hd h1 h2]
        exact ih
      | false =>
        cases rIn r k with
        | true =>
          show min r.2.2.1 (rwR t lo hi).1 ≤ r.2.2.1 ∧ r.2.2.2 ≤ max r.2.2.2 (rwR t lo hi).2
          omega
        | false =>
          show min r.2.2.1 (rwR t lo hi).1 ≤ (rwB t k).1 ∧ (rwB t k).2 ≤ max r.2.2.2 (rwR t lo hi).2
          omega
/-- a number of these bounds may come to any of the places lo .. hi -/
noncomputable def rwW : List Row → Nat → Nat → Int × Int → Bool
  | [], _, _, _ => true
  | r :: t, lo, hi, w => (rDj r lo hi || (decide (r.2.2.1 ≤ w.1) && decide (w.2 ≤ r.2.2.2))) && (rCv r lo hi || rwW t lo hi w)
theorem rwW_ok {k : Nat} {x : Int} {w : Int × Int} (hx : iLo ≤ x ∧ x ≤ iHi) (hw : w.1 ≤ x ∧ x ≤ w.2) : ∀ {rs : List Row} {lo hi : Nat}, rwW rs lo hi w = true → lo ≤ k → k ≤ hi → (rwB rs k).1 ≤ x ∧ x ≤ (rwB rs k).2
  | [], _, _, _, _, _ => hx
  | r :: t, lo, hi, h, h1, h2 => by
    obtain ⟨ha, hb⟩ := andT h
    unfold rwB
    cases hi' : rIn r k with
    | true =>
      rcases Bool.or_eq_true_iff.mp ha with z | z
      · rw [rDj_in z h1 h2] at hi'; cases hi'
      · obtain ⟨z1, z2⟩ := andT z
        have z1 := of_decide_eq_true z1
        have z2 := of_decide_eq_true z2
        show r.2.2.1 ≤ x ∧ x ≤ r.2.2.2
        omega
    | false =>
      rcases Bool.or_eq_true_iff.mp hb with z | z
      · rw [rCv_in z h1 h2] at hi'; cases hi'
      · exact rwW_ok hx hw z h1 h2
/-- kinds, references, rows of names -/
noncomputable abbrev Pk : Type := (Nat → Nat × Nat) × (Nat → Nat → List Nat) × (Nat → List Row)
noncomputable def Iv (P : Pk) (M : Mm) : Prop := 167 ≤ mN M ∧ (∀ a, a ≤ 167 → mK M a = P.1 a) ∧ (∀ a k, a ≤ 167 → mR M a k ∈ P.2.1 a k) ∧ ∀ a k, a ≤ 167 → (rwB (P.2.2 a) k).1 ≤ (mI M a k).toInt ∧ (mI M a k).toInt ≤ (rwB (P.2.2 a) k).2
/-- places that may be changed: name, first, last -/
noncomputable abbrev Md3 : Type := List (Nat × Nat × Nat)
noncomputable def inm (ms : Md3) (a k : Nat) : Bool := ms.any (fun m => Nat.beq m.1 a && (Nat.ble m.2.1 k && Nat.ble k m.2.2))
noncomputable def ina (ms : Md3) (a lo hi : Nat) : Bool := ms.any (fun m => Nat.beq m.1 a && (Nat.ble m.2.1 lo && Nat.ble hi m.2.2))
theorem ina_in {ms : Md3} {a lo hi k : Nat} (h : ina ms a lo hi = true) (h1 : lo ≤ k) (h2 : k ≤ hi) : inm ms a k = true := by
  obtain ⟨m, hm, h3⟩ := List.any_eq_true.mp h
  obtain ⟨h4, h5⟩ := andT h3
  obtain ⟨h5, h6⟩ := andT h5
  exact List.any_eq_true.mpr ⟨m, hm, Bool.and_eq_true_iff.mpr ⟨h4, Bool.and_eq_true_iff.mpr ⟨Nat.ble_eq_true_of_le (Nat.le_trans (Nat.le_of_ble_eq_true h5) h1), Nat.ble_eq_true_of_le (Nat.le_trans h2 (Nat.le_of_ble_eq_true h6))⟩⟩⟩
noncomputable def kp (ms : Md3) (M0 M : Mm) : Prop := ∀ a k, inm ms a k = false → mI M a k = mI M0 a k ∧ mR M a k = mR M0 a k ∧ mL M a k = mL M0 a k
/-- each canon that counts is vexed every so many days -/
noncomputable def eQ (M : Mm) : Prop := ∀ c : Nat, c < 5 → (c : Int) < (mI M 153 5).toInt → 1 ≤ (mI M 153 (36 + 2 * c)).toInt
noncomputable def eO (e : Int) (M : Mm) : Prop := e = 1 → eQ M
theorem eO_cg {e : Int} {M M' : Mm} (h : ∀ k, mI M' 153 k = mI M 153 k) (he : eO e M) : eO e M' := by
  intro z c hc h5
  rw [h] at h5 ⊢
  exact he z c hc h5
/-- what holds of the memory while a method runs -/
noncomputable def Jv (P : Pk) (ms : Md3) (M0 : Mm × Int) (M : Mm) : Prop := M.1 = M0.1.1 ∧ Iv P M ∧ kp ms M0.1 M ∧ eO M0.2 M
theorem Jv.rf {P : Pk} {ms : Md3} {M : Mm} {e : Int} (h : Iv P M) (he : eO e M) : Jv P ms (M, e) M := ⟨rfl, h, fun _ _ _ => ⟨rfl, rfl, rfl⟩, he⟩
/-- places that a method itself may change: all but the reference's r -/
noncomputable def inw (ms : Md3) (a lo hi : Nat) : Bool := ina ms a lo hi && !(Nat.beq a 153)
theorem inw_in {ms : Md3} {a lo hi k : Nat} (h : inw ms a lo hi = true) (h1 : lo ≤ k) (h2 : k ≤ hi) : inm ms a k = true := ina_in (andT h).1 h1 h2
theorem inw_ne {ms : Md3} {a lo hi : Nat} (h : inw ms a lo hi = true) : ¬ 153 = a := by
  intro e
  subst e
  have h3 := (andT h).2
  cases h3
theorem mI_w {M : Mm} {a i b j : Nat} {v : Int32} : mI (wI M a i v) b j = if b = a ∧ j = i then v else mI M b j := rfl
theorem mL_w {M : Mm} {a i b j : Nat} {v : Int64} : mL (wL M a i v) b j = if b = a ∧ j = i then v else mL M b j := rfl
theorem mR_w {M : Mm} {a i b j : Nat} {v : Nat} : mR (wR M a i v) b j = if b = a ∧ j = i then v else mR M b j := rfl
theorem Jv.wI {P : Pk} {ms : Md3} {M0 : Mm × Int} {M : Mm} {a k : Nat} {v : Int32} (h : Jv P ms M0 M) (hv : (rwB (P.2.2 a) k).1 ≤ v.toInt ∧ v.toInt ≤ (rwB (P.2.2 a) k).2) (hm : inm ms a k = true) (hn : ¬ 153 = a) : Jv P ms M0 (wI M a k v) := by
  refine ⟨h.1, ⟨h.2.1.1, h.2.1.2.1, h.2.1.2.2.1, fun b j hb => ?_⟩, fun b j hb => ?_, eO_cg (fun j => by rw [mI_w, if_neg (fun z => hn z.1)]) h.2.2.2⟩
  · rw [mI_w]
    by_cases he : b = a ∧ j = k
    · rw [if_pos he, he.1, he.2]
      exact hv
    · rw [if_neg he]
      exact h.2.1.2.2.2 b j hb
  · rw [mI_w]
    have he : ¬ (b = a ∧ j = k) := by
      intro e
      rw [e.1, e.2, hm] at hb
      cases hb
    rw [if_neg he]
    exact h.2.2.1 b j hb
theorem Jv.wL {P : Pk} {ms : Md3} {M0 : Mm × Int} {M : Mm} {a k : Nat} {v : Int64} (h : Jv P ms M0 M) (hm : inm ms a k = true) : Jv P ms M0 (wL M a k v) := by
  refine ⟨h.1, h.2.1, fun b j hb => ?_, h.2.2.2⟩
  have he : ¬ (b = a ∧ j = k) := by
    intro e
    rw [e.1, e.2, hm] at hb
    cases hb
  rw [mL_w, if_neg he]
  exact h.2.2.1 b j hb
theorem Jv.wR {P : Pk} {ms : Md3} {M0 : Mm × Int} {M : Mm} {a k v : Nat} (h : Jv P ms M0 M) (hv : v ∈ P.2.1 a k) (hm : inm ms a k = true) : Jv P ms M0 (wR M a k v) := by
  refine ⟨h.1, ⟨h.2.1.1, h.2.1.2.1, fun b j hb => ?_, h.2.1.2.2.2⟩, fun b j hb => ?_, h.2.2.2⟩
  · rw [mR_w]
    by_cases he : b = a ∧ j = k
    · rw [if_pos he, he.1, he.2]
      exact hv
    · rw [if_neg he]
      exact h.2.1.2.2.1 b j hb
  · rw [mR_w]
    have he : ¬ (b = a ∧ j = k) := by
      intro e
      rw [e.1, e.2, hm] at hb
      cases hb
    rw [if_neg he]
    exact h.2.2.1 b j hb
noncomputable def okn (P : Pk) (c n : Nat) : Bool := Nat.blt 0 n && (Nat.ble n 167 && Nat.beq (P.1 n).1 c)
theorem okn_le {P : Pk} {c n : Nat} (h : okn P c n = true) : n ≤ 167 := Nat.le_of_ble_eq_true (andT (andT h).2).1
theorem kk_ok {P : Pk} {M : Mm} {c n : Nat} (hI : Iv P M) (h : okn P c n = true) : kk M n c = true := by
  have hl := okn_le h
  obtain ⟨h1, h2⟩ := andT h
  obtain ⟨-, h3⟩ := andT h2
  unfold kk
  rw [h1, hI.2.1 n hl, h3, show Nat.ble n (mN M) = true from Nat.ble_eq_true_of_le (Nat.le_trans hl hI.1)]
  rfl
/-- bounds that hold for all of a list -/
noncomputable def jb (f : Nat → Int × Int) : List Nat → Int × Int
  | [] => (iHi, iLo)
  | n :: t => match t with
    | [] => f n
    | _ => (min (f n).1 (jb f t).1, max (f n).2 (jb f t).2)
theorem jb_ok {f : Nat → Int × Int} {n : Nat} : ∀ {ns : List Nat}, n ∈ ns → (jb f ns).1 ≤ (f n).1 ∧ (f n).2 ≤ (jb f ns).2
  | [], h => absurd h List.not_mem_nil
  | m :: [], h => by
    rw [List.mem_singleton.mp h]
    exact ⟨Int.le_refl _, Int.le_refl _⟩
  | m :: k :: t, h => by
    show min (f m).1 (jb f (k :: t)).1 ≤ (f n).1 ∧ (f n).2 ≤ max (f m).2 (jb f (k :: t)).2
    rcases List.mem_cons.mp h with e | h
    · subst e; omega
    · have := jb_ok (f := f) h; omega
/-- what is known of a place -/
noncomputable def cgt : List (Nat × Nat × AV) → Nat → Nat → Nat → Option AV
  | [], _, _, _ => none
  | e :: t, n, k, ty => cond (Nat.beq e.1 n && (Nat.beq e.2.1 k && Nat.beq e.2.2.1 ty)) (some e.2.2) (cgt t n k ty)
theorem cgt_ok {rho : List Int} {M : Mm} {n k ty : Nat} {a : AV} : ∀ {C : List (Nat × Nat × AV)}, gC rho M C → cgt C n k ty = some a → gv rho (cvl M n k ty) a ∧ a.1 = ty
  | [], _, h => by cases h
  | e :: t, hC, h => by
    unfold cgt at h
    cases hb : (Nat.beq e.1 n && (Nat.beq e.2.1 k && Nat.beq e.2.2.1 ty)) with
    | true =>
      rw [hb] at h
      obtain ⟨h1, h2⟩ := andT hb
      obtain ⟨h2, h3⟩ := andT h2
      have e1 := Nat.eq_of_beq_eq_true h1
      have e2 := Nat.eq_of_beq_eq_true h2
      have e3 := Nat.eq_of_beq_eq_true h3
      have e4 : e.2.2 = a := Option.some.inj h
      have := hC e List.mem_cons_self
      rw [e1, e2, e3, e4] at this
      exact ⟨this, by rw [← e4]; exact e3⟩
    | false =>
      rw [hb] at h
      exact cgt_ok (fun x hx => hC x (List.mem_cons_of_mem _ hx)) h
/-- a fresh symbol for a place that is read; remembered if the place is one alone -/
noncomputable def frd (A : ASt) (ns : List Nat) (k : Nat) (one : Bool) (sk : List AV) (b : Int × Int) : ASt := (A.1, (0, A.2.2.1.length, 0, []) :: sk, A.2.2.1 ++ [b], match ns with
  | [n] => cond one ((n, k, (0, A.2.2.1.length, 0, [])) :: A.2.2.2) A.2.2.2
  | _ => A.2.2.2)
theorem frd_ok {av : List Value} {r0 rho : List Int} {M : Mm} {ls : Ls} {st st' : List Value} {A : ASt} {sk : List AV} {ns : List Nat} {n k j : Nat} {one : Bool} {b : Int × Int} (h : gA av r0 rho M ls st A) (hk : gl rho st' sk) (hm : n ∈ ns) (hone : one = true → j = k) (h1 : b.1 ≤ (mI M n j).toInt) (h2 : (mI M n j).toInt ≤ b.2) : gX av r0 M ls (.int (mI M n j) :: st') (frd A ns k one sk b) := by
  have hv : gv (rho ++ [(mI M n j).toInt]) (.int (mI M n j)) (0, A.2.2.1.length, 0, []) := ⟨rfl, _, at_end h.1, by show _ = (mI M n j).toInt + 0; omega⟩
  have hC := gC_app (e := (mI M n j).toInt) h.2.2.2.2
  refine ⟨rho ++ [(mI M n j).toInt], gs_app h.1 h1 h2, r0_app h.2.1, gm_app h.2.2.1, ⟨hv, gl_app hk⟩, ?_⟩
  unfold frd
  dsimp only
  split
  · rename_i m
    have e : n = m := List.mem_singleton.mp hm
    subst e
    cases one with
    | false => exact hC
    | true =>
      have e2 := hone rfl
      subst e2
      intro x hx
      rcases List.mem_cons.mp hx with e | hx
      · subst e; exact hv
      · exact hC x hx
  · exact hC
/-- getfield -/
noncomputable def aG (P : Pk) (pc c k t : Nat) (A : ASt) : Option (List (Nat × ASt)) := match A.2.1 with
  | a :: sk => cond (Nat.beq a.1 2 && a.2.2.2.all (okn P c)) (match t with
    | 0 => match a.2.2.2 with
      | [n] => match cgt A.2.2.2 n k 0 with
        | some v => some [(pc + 3, (A.1, v :: sk, A.2.2))]
        | none => some [(pc + 3, frd A [n] k true sk (rwB (P.2.2 n) k))]
      | ns => some [(pc + 3, frd A ns k true sk (jb (fun n => rwB (P.2.2 n) k) ns))]
    | 1 => match a.2.2.2 with
      | [n] => match cgt A.2.2.2 n k 1 with
        | some v => some [(pc + 3, (A.1, v :: sk, A.2.2))]
        | none => some [(pc + 3, fsh A 1 sk lLo lHi)]
      | _ => some [(pc + 3, fsh A 1 sk lLo lHi)]
    | _ => match a.2.2.2 with
      | [n] => match cgt A.2.2.2 n k 2 with
        | some v => some [(pc + 3, (A.1, v :: sk, A.2.2))]
        | none => some ((P.2.1 n k).map (fun x => (pc + 3, (A.1, (2, 0, 0, [x]) :: sk, A.2.2.1, (n, k, (2, 0, 0, [x])) :: A.2.2.2))))
      | ns => some [(pc + 3, (A.1, (2, 0, 0, ns.flatMap (fun n => P.2.1 n k)) :: sk, A.2.2))]) none
  | [] => none
section MEM9
variable {P : Pk} {ms : Md3} {M0 : Mm × Int} {av : List Value} {r0 : List Int} {kr : KR} {A : ASt} {L : List (Nat × ASt)} {pc : Nat}
theorem aG_ok {c k t : Nat} (he : aG P pc c k t A = some L) : Sd (Jv P ms M0) av r0 kr (oG pc c k t) A L := by
  intro ls st M kn hJ hg hn
  obtain ⟨rho, hg⟩ := hg
  have hI := hJ.2.1
  unfold aG at he
  split at he
  · rename_i a sk hs
    obtain ⟨h0, he⟩ := condN he
    obtain ⟨h1, h2⟩ := andT h0
    have hl := hg.2.2.2.1
    rw [hs] at hl
    obtain ⟨n, u, rfl, hm, hl2⟩ := gl_r hl h1
    have ho := List.all_eq_true.mp h2 n hm
    simp only [oG, kk_ok hI ho, cond_true]
    have hi := hI.2.2.2 n k (okn_le ho)
    split at he
    · split at he
      · rename_i m hns
        rw [hns] at hm
        have e : n = m := List.mem_singleton.mp hm
        subst e
        split at he
        · rename_i v hv
          cases he
          exact hn.one hJ ⟨rho, gA_stk hg ⟨(cgt_ok hg.2.2.2.2 hv).1, hl2⟩⟩
        · cases he
          exact hn.one hJ (frd_ok hg hl2 (List.mem_singleton.mpr rfl) (fun _ => rfl) hi.1 hi.2)
      · cases he
        have hb := jb_ok (f := fun n => rwB (P.2.2 n) k) hm
        exact hn.one hJ (frd_ok hg hl2 hm (fun _ => rfl) (Int.le_trans hb.1 hi.1) (Int.le_trans hi.2 hb.2))
    · split at he
      · rename_i m hns
        rw [hns] at hm
        have e : n = m := List.mem_singleton.mp hm
        subst e
        split at he
        · rename_i v hv
          cases he
          exact hn.one hJ ⟨rho, gA_stk hg ⟨(cgt_ok hg.2.2.2.2 hv).1, hl2⟩⟩
        · cases he
          exact hn.one hJ (gA_freshL hg hl2 (i64_lo _) (i64_hi _))
      · cases he
        exact hn.one hJ (gA_freshL hg hl2 (i64_lo _) (i64_hi _))
    · rename_i t0 t1
      have hR := hI.2.2.1 n k (okn_le ho)
      have hsv : sv M n k t = .ref (mR M n k) := by
        match t with
        | 0 => exact absurd rfl t0
        | 1 => exact absurd rfl t1
        | t + 2 => rfl
      rw [hsv]
      split at he
      · rename_i m hns
        rw [hns] at hm
        have e : n = m := List.mem_singleton.mp hm
        subst e
        split at he
        · rename_i v hv
          cases he
          exact hn.one hJ ⟨rho, gA_stk hg ⟨(cgt_ok hg.2.2.2.2 hv).1, hl2⟩⟩
        · cases he
          refine hn _ (List.mem_map.mpr ⟨_, hR, rfl⟩) ls _ M hJ ⟨rho, hg.1, hg.2.1, hg.2.2.1, ⟨⟨rfl, List.mem_singleton.mpr rfl⟩, hl2⟩, fun e he => ?_⟩
          rcases List.mem_cons.mp he with z | z
          · subst z
            exact ⟨rfl, List.mem_singleton.mpr rfl⟩
          · exact hg.2.2.2.2 e z
      · cases he
        exact hn.one hJ ⟨rho, gA_stk hg ⟨⟨rfl, List.mem_flatMap.mpr ⟨n, hm, hR⟩⟩, hl2⟩⟩
  · cases he
/-- what is known behind a write to places lo .. hi of some names -/
noncomputable def cdr (C : List (Nat × Nat × AV)) (ns : List Nat) (lo hi : Nat) : List (Nat × Nat × AV) := C.filter (fun e => !(ns.any (Nat.beq e.1) && (Nat.ble lo e.2.1 && Nat.ble e.2.1 hi)))
noncomputable def cpt (C : List (Nat × Nat × AV)) (ns : List Nat) (lo hi : Nat) (v : AV) : List (Nat × Nat × AV) := match ns with
  | [n] => cond (Nat.beq lo hi) ((n, lo, v) :: cdr C ns lo hi) (cdr C ns lo hi)
  | _ => cdr C ns lo hi
theorem cdr_ne {C : List (Nat × Nat × AV)} {ns : List Nat} {lo hi n k : Nat} {e : Nat × Nat × AV} (h : e ∈ cdr C ns lo hi) (hm : n ∈ ns) (h1 : lo ≤ k) (h2 : k ≤ hi) : e ∈ C ∧ ¬ (e.1 = n ∧ e.2.1 = k) := by
  obtain ⟨ha, hb⟩ := List.mem_filter.mp h
  refine ⟨ha, fun z => ?_⟩
  rw [z.1, z.2, Nat.ble_eq_true_of_le h1, Nat.ble_eq_true_of_le h2, List.any_eq_true.mpr ⟨n, hm, beq_self n⟩] at hb
  cases hb
theorem cvl_wI {M : Mm} {a i n k t : Nat} {v : Int32} (h : ¬ (n = a ∧ k = i)) : cvl (wI M a i v) n k t = cvl M n k t := by
  unfold cvl
  rw [mI_w, if_neg h]
  rfl
theorem cvl_wR {M : Mm} {a i n k t v : Nat} (h : ¬ (n = a ∧ k = i)) : cvl (wR M a i v) n k t = cvl M n k t := by
  unfold cvl
  rw [mR_w, if_neg h]
  rfl
theorem cpt_wI {rho : List Int} {M : Mm} {C : List (Nat × Nat × AV)} {ns : List Nat} {lo hi n k : Nat} {v : AV} {x : Int32} (hC : gC rho M C) (hm : n ∈ ns) (h1 : lo ≤ k) (h2 : k ≤ hi) (hv : gv rho (.int x) v) : gC rho (wI M n k x) (cpt C ns lo hi v) := by
  have hd : gC rho (wI M n k x) (cdr C ns lo hi) := by
    intro e he
    obtain ⟨g1, g2⟩ := cdr_ne he hm h1 h2
    rw [cvl_wI g2]
    exact hC e g1
  unfold cpt
  split
  · rename_i m
    have e : n = m := List.mem_singleton.mp hm
    subst e
    cases hb : Nat.beq lo hi with
    | false => exact hd
    | true =>
      have e1 := Nat.eq_of_beq_eq_true hb
      have e2 : k = lo := by omega
      subst e2
      intro e he
      rcases List.mem_cons.mp he with z | z
      · subst z
        have e0 : v.1 = 0 := hv.1
        show gv rho (cvl _ n k v.1) v
        rw [e0]
        show gv rho (.int (mI (wI M n k x) n k)) v
        rw [mI_w, if_pos ⟨rfl, rfl⟩]
        exact hv
      · exact hd e z
  · exact hd
theorem cpt_wR {rho : List Int} {M : Mm} {C : List (Nat × Nat × AV)} {ns : List Nat} {lo hi n k x : Nat} {v : AV} (hC : gC rho M C) (hm : n ∈ ns) (h1 : lo ≤ k) (h2 : k ≤ hi) (hv : gv rho (.ref x) v) : gC rho (wR M n k x) (cpt C ns lo hi v) := by
  have hd : gC rho (wR M n k x) (cdr C ns lo hi) := by
    intro e he
    obtain ⟨g1, g2⟩ := cdr_ne he hm h1 h2
    rw [cvl_wR g2]
    exact hC e g1
  unfold cpt
  split
  · rename_i m
    have e : n = m := List.mem_singleton.mp hm
    subst e
    cases hb : Nat.beq lo hi with
    | false => exact hd
    | true =>
      have e1 := Nat.eq_of_beq_eq_true hb
      have e2 : k = lo := by omega
      subst e2
      intro e he
      rcases List.mem_cons.mp he with z | z
      · subst z
        have e0 : v.1 = 2 := hv.1
        show gv rho (cvl _ n k v.1) v
        rw [e0]
        show gv rho (.ref (mR (wR M n k x) n k)) v
        rw [mR_w, if_pos ⟨rfl, rfl⟩]
        exact hv
      · exact hd e z
  · exact hd
theorem gC_wL {rho : List Int} {M : Mm} {C : List (Nat × Nat × AV)} {ns : List Nat} {lo hi n k : Nat} {x : Int64} (hC : gC rho M C) (hm : n ∈ ns) (h1 : lo ≤ k) (h2 : k ≤ hi) : gC rho (wL M n k x) (cdr C ns lo hi) := by
  intro e he
  obtain ⟨g1, g2⟩ := cdr_ne he hm h1 h2
  have e1 : cvl (wL M n k x) e.1 e.2.1 e.2.2.1 = cvl M e.1 e.2.1 e.2.2.1 := by
    unfold cvl
    rw [mL_w, if_neg g2]
    rfl
  rw [e1]
  exact hC e g1
/-- putfield of an int -/
noncomputable def aPI (P : Pk) (ms : Md3) (z : Bool) (pc c k : Nat) (A : ASt) : Option (List (Nat × ASt)) := match A.2.1 with
  | v :: a :: sk => cond (Nat.beq v.1 0 && (Nat.beq a.1 2 && a.2.2.2.all (okn P c))) (match ab A.2.2.1 v with
    | some b => cond (a.2.2.2.all (fun n => rwW (P.2.2 n) k k b && inw ms n k k) && (!z || (decide (0 ≤ b.1) && decide (b.2 ≤ 1)))) (some [(pc + 3, (A.1, sk, A.2.2.1, cpt A.2.2.2 a.2.2.2 k k v))]) none
    | none => none) none
  | _ => none
theorem aPI_in {z : Bool} {c k : Nat} {ls : Ls} {st : List Value} {M : Mm} {kn : KN} (he : aPI P ms z pc c k A = some L) (hJ : Jv P ms M0 M) (hg : gX av r0 M ls st A) (hn : Nx (Jv P ms M0) av r0 kn L) : ∃ x n t, st = .int x :: .ref n :: t ∧ kk M n c = true ∧ (z = true → x = 0 ∨ x = 1) ∧ kn (pc + 3) ls t (wI M n k x) := by
  obtain ⟨rho, hg⟩ := hg
  have hI := hJ.2.1
  unfold aPI at he
  split at he
  · rename_i v a sk hs
    obtain ⟨h0, he⟩ := condN he
    obtain ⟨h1, h2⟩ := andT h0
    obtain ⟨h3, h4⟩ := andT h2
    have hl := hg.2.2.2.1
    rw [hs] at hl
    obtain ⟨x, u, rfl, hxa, hl2⟩ := gl_i hl h1
    obtain ⟨n, u, rfl, hm, hl3⟩ := gl_r hl2 h3
    have ho := List.all_eq_true.mp h4 n hm
    cases hb : ab A.2.2.1 v with
    | none => rw [hb] at he; cases he
    | some b =>
      rw [hb] at he
      obtain ⟨h5, he⟩ := condN he
      cases he
      obtain ⟨h5, h7⟩ := andT h5
      obtain ⟨h5, h6⟩ := andT (List.all_eq_true.mp h5 n hm)
      have hx := ab_ok hg.1 hxa hb
      refine ⟨x, n, u, rfl, kk_ok hI ho, fun e => ?_, ?_⟩
      · subst e
        have h7 : (decide (0 ≤ b.1) && decide (b.2 ≤ 1)) = true := h7
        obtain ⟨h8, h9⟩ := andT h7
        have h8 := of_decide_eq_true h8
        have h9 := of_decide_eq_true h9
        have e0 : (0 : Int32).toInt = 0 := rfl
        have e1 : (1 : Int32).toInt = 1 := rfl
        rcases (show x.toInt = 0 ∨ x.toInt = 1 by omega) with q | q
        · exact Or.inl (Int32.toInt_inj.mp (q.trans e0.symm))
        · exact Or.inr (Int32.toInt_inj.mp (q.trans e1.symm))
      · exact hn.one (hJ.wI (rwW_ok ⟨i32_lo x, i32_hi x⟩ hx h5 (Nat.le_refl _) (Nat.le_refl _)) (inw_in h6 (Nat.le_refl _) (Nat.le_refl _)) (inw_ne h6)) ⟨rho, hg.1, hg.2.1, hg.2.2.1, hl3, cpt_wI hg.2.2.2.2 hm (Nat.le_refl _) (Nat.le_refl _) hxa⟩
  · cases he
theorem aPI_ok {c k : Nat} (he : aPI P ms false pc c k A = some L) : Sd (Jv P ms M0) av r0 kr (oPI pc c k) A L := by
  intro ls st M kn hJ hg hn
  obtain ⟨x, n, t, rfl, h1, -, h2⟩ := aPI_in he hJ hg hn
  simp only [oPI, h1, cond_true]
  exact h2
theorem aPZ_ok {c k : Nat} (he : aPI P ms true pc c k A = some L) : Sd (Jv P ms M0) av r0 kr (oPZ pc c k) A L := by
  intro ls st M kn hJ hg hn
  obtain ⟨x, n, t, rfl, h1, h3, h2⟩ := aPI_in he hJ hg hn
  simp only [oPZ, h1, cond_true]
  exact ⟨h3 rfl, h2⟩
noncomputable def aPL (P : Pk) (ms : Md3) (pc c k : Nat) (A : ASt) : Option (List (Nat × ASt)) := match A.2.1 with
  | v :: a :: sk => cond (Nat.beq v.1 1 && (Nat.beq a.1 2 && a.2.2.2.all (fun n => okn P c n && ina ms n k k))) (some [(pc + 3, (A.1, sk, A.2.2.1, cdr A.2.2.2 a.2.2.2 k k))]) none
  | _ => none
theorem aPL_ok {c k : Nat} (he : aPL P ms pc c k A = some L) : Sd (Jv P ms M0) av r0 kr (oPL pc c k) A L := by
  intro ls st M kn hJ hg hn
  obtain ⟨rho, hg⟩ := hg
  unfold aPL at he
  split at he
  · rename_i v a sk hs
    obtain ⟨h0, he⟩ := condN he
    obtain ⟨h1, h2⟩ := andT h0
    obtain ⟨h3, h4⟩ := andT h2
    cases he
    have hl := hg.2.2.2.1
    rw [hs] at hl
    obtain ⟨x, u, rfl, hxa, hl2⟩ := gl_l hl h1
    obtain ⟨n, u, rfl, hm, hl3⟩ := gl_r hl2 h3
    obtain ⟨h5, h6⟩ := andT (List.all_eq_true.mp h4 n hm)
    simp only [oPL, kk_ok hJ.2.1 h5, cond_true]
    exact hn.one (M := wL M n k x) (hJ.wL (ina_in h6 (Nat.le_refl _) (Nat.le_refl _))) ⟨rho, hg.1, hg.2.1, hg.2.2.1, hl3, gC_wL hg.2.2.2.2 hm (Nat.le_refl _) (Nat.le_refl _)⟩
  · cases he
noncomputable def aPR (P : Pk) (ms : Md3) (pc c k : Nat) (A : ASt) : Option (List (Nat × ASt)) := match A.2.1 with
  | v :: a :: sk => cond (Nat.beq v.1 2 && (Nat.beq a.1 2 && (a.2.2.2.all (fun n => okn P c n && (ina ms n k k && v.2.2.2.all (fun x => (P.2.1 n k).any (Nat.beq x)))) && v.2.2.2.all (fun x => Nat.blt 0 x && Nat.ble x 167)))) (some [(pc + 3, (A.1, sk, A.2.2.1, cpt A.2.2.2 a.2.2.2 k k v))]) none
  | _ => none
theorem aPR_ok {c k : Nat} (he : aPR P ms pc c k A = some L) : Sd (Jv P ms M0) av r0 kr (oPR pc c k) A L := by
  intro ls st M kn hJ hg hn
  obtain ⟨rho, hg⟩ := hg
  have hI := hJ.2.1
  unfold aPR at he
  split at he
  · rename_i v a sk hs
    obtain ⟨h0, he⟩ := condN he
    obtain ⟨h1, h2⟩ := andT h0
    obtain ⟨h3, h4⟩ := andT h2
    obtain ⟨h4, h5⟩ := andT h4
    cases he
    have hl := hg.2.2.2.1
    rw [hs] at hl
    obtain ⟨x, u, rfl, hxa, hl2⟩ := gl_r hl h1
    obtain ⟨n, u, rfl, hm, hl3⟩ := gl_r hl2 h3
    obtain ⟨h6, h7⟩ := andT (List.all_eq_true.mp h4 n hm)
    obtain ⟨h7, h8⟩ := andT h7
    obtain ⟨h9, h10⟩ := andT (List.all_eq_true.mp h5 x hxa)
    obtain ⟨y, hy, hxy⟩ := List.any_eq_true.mp (List.all_eq_true.mp h8 x hxa)
    have exy := Nat.eq_of_beq_eq_true hxy
    subst exy
    have hx1 : Nat.ble x (mN M) = true := Nat.ble_eq_true_of_le (Nat.le_trans (Nat.le_of_ble_eq_true h10) hI.1)
    simp only [oPR, kk_ok hI h6, h9, hx1, Bool.and_self, cond_true]
    have e2 : v.1 = 2 := Nat.eq_of_beq_eq_true h1
    exact hn.one (M := wR M n k x) (hJ.wR hy (ina_in h7 (Nat.le_refl _) (Nat.le_refl _))) ⟨rho, hg.1, hg.2.1, hg.2.2.1, hl3, cpt_wR hg.2.2.2.2 hm (Nat.le_refl _) (Nat.le_refl _) ⟨e2, hxa⟩⟩
  · cases he
end MEM9
end
section
/-! the checker's arrays -/
section ARR9
variable {P : Pk} {ms : Md3} {M0 : Mm × Int} {av : List Value} {r0 : List Int} {kr : KR} {A : ASt} {L : List (Nat × ASt)} {pc : Nat}
/-- an index within all of the arrays -/
noncomputable def oki (P : Pk) (c : Nat) (ns : List Nat) (b : Int × Int) : Bool := decide (0 ≤ b.1) && (decide (b.2 < 1000) && ns.all (fun n => okn P c n && decide (b.2 < ((P.1 n).2 : Int))))
theorem oki_ok {M : Mm} {c n : Nat} {ns : List Nat} {b : Int × Int} {i : Int32} (hI : Iv P M) (h : oki P c ns b = true) (hm : n ∈ ns) (hb : b.1 ≤ i.toInt ∧ i.toInt ≤ b.2) : okn P c n = true ∧ (i = nI i.toInt.toNat ∧ i.toInt.toNat < 1000 ∧ i.toInt.toNat < (mK M n).2) ∧ b.1.toNat ≤ i.toInt.toNat ∧ i.toInt.toNat ≤ b.2.toNat := by
  obtain ⟨h1, h2⟩ := andT h
  obtain ⟨h3, h4⟩ := andT h2
  obtain ⟨h5, h6⟩ := andT (List.all_eq_true.mp h4 n hm)
  have e1 := of_decide_eq_true h1
  have e3 := of_decide_eq_true h3
  have e6 := of_decide_eq_true h6
  refine ⟨h5, ⟨nI_at (by omega) (by omega), by omega, ?_⟩, by omega, by omega⟩
  rw [hI.2.1 n (okn_le h5)]
  omega
/-- an element: of ints (9) or bytes (8) -/
noncomputable def aIal (P : Pk) (pc c : Nat) (A : ASt) : Option (List (Nat × ASt)) := match A.2.1 with
  | i :: a :: sk => cond (Nat.beq i.1 0 && Nat.beq a.1 2) (match ab A.2.2.1 i with
    | some b => cond (oki P c a.2.2.2 b) (match a.2.2.2 with
      | [n] => cond (Nat.beq b.1.toNat b.2.toNat) (match cgt A.2.2.2 n b.1.toNat 0 with
        | some v => some [(pc + 1, (A.1, v :: sk, A.2.2))]
        | none => some [(pc + 1, frd A [n] b.1.toNat true sk (rwB (P.2.2 n) b.1.toNat))]) (some [(pc + 1, frd A [n] 0 false sk (rwR (P.2.2 n) b.1.toNat b.2.toNat))])
      | ns => some [(pc + 1, frd A ns 0 false sk (jb (fun n => rwR (P.2.2 n) b.1.toNat b.2.toNat) ns))]) none
    | none => none) none
  | _ => none
theorem aIal_in {c : Nat} {ls : Ls} {st : List Value} {M : Mm} {kn : KN} (he : aIal P pc c A = some L) (hJ : Jv P ms M0 M) (hg : gX av r0 M ls st A) (hn : Nx (Jv P ms M0) av r0 kn L) : ∃ (i : Int32) (n : Nat) (t : List Value), st = .int i :: .ref n :: t ∧ kk M n c = true ∧ ∃ j : Nat, (i = nI j ∧ j < 1000 ∧ j < (mK M n).2) ∧ kn (pc + 1) ls (.int (mI M n j) :: t) M := by
  obtain ⟨rho, hg⟩ := hg
  have hI := hJ.2.1
  unfold aIal at he
  split at he
  · rename_i i a sk hs
    obtain ⟨h0, he⟩ := condN he
    obtain ⟨h1, h2⟩ := andT h0
    have hl := hg.2.2.2.1
    rw [hs] at hl
    obtain ⟨x, u, rfl, hxa, hl2⟩ := gl_i hl h1
    obtain ⟨n, u, rfl, hm, hl3⟩ := gl_r hl2 h2
    cases hb : ab A.2.2.1 i with
    | none => rw [hb] at he; cases he
    | some b =>
      rw [hb] at he
      obtain ⟨h5, he⟩ := condN he
      obtain ⟨k1, k2, k3, k4⟩ := oki_ok hI h5 hm (ab_ok hg.1 hxa hb)
      refine ⟨x, n, u, rfl, kk_ok hI k1, _, k2, ?_⟩
      have hi := hI.2.2.2 n x.toInt.toNat (okn_le k1)
      split at he
      · rename_i m hns
        rw [hns] at hm
        have e : n = m := List.mem_singleton.mp hm
        subst e
        cases hq : Nat.beq b.1.toNat b.2.toNat with
        | true =>
          rw [hq] at he
          have e1 := Nat.eq_of_beq_eq_true hq
          have e2 : x.toInt.toNat = b.1.toNat := by omega
          rw [e2] at hi ⊢
          have he : (match cgt A.2.2.2 n b.1.toNat 0 with
            | some v => some [(pc + 1, (A.1, v :: sk, A.2.2))]
            | none => some [(pc + 1, frd A [n] b.1.toNat true sk (rwB (P.2.2 n) b.1.toNat))]) = some L := he
          split at he
          · rename_i v hv
            cases he
            exact hn.one hJ ⟨rho, gA_stk hg ⟨(cgt_ok hg.2.2.2.2 hv).1, hl3⟩⟩
          · cases he
            exact hn.one hJ (frd_ok hg hl3 (List.mem_singleton.mpr rfl) (fun _ => rfl) hi.1 hi.2)
        | false =>
          rw [hq] at he
          cases he
          have hb := rwR_ok (rs := P.2.2 n) k3 k4
          exact hn.one hJ (frd_ok hg hl3 (List.mem_singleton.mpr rfl) (fun z => by cases z) (Int.le_trans hb.1 hi.1) (Int.le_trans hi.2 hb.2))
      · cases he
        have hb := rwR_ok (rs := P.2.2 n) k3 k4
        have hb2 := jb_ok (f := fun n => rwR (P.2.2 n) b.1.toNat b.2.toNat) hm
        exact hn.one hJ (frd_ok hg hl3 hm (fun z => by cases z) (Int.le_trans hb2.1 (Int.le_trans hb.1 hi.1)) (Int.le_trans hi.2 (Int.le_trans hb.2 hb2.2)))
  · cases he
theorem aIal_ok (he : aIal P pc 9 A = some L) : Sd (Jv P ms M0) av r0 kr (oIal pc) A L := by
  intro ls st M kn hJ hg hn
  obtain ⟨i, n, t, rfl, hk, h⟩ := aIal_in he hJ hg hn
  simp only [oIal, hk, cond_true]
  exact h
theorem aBal_ok (he : aIal P pc 8 A = some L) : Sd (Jv P ms M0) av r0 kr (oBal pc) A L := by
  intro ls st M kn hJ hg hn
  obtain ⟨i, n, t, rfl, hk, h⟩ := aIal_in he hJ hg hn
  simp only [oBal, hk, cond_true]
  exact h
/-- an int into an array: within the bounds of every place it may come to -/
noncomputable def aIas (P : Pk) (ms : Md3) (pc : Nat) (A : ASt) : Option (List (Nat × ASt)) := match A.2.1 with
  | v :: i :: a :: sk => cond (Nat.beq v.1 0 && (Nat.beq i.1 0 && Nat.beq a.1 2)) (match ab A.2.2.1 i, ab A.2.2.1 v with
    | some b, some w => cond (oki P 9 a.2.2.2 b && a.2.2.2.all (fun n => rwW (P.2.2 n) b.1.toNat b.2.toNat w && inw ms n b.1.toNat b.2.toNat)) (some [(pc + 1, (A.1, sk, A.2.2.1, cpt A.2.2.2 a.2.2.2 b.1.toNat b.2.toNat v))]) none
    | _, _ => none) none
  | _ => none
theorem aIas_ok (he : aIas P ms pc A = some L) : Sd (Jv P ms M0) av r0 kr (oIas pc) A L := by
  intro ls st M kn hJ hg hn
  obtain ⟨rho, hg⟩ := hg
  have hI := hJ.2.1
  unfold aIas at he
  split at he
  · rename_i v i a sk hs
    obtain ⟨h0, he⟩ := condN he
    obtain ⟨h1, h2⟩ := andT h0
    obtain ⟨h3, h4⟩ := andT h2
    have hl := hg.2.2.2.1
    rw [hs] at hl
    obtain ⟨z, u, rfl, hza, hl2⟩ := gl_i hl h1
    obtain ⟨x, u, rfl, hxa, hl3⟩ := gl_i hl2 h3
    obtain ⟨n, u, rfl, hm, hl4⟩ := gl_r hl3 h4
    cases hb : ab A.2.2.1 i with
    | none => rw [hb] at he; cases he
    | some b =>
      cases hw : ab A.2.2.1 v with
      | none => rw [hb, hw] at he; cases he
      | some w =>
        rw [hb, hw] at he
        obtain ⟨h5, he⟩ := condN he
        cases he
        obtain ⟨h6, h7⟩ := andT h5
        obtain ⟨k1, k2, k3, k4⟩ := oki_ok hI h6 hm (ab_ok hg.1 hxa hb)
        obtain ⟨h8, h9⟩ := andT (List.all_eq_true.mp h7 n hm)
        have hz := ab_ok hg.1 hza hw
        simp only [oIas, kk_ok hI k1, cond_true]
        exact ⟨_, k2, hn.one (hJ.wI (rwW_ok ⟨i32_lo z, i32_hi z⟩ hz h8 k3 k4) (inw_in h9 k3 k4) (inw_ne h9)) ⟨rho, hg.1, hg.2.1, hg.2.2.1, hl4, cpt_wI hg.2.2.2.2 hm k3 k4 hza⟩⟩
  · cases he
theorem gC_cdr {rho : List Int} {M : Mm} {C : List (Nat × Nat × AV)} {ns : List Nat} {lo hi n k : Nat} {x : Int32} (hC : gC rho M C) (hm : n ∈ ns) (h1 : lo ≤ k) (h2 : k ≤ hi) : gC rho (wI M n k x) (cdr C ns lo hi) := by
  intro e he
  obtain ⟨g1, g2⟩ := cdr_ne he hm h1 h2
  rw [cvl_wI g2]
  exact hC e g1
noncomputable def aBas (P : Pk) (ms : Md3) (pc : Nat) (A : ASt) : Option (List (Nat × ASt)) := match A.2.1 with
  | v :: i :: a :: sk => cond (Nat.beq v.1 0 && (Nat.beq i.1 0 && Nat.beq a.1 2)) (match ab A.2.2.1 i with
    | some b => cond (oki P 8 a.2.2.2 b && a.2.2.2.all (fun n => rwW (P.2.2 n) b.1.toNat b.2.toNat (iLo, iHi) && inw ms n b.1.toNat b.2.toNat)) (some [(pc + 1, (A.1, sk, A.2.2.1, cdr A.2.2.2 a.2.2.2 b.1.toNat b.2.toNat))]) none
    | none => none) none
  | _ => none
theorem aBas_ok (he : aBas P ms pc A = some L) : Sd (Jv P ms M0) av r0 kr (oBas pc) A L := by
  intro ls st M kn hJ hg hn
  obtain ⟨rho, hg⟩ := hg
  have hI := hJ.2.1
  unfold aBas at he
  split at he
  · rename_i v i a sk hs
    obtain ⟨h0, he⟩ := condN he
    obtain ⟨h1, h2⟩ := andT h0
    obtain ⟨h3, h4⟩ := andT h2
    have hl := hg.2.2.2.1
    rw [hs] at hl
    obtain ⟨z, u, rfl, hza, hl2⟩ := gl_i hl h1
    obtain ⟨x, u, rfl, hxa, hl3⟩ := gl_i hl2 h3
    obtain ⟨n, u, rfl, hm, hl4⟩ := gl_r hl3 h4
    cases hb : ab A.2.2.1 i with
    | none => rw [hb] at he; cases he
    | some b =>
      rw [hb] at he
      obtain ⟨h5, he⟩ := condN he
      cases he
      obtain ⟨h6, h7⟩ := andT h5
      obtain ⟨k1, k2, k3, k4⟩ := oki_ok hI h6 hm (ab_ok hg.1 hxa hb)
      obtain ⟨h8, h9⟩ := andT (List.all_eq_true.mp h7 n hm)
      simp only [oBas, kk_ok hI k1, cond_true]
      exact ⟨_, k2, hn.one (hJ.wI (rwW_ok ⟨i32_lo _, i32_hi _⟩ ⟨i32_lo _, i32_hi _⟩ h8 k3 k4) (inw_in h9 k3 k4) (inw_ne h9)) ⟨rho, hg.1, hg.2.1, hg.2.2.1, hl4, gC_cdr hg.2.2.2.2 hm k3 k4⟩⟩
  · cases he
noncomputable def aLal (P : Pk) (pc : Nat) (A : ASt) : Option (List (Nat × ASt)) := match A.2.1 with
  | i :: a :: sk => cond (Nat.beq i.1 0 && Nat.beq a.1 2) (match ab A.2.2.1 i with
    | some b => cond (oki P 10 a.2.2.2 b) (some [(pc + 1, fsh A 1 sk lLo lHi)]) none
    | none => none) none
  | _ => none
theorem aLal_ok (he : aLal P pc A = some L) : Sd (Jv P ms M0) av r0 kr (oLal pc) A L := by
  intro ls st M kn hJ hg hn
  obtain ⟨rho, hg⟩ := hg
  have hI := hJ.2.1
  unfold aLal at he
  split at he
  · rename_i i a sk hs
    obtain ⟨h0, he⟩ := condN he
    obtain ⟨h1, h2⟩ := andT h0
    have hl := hg.2.2.2.1
    rw [hs] at hl
    obtain ⟨x, u, rfl, hxa, hl2⟩ := gl_i hl h1
    obtain ⟨n, u, rfl, hm, hl3⟩ := gl_r hl2 h2
    cases hb : ab A.2.2.1 i with
    | none => rw [hb] at he; cases he
    | some b =>
      rw [hb] at he
      obtain ⟨h5, he⟩ := condN he
      cases he
      obtain ⟨k1, k2, -, -⟩ := oki_ok hI h5 hm (ab_ok hg.1 hxa hb)
      simp only [oLal, kk_ok hI k1, cond_true]
      exact ⟨_, k2, hn.one hJ (gA_freshL hg hl3 (i64_lo _) (i64_hi _))⟩
  · cases he
noncomputable def aLas (P : Pk) (ms : Md3) (pc : Nat) (A : ASt) : Option (List (Nat × ASt)) := match A.2.1 with
  | v :: i :: a :: sk => cond (Nat.beq v.1 1 && (Nat.beq i.1 0 && Nat.beq a.1 2)) (match ab A.2.2.1 i with
    | some b => cond (oki P 10 a.2.2.2 b && a.2.2.2.all (fun n => ina ms n b.1.toNat b.2.toNat)) (some [(pc + 1, (A.1, sk, A.2.2.1, cdr A.2.2.2 a.2.2.2 b.1.toNat b.2.toNat))]) none
    | none => none) none
  | _ => none
theorem aLas_ok (he : aLas P ms pc A = some L) : Sd (Jv P ms M0) av r0 kr (oLas pc) A L := by
  intro ls st M kn hJ hg hn
  obtain ⟨rho, hg⟩ := hg
  have hI := hJ.2.1
  unfold aLas at he
  split at he
  · rename_i v i a sk hs
    obtain ⟨h0, he⟩ := condN he
    obtain ⟨h1, h2⟩ := andT h0
    obtain ⟨h3, h4⟩ := andT h2
    have hl := hg.2.2.2.1
    rw [hs] at hl
    obtain ⟨z, u, rfl, hza, hl2⟩ := gl_l hl h1
    obtain ⟨x, u, rfl, hxa, hl3⟩ := gl_i hl2 h3
    obtain ⟨n, u, rfl, hm, hl4⟩ := gl_r hl3 h4
    cases hb : ab A.2.2.1 i with
    | none => rw [hb] at he; cases he
    | some b =>
      rw [hb] at he
      obtain ⟨h5, he⟩ := condN he
      cases he
      obtain ⟨h5, h6⟩ := andT h5
      obtain ⟨k1, k2, k3, k4⟩ := oki_ok hI h5 hm (ab_ok hg.1 hxa hb)
      simp only [oLas, kk_ok hI k1, cond_true]
      exact ⟨_, k2, hn.one (M := wL M n _ z) (hJ.wL (ina_in (List.all_eq_true.mp h6 n hm) k3 k4)) ⟨rho, hg.1, hg.2.1, hg.2.2.1, hl4, gC_wL hg.2.2.2.2 hm k3 k4⟩⟩
  · cases he
/-- natural numbers of a range -/
noncomputable def jdx (lo hi : Nat) : List Nat := (List.range (hi - lo + 1)).map (fun j => j + lo)
theorem jdx_ok {lo hi j : Nat} (h1 : lo ≤ j) (h2 : j ≤ hi) : j ∈ jdx lo hi :=
  List.mem_map.mpr ⟨j - lo, List.mem_range.mpr (by omega), by omega⟩
noncomputable def aAal (P : Pk) (pc c : Nat) (A : ASt) : Option (List (Nat × ASt)) := match A.2.1 with
  | i :: a :: sk => cond (Nat.beq i.1 0 && Nat.beq a.1 2) (match ab A.2.2.1 i with
    | some b => cond (oki P c a.2.2.2 b) (some [(pc + 1, (A.1, (2, 0, 0, a.2.2.2.flatMap (fun n => (jdx b.1.toNat b.2.toNat).flatMap (fun k => P.2.1 n k))) :: sk, A.2.2))]) none
    | none => none) none
  | _ => none
theorem aAal_ok {c : Nat} (he : aAal P pc c A = some L) : Sd (Jv P ms M0) av r0 kr (oAal pc c) A L := by
  intro ls st M kn hJ hg hn
  obtain ⟨rho, hg⟩ := hg
  have hI := hJ.2.1
  unfold aAal at he
  split at he
  · rename_i i a sk hs
    obtain ⟨h0, he⟩ := condN he
    obtain ⟨h1, h2⟩ := andT h0
    have hl := hg.2.2.2.1
    rw [hs] at hl
    obtain ⟨x, u, rfl, hxa, hl2⟩ := gl_i hl h1
    obtain ⟨n, u, rfl, hm, hl3⟩ := gl_r hl2 h2
    cases hb : ab A.2.2.1 i with
    | none => rw [hb] at he; cases he
    | some b =>
      rw [hb] at he
      obtain ⟨h5, he⟩ := condN he
      cases he
      obtain ⟨k1, k2, k3, k4⟩ := oki_ok hI h5 hm (ab_ok hg.1 hxa hb)
      simp only [oAal, kk_ok hI k1, cond_true]
      exact ⟨_, k2, hn.one hJ ⟨rho, gA_stk hg ⟨⟨rfl, List.mem_flatMap.mpr ⟨n, hm, List.mem_flatMap.mpr ⟨_, jdx_ok k3 k4, hI.2.2.1 n _ (okn_le k1)⟩⟩⟩, hl3⟩⟩⟩
  · cases he
/-! copies of rows: from place x of a name to place y of another, z places -/
noncomputable def acs : List AV → Nat
  | [] => 0
  | a :: t => acat a + acs t
theorem acs_ok {rho : List Int} : ∀ {st : List Value} {sk : List AV}, gl rho st sk → cs st = acs sk
  | [], [], _ => rfl
  | v :: t, a :: u, h => by
    show v.category + cs t = acat a + acs u
    rw [gv_cat h.1, acs_ok h.2]
  | [], _ :: _, h => h.elim
  | _ :: _, [], h => h.elim
/-- a number that is known -/
noncomputable def akn (S : Sto) (a : AV) : Option Nat := match ab S a with
  | some b => cond (Nat.beq a.1 0 && (decide (0 ≤ b.1) && (decide (b.1 = b.2) && decide (b.2 < 1000)))) (some b.1.toNat) none
  | none => none
theorem akn_ok {r0 rho : List Int} {S : Sto} {v : Value} {a : AV} {n : Nat} (hs : gs r0 rho S) (h : gv rho v a) (hk : akn S a = some n) : v = .int (nI n) ∧ n < 1000 := by
  unfold akn at hk
  cases hb : ab S a with
  | none => rw [hb] at hk; cases hk
  | some b =>
    rw [hb] at hk
    obtain ⟨h0, he⟩ := condN hk
    obtain ⟨h1, h2⟩ := andT h0
    obtain ⟨h2, h3⟩ := andT h2
    obtain ⟨h3, h4⟩ := andT h3
    have h2 := of_decide_eq_true h2
    have h3 := of_decide_eq_true h3
    have h4 := of_decide_eq_true h4
    obtain ⟨x, rfl⟩ := gv_int h h1
    have hx := ab_ok hs h hb
    have e : b.1.toNat = n := Option.some.inj he
    refine ⟨?_, by omega⟩
    rw [nI_at (i := x) (by omega) (by omega)]
    rw [show x.toInt.toNat = n by omega]
noncomputable def cpC (C : List (Nat × Nat × AV)) (ns0 ns1 : List Nat) (x y z : Nat) : List (Nat × Nat × AV) := match ns0, ns1 with
  | [n0], [n1] => ((C.filter (fun e => Nat.beq e.1 n0 && (Nat.beq e.2.2.1 0 && (Nat.ble x e.2.1 && Nat.blt e.2.1 (x + z))))).map (fun e => (n1, y + (e.2.1 - x), e.2.2))) ++ cdr C ns1 y (y + z - 1)
  | _, _ => cdr C ns1 y (y + z - 1)
noncomputable def cpB (P : Pk) (n0 n1 x y : Nat) : Nat → Bool
  | 0 => true
  | z + 1 => (decide ((rwB (P.2.2 n1) (y + z)).1 ≤ (rwB (P.2.2 n0) (x + z)).1) && decide ((rwB (P.2.2 n0) (x + z)).2 ≤ (rwB (P.2.2 n1) (y + z)).2)) && cpB P n0 n1 x y z
theorem cpB_ok {n0 n1 x y i : Nat} : ∀ {z : Nat}, cpB P n0 n1 x y z = true → i < z → (rwB (P.2.2 n1) (y + i)).1 ≤ (rwB (P.2.2 n0) (x + i)).1 ∧ (rwB (P.2.2 n0) (x + i)).2 ≤ (rwB (P.2.2 n1) (y + i)).2
  | 0, _, h => absurd h (Nat.not_lt_zero _)
  | z + 1, h, hi => by
    obtain ⟨h1, h2⟩ := andT h
    by_cases e : i = z
    · subst e
      obtain ⟨h3, h4⟩ := andT h1
      exact ⟨of_decide_eq_true h3, of_decide_eq_true h4⟩
    · exact cpB_ok h2 (by omega)
noncomputable def aCp (P : Pk) (ms : Md3) (pc : Nat) (A : ASt) : Option (List (Nat × ASt)) := match A.2.1 with
  | n :: dp :: a1 :: sp :: a0 :: sk => match akn A.2.2.1 sp, akn A.2.2.1 dp, akn A.2.2.1 n with
    | some x, some y, some z => cond (Nat.beq a0.1 2 && (Nat.beq a1.1 2 && (Nat.ble (acs sk) 8 && ((Nat.blt 0 z && (Nat.ble (x + z) 1000 && Nat.ble (y + z) 1000)) && (a0.2.2.2.all (fun n0 => okn P 9 n0 && Nat.ble (x + z) (P.1 n0).2) && (a1.2.2.2.all (fun n1 => okn P 9 n1 && (Nat.ble (y + z) (P.1 n1).2 && inw ms n1 y (y + z - 1))) && a0.2.2.2.all (fun n0 => a1.2.2.2.all (fun n1 => !(Nat.beq n0 n1) && cpB P n0 n1 x y z)))))))) (some [(pc + 3, (A.1, sk, A.2.2.1, cpC A.2.2.2 a0.2.2.2 a1.2.2.2 x y z))]) none
    | _, _, _ => none
  | _ => none
theorem mI_wF {M : Mm} {a b j : Nat} {f : Nat → Int32} : mI (wF M a f) b j = if b = a then f j else mI M b j := rfl
theorem Jv.wF {M : Mm} {n0 n1 x y z : Nat} (h : Jv P ms M0 M) (h0 : n0 ≤ 167) (hz : 0 < z) (hb : cpB P n0 n1 x y z = true) (hm : inw ms n1 y (y + z - 1) = true) : Jv P ms M0 (wF M n1 (va_cpy (mI M n0) (mI M n1) x y z)) := by
  refine ⟨h.1, ⟨h.2.1.1, h.2.1.2.1, h.2.1.2.2.1, fun b j hbj => ?_⟩, fun b j hbj => ?_, ?_⟩
  · rw [mI_wF]
    by_cases e : b = n1
    · subst e
      rw [if_pos rfl]
      unfold va_cpy
      split
      · rename_i hj
        have h3 := cpB_ok hb (i := j - y) (by omega)
        rw [show y + (j - y) = j by omega] at h3
        have h4 := h.2.1.2.2.2 n0 (x + (j - y)) h0
        exact ⟨Int.le_trans h3.1 h4.1, Int.le_trans h4.2 h3.2⟩
      · exact h.2.1.2.2.2 b j hbj
    · rw [if_neg e]
      exact h.2.1.2.2.2 b j hbj
  · rw [mI_wF]
    by_cases e : b = n1
    · subst e
      rw [if_pos rfl]
      unfold va_cpy
      split
      · rename_i hj
        rw [inw_in hm (k := j) (by omega) (by omega)] at hbj
        cases hbj
      · exact h.2.2.1 b j hbj
    · rw [if_neg e]
      exact h.2.2.1 b j hbj
  · exact eO_cg (fun j => by rw [mI_wF, if_neg (inw_ne hm)]) h.2.2.2
theorem gC_cpC {rho : List Int} {M : Mm} {C : List (Nat × Nat × AV)} {ns0 ns1 : List Nat} {n0 n1 x y z : Nat} (hC : gC rho M C) (hz : 0 < z) (h0 : n0 ∈ ns0) (h1 : n1 ∈ ns1) : gC rho (wF M n1 (va_cpy (mI M n0) (mI M n1) x y z)) (cpC C ns0 ns1 x y z) := by
  have hd : gC rho (wF M n1 (va_cpy (mI M n0) (mI M n1) x y z)) (cdr C ns1 y (y + z - 1)) := by
    intro e he
    obtain ⟨g1, g2⟩ := List.mem_filter.mp he
    have h3 := hC e g1
    have e1 : cvl (wF M n1 (va_cpy (mI M n0) (mI M n1) x y z)) e.1 e.2.1 e.2.2.1 = cvl M e.1 e.2.1 e.2.2.1 := by
      unfold cvl
      rw [mI_wF]
      by_cases q : e.1 = n1
      · rw [if_pos q]
        unfold va_cpy
        split
        · rename_i hj
          rw [q, List.any_eq_true.mpr ⟨n1, h1, beq_self n1⟩, Nat.ble_eq_true_of_le hj.1, Nat.ble_eq_true_of_le (show e.2.1 ≤ y + z - 1 by omega)] at g2
          cases g2
        · rw [q]; rfl
      · rw [if_neg q]; rfl
    rw [e1]
    exact h3
  unfold cpC
  split
  · rename_i m0 m1
    have e0 : n0 = m0 := List.mem_singleton.mp h0
    have e1 : n1 = m1 := List.mem_singleton.mp h1
    subst e0
    subst e1
    intro e he
    rcases List.mem_append.mp he with he | he
    · obtain ⟨e', h2, rfl⟩ := List.mem_map.mp he
      obtain ⟨h2, h3⟩ := List.mem_filter.mp h2
      obtain ⟨h3, h4⟩ := andT h3
      obtain ⟨h4, h5⟩ := andT h4
      obtain ⟨h5, h6⟩ := andT h5
      have q3 := Nat.eq_of_beq_eq_true h3
      have q4 := Nat.eq_of_beq_eq_true h4
      have q5 := Nat.le_of_ble_eq_true h5
      have q6 : e'.2.1 < x + z := Nat.le_of_ble_eq_true h6
      have h7 := hC e' h2
      rw [q3, q4] at h7
      show gv rho (cvl _ n1 (y + (e'.2.1 - x)) e'.2.2.1) e'.2.2
      rw [q4]
      show gv rho (.int (mI (wF M n1 (va_cpy (mI M n0) (mI M n1) x y z)) n1 (y + (e'.2.1 - x)))) e'.2.2
      rw [mI_wF, if_pos rfl]
      unfold va_cpy
      rw [if_pos (by omega), show x + (y + (e'.2.1 - x) - y) = e'.2.1 by omega]
      exact h7
    · exact hd e he
  · exact hd
theorem aCp_in {ls : Ls} {st : List Value} {M : Mm} {kn : KN} (he : aCp P ms pc A = some L) (hJ : Jv P ms M0 M) (hg : gX av r0 M ls st A) (hn : Nx (Jv P ms M0) av r0 kn L) : ∃ (n0 n1 x y z : Nat) (t : List Value), st = .int (nI z) :: .int (nI y) :: .ref n1 :: .int (nI x) :: .ref n0 :: t ∧ (kk M n0 9 = true ∧ kk M n1 9 = true ∧ cs t ≤ 8 ∧ n0 ≠ n1 ∧ x + z ≤ 1000 ∧ y + z ≤ 1000) ∧ (x < 1000 ∧ y < 1000 ∧ z < 1000 ∧ x + z ≤ (mK M n0).2 ∧ y + z ≤ (mK M n1).2) ∧ kn (pc + 3) ls t (wF M n1 (va_cpy (mI M n0) (mI M n1) x y z)) := by
  obtain ⟨rho, hg⟩ := hg
  have hI := hJ.2.1
  unfold aCp at he
  split at he
  · rename_i n dp a1 sp a0 sk hs
    split at he
    · rename_i x y z hx hy hz
      obtain ⟨h0, he⟩ := condN he
      obtain ⟨c0, h0⟩ := andT h0
      obtain ⟨c1, h0⟩ := andT h0
      obtain ⟨c2, h0⟩ := andT h0
      obtain ⟨c3, h0⟩ := andT h0
      obtain ⟨c4, h0⟩ := andT h0
      obtain ⟨c5, c6⟩ := andT h0
      cases he
      have hl := hg.2.2.2.1
      rw [hs] at hl
      obtain ⟨vz, u, rfl, gz, hl2⟩ := gl_1 hl
      obtain ⟨vy, u, rfl, gy, hl3⟩ := gl_1 hl2
      obtain ⟨n1, u, rfl, m1, hl4⟩ := gl_r hl3 c1
      obtain ⟨vx, u, rfl, gx, hl5⟩ := gl_1 hl4
      obtain ⟨n0, u, rfl, m0, hl6⟩ := gl_r hl5 c0
      obtain ⟨rfl, x1⟩ := akn_ok hg.1 gx hx
      obtain ⟨rfl, y1⟩ := akn_ok hg.1 gy hy
      obtain ⟨rfl, z1⟩ := akn_ok hg.1 gz hz
      obtain ⟨d1, d2⟩ := andT (List.all_eq_true.mp c4 n0 m0)
      obtain ⟨d3, d4⟩ := andT (List.all_eq_true.mp c5 n1 m1)
      obtain ⟨d4, d5⟩ := andT d4
      obtain ⟨d6, d7⟩ := andT (List.all_eq_true.mp (List.all_eq_true.mp c6 n0 m0) n1 m1)
      obtain ⟨c3, c7⟩ := andT c3
      obtain ⟨c7, c8⟩ := andT c7
      have z0 : 0 < z := Nat.le_of_ble_eq_true c3
      have hne : n0 ≠ n1 := by
        intro e
        rw [e, beq_self] at d6
        cases d6
      refine ⟨n0, n1, x, y, z, u, rfl, ⟨kk_ok hI d1, kk_ok hI d3, by rw [acs_ok hl6]; exact Nat.le_of_ble_eq_true c2, hne, Nat.le_of_ble_eq_true c7, Nat.le_of_ble_eq_true c8⟩, ⟨x1, y1, z1, by rw [hI.2.1 n0 (okn_le d1)]; exact Nat.le_of_ble_eq_true d2, by rw [hI.2.1 n1 (okn_le d3)]; exact Nat.le_of_ble_eq_true d4⟩, ?_⟩
      exact hn.one (hJ.wF (okn_le d1) z0 d7 d5) ⟨rho, hg.1, hg.2.1, hg.2.2.1, hl6, gC_cpC hg.2.2.2.2 z0 m0 m1⟩
    · cases he
  · cases he
theorem aAc_ok (he : aCp P ms pc A = some L) : Sd (Jv P ms M0) av r0 kr (oAc pc) A L := by
  intro ls st M kn hJ hg hn
  obtain ⟨n0, n1, x, y, z, t, rfl, ⟨h1, h2, h3, h4⟩, h5, h6⟩ := aCp_in he hJ hg hn
  simp only [oAc, h1, h2, Nat.ble_eq_true_of_le h3, Bool.and_self, cond_true]
  exact ⟨x, y, z, ⟨rfl, rfl, rfl, h5⟩, h6⟩
end ARR9
end
section
/-! contracts, calls by contract, returns -/
/-- bounds of a value: (0, lo, hi, _) an int, (1, lo, hi, _) a long, (2, _, _, names) a reference -/
noncomputable abbrev AB : Type := Nat × Int × Int × List Nat
noncomputable def gb (v : Value) (b : AB) : Prop := match v with
  | .int x => b.1 = 0 ∧ b.2.1 ≤ x.toInt ∧ x.toInt ≤ b.2.2.1
  | .long x => b.1 = 1 ∧ b.2.1 ≤ x.toInt ∧ x.toInt ≤ b.2.2.1
  | .ref n => b.1 = 2 ∧ n ∈ b.2.2.2
  | _ => False
/-- a fact: name, place, bounds -/
noncomputable abbrev Fa : Type := Nat × Nat × AB
noncomputable def gf (M : Mm) (f : Fa) : Prop := gb (cvl M f.1 f.2.1 f.2.2.1) f.2.2
/-- an end: the answer, arguments made narrower, facts -/
noncomputable abbrev Po : Type := Option AB × List (Nat × Int × Int) × List Fa
/-- a contract: (method, arguments, facts), places changed, ends -/
noncomputable abbrev Con : Type := (Nat × List AB × List Fa) × Md3 × List Po
noncomputable def gbs : List Value → List AB → Prop
  | [], [] => True
  | v :: t, b :: u => gb v b ∧ gbs t u
  | _, _ => False
noncomputable def gre (r : Option Value) (b : Option AB) : Prop := match r, b with
  | none, none => True
  | some v, some b => gb v b
  | _, _ => False
noncomputable def gpo (av : List Value) (r : Option Value) (M : Mm) (p : Po) : Prop := gre r p.1 ∧ (∀ x ∈ p.2.1, ∃ y, av[x.1]? = some (.int y) ∧ x.2.1 ≤ y.toInt ∧ y.toInt ≤ x.2.2) ∧ ∀ f ∈ p.2.2, gf M f
noncomputable def gps (av : List Value) (r : Option Value) (M : Mm) (ps : List Po) : Prop := ∃ p ∈ ps, gpo av r M p
/-- the contract holds -/
noncomputable def Vc (l : Launch) (X : Nat × (Nat → Int32)) (U : Nat → Md) (P : Pk) (e : Int) (d : Nat) (K : Con) : Prop := ∀ (av : List Value) (M : Mm) (kr : KR), Iv P M → eO e M → gbs av K.1.2.1 → (∀ f ∈ K.1.2.2, gf M f) → (∀ r M', Jv P K.2.1 (M, e) M' → gps av r M' K.2.2 → kr r M') → Ev l X (U K.1.1) d true 0 0 av M kr
/-- an abstract value within bounds -/
noncomputable def abk (S : Sto) (a : AV) (b : AB) : Bool := Nat.beq a.1 b.1 && (cond (Nat.beq b.1 2) (a.2.2.2.all (fun n => b.2.2.2.any (Nat.beq n))) (match ab S a with
  | some c => decide (b.2.1 ≤ c.1) && decide (c.2 ≤ b.2.2.1)
  | none => false))
theorem abk_ok {r0 rho : List Int} {S : Sto} {v : Value} {a : AV} {b : AB} (hs : gs r0 rho S) (h : gv rho v a) (hk : abk S a b = true) : gb v b := by
  obtain ⟨h1, h2⟩ := andT hk
  have h1 := Nat.eq_of_beq_eq_true h1
  cases v with
  | int x =>
    have h0 := h.1
    rw [show Nat.beq b.1 2 = false by rw [← h1, h0]; rfl] at h2
    cases hc : ab S a with
    | none => rw [hc] at h2; cases h2
    | some c =>
      rw [hc] at h2
      obtain ⟨h3, h4⟩ := andT h2
      have h3 := of_decide_eq_true h3
      have h4 := of_decide_eq_true h4
      have := ab_ok hs h hc
      exact ⟨by rw [← h1]; exact h0, by omega, by omega⟩
  | long x =>
    have h0 := h.1
    rw [show Nat.beq b.1 2 = false by rw [← h1, h0]; rfl] at h2
    cases hc : ab S a with
    | none => rw [hc] at h2; cases h2
    | some c =>
      rw [hc] at h2
      obtain ⟨h3, h4⟩ := andT h2
      have h3 := of_decide_eq_true h3
      have h4 := of_decide_eq_true h4
      have : c.1 ≤ x.toInt ∧ x.toInt ≤ c.2 := ab_num (v := .long x) hs h.2 hc
      exact ⟨by rw [← h1]; exact h0, by omega, by omega⟩
  | ref n =>
    have h0 := h.1
    rw [show Nat.beq b.1 2 = true by rw [← h1, h0]; rfl] at h2
    obtain ⟨y, hy, hxy⟩ := List.any_eq_true.mp (List.all_eq_true.mp h2 n h.2)
    have exy := Nat.eq_of_beq_eq_true hxy
    subst exy
    exact ⟨by rw [← h1]; exact h0, hy⟩
  | _ => exact h.elim
/-- the arguments off the stack, the first first -/
noncomputable def apn : Nat → List AV → List AV → Option (List AV × List AV)
  | 0, sk, acc => some (acc, sk)
  | n + 1, sk, acc => match sk with
    | [] => none
    | a :: t => apn n t (a :: acc)
theorem apn_ok {rho : List Int} : ∀ {n : Nat} {st acc : List Value} {sk acs as rs : List AV}, gl rho st sk → gl rho acc acs → apn n sk acs = some (as, rs) → ∃ av rest, pn n st acc = some (av, rest) ∧ gl rho av as ∧ gl rho rest rs
  | 0, st, acc, sk, acs, as, rs, h1, h2, h => by
    cases h
    exact ⟨acc, st, rfl, h2, h1⟩
  | n + 1, st, acc, [], acs, as, rs, h1, h2, h => by cases h
  | n + 1, st, acc, a :: t, acs, as, rs, h1, h2, h => by
    obtain ⟨v, u, rfl, h3, h4⟩ := gl_1 h1
    exact apn_ok (n := n) (st := u) (acc := v :: acc) (acs := a :: acs) h4 ⟨h3, h2⟩ h
noncomputable def aks (S : Sto) : List AV → List AB → Bool
  | [], [] => true
  | a :: t, b :: u => abk S a b && aks S t u
  | _, _ => false
theorem aks_ok {r0 rho : List Int} {S : Sto} (hs : gs r0 rho S) : ∀ {vs : List Value} {as : List AV} {bs : List AB}, gl rho vs as → aks S as bs = true → gbs vs bs
  | [], [], [], _, _ => trivial
  | v :: t, a :: u, b :: w, h, hk => ⟨abk_ok hs h.1 (andT hk).1, aks_ok hs h.2 (andT hk).2⟩
  | [], _ :: _, _, h, _ => h.elim
  | _ :: _, [], _, h, _ => h.elim
  | [], [], _ :: _, _, hk => by cases hk
  | _ :: _, _ :: _, [], _, hk => by cases hk
/-- a fact is known: of the place, or by the table -/
noncomputable def afk (P : Pk) (A : ASt) (f : Fa) : Bool := match cgt A.2.2.2 f.1 f.2.1 f.2.2.1 with
  | some v => abk A.2.2.1 v f.2.2
  | none => cond (Nat.beq f.2.2.1 0 && Nat.ble f.1 167) (decide (f.2.2.2.1 ≤ (rwB (P.2.2 f.1) f.2.1).1) && decide ((rwB (P.2.2 f.1) f.2.1).2 ≤ f.2.2.2.2.1)) false
theorem afk_ok {P : Pk} {av : List Value} {r0 rho : List Int} {M : Mm} {ls : Ls} {st : List Value} {A : ASt} {f : Fa} (hI : Iv P M) (h : gA av r0 rho M ls st A) (hk : afk P A f = true) : gf M f := by
  unfold afk at hk
  cases hc : cgt A.2.2.2 f.1 f.2.1 f.2.2.1 with
  | some v =>
    rw [hc] at hk
    exact abk_ok h.1 (cgt_ok h.2.2.2.2 hc).1 hk
  | none =>
    rw [hc] at hk
    cases hb : (Nat.beq f.2.2.1 0 && Nat.ble f.1 167) with
    | false => rw [hb] at hk; cases hk
    | true =>
      rw [hb] at hk
      obtain ⟨h1, h2⟩ := andT hb
      obtain ⟨h3, h4⟩ := andT hk
      have h1 := Nat.eq_of_beq_eq_true h1
      have h3 := of_decide_eq_true h3
      have h4 := of_decide_eq_true h4
      have hi := hI.2.2.2 f.1 f.2.1 (Nat.le_of_ble_eq_true h2)
      unfold gf
      rw [h1]
      exact ⟨h1, Int.le_trans h3 hi.1, Int.le_trans hi.2 h4⟩
/-- a fact comes to a state -/
noncomputable def adf (A : ASt) (f : Fa) : ASt := cond (Nat.beq f.2.2.1 2) (A.1, A.2.1, A.2.2.1, (f.1, f.2.1, (2, 0, 0, f.2.2.2.2.2)) :: A.2.2.2) (A.1, A.2.1, A.2.2.1 ++ [(f.2.2.2.1, f.2.2.2.2.1)], (f.1, f.2.1, (f.2.2.1, A.2.2.1.length, 0, [])) :: A.2.2.2)
theorem adf_ok {av : List Value} {r0 : List Int} {M : Mm} {ls : Ls} {st : List Value} {A : ASt} {f : Fa} (h : gX av r0 M ls st A) (hf : gf M f) : gX av r0 M ls st (adf A f) := by
  obtain ⟨rho, h⟩ := h
  unfold adf
  cases hb : Nat.beq f.2.2.1 2 with
  | true =>
    refine ⟨rho, h.1, h.2.1, h.2.2.1, h.2.2.2.1, fun e he => ?_⟩
    rcases List.mem_cons.mp he with z | z
    · subst z
      unfold gf at hf
      have e2 := Nat.eq_of_beq_eq_true hb
      rw [e2] at hf
      exact ⟨rfl, hf.2⟩
    · exact h.2.2.2.2 e z
  | false =>
    unfold gf cvl at hf
    rw [hb] at hf
    cases h1b : Nat.beq f.2.2.1 1 with
    | true =>
      rw [h1b] at hf
      obtain ⟨h1, h2, h3⟩ := hf
      refine ⟨rho ++ [(mL M f.1 f.2.1).toInt], gs_app h.1 h2 h3, r0_app h.2.1, gm_app h.2.2.1, gl_app h.2.2.2.1, fun e he => ?_⟩
      rcases List.mem_cons.mp he with z | z
      · subst z
        show gv _ (cvl M f.1 f.2.1 f.2.2.1) (f.2.2.1, A.2.2.1.length, 0, [])
        unfold cvl
        rw [hb, h1b]
        exact ⟨h1, _, at_end h.1, by show (mL M f.1 f.2.1).toInt = (mL M f.1 f.2.1).toInt + 0; omega⟩
      · exact gC_app h.2.2.2.2 e z
    | false =>
      rw [h1b] at hf
      obtain ⟨h1, h2, h3⟩ := hf
      refine ⟨rho ++ [(mI M f.1 f.2.1).toInt], gs_app h.1 h2 h3, r0_app h.2.1, gm_app h.2.2.1, gl_app h.2.2.2.1, fun e he => ?_⟩
      rcases List.mem_cons.mp he with z | z
      · subst z
        show gv _ (cvl M f.1 f.2.1 f.2.2.1) (f.2.2.1, A.2.2.1.length, 0, [])
        unfold cvl
        rw [hb, h1b]
        exact ⟨h1, _, at_end h.1, by show (mI M f.1 f.2.1).toInt = (mI M f.1 f.2.1).toInt + 0; omega⟩
      · exact gC_app h.2.2.2.2 e z
noncomputable def afs (A : ASt) : List Fa → ASt
  | [] => A
  | f :: t => afs (adf A f) t
theorem afs_ok {av : List Value} {r0 : List Int} {M : Mm} {ls : Ls} {st : List Value} : ∀ {fs : List Fa} {A : ASt}, gX av r0 M ls st A → (∀ f ∈ fs, gf M f) → gX av r0 M ls st (afs A fs)
  | [], _, h, _ => h
  | f :: t, A, h, hf => afs_ok (fs := t) (adf_ok h (hf f List.mem_cons_self)) (fun x hx => hf x (List.mem_cons_of_mem _ hx))
/-- arguments made narrower -/
noncomputable def anr (S : Sto) (as : List AV) : List (Nat × Int × Int) → Sto
  | [] => S
  | x :: t => anr (match as[x.1]? with
    | some a => rfn S a (x.2.1, x.2.2)
    | none => S) as t
theorem gl_at {rho : List Int} : ∀ {vs : List Value} {as : List AV} {j : Nat} {a : AV}, gl rho vs as → as[j]? = some a → ∃ v, vs[j]? = some v ∧ gv rho v a
  | [], [], _, _, _, h => by cases h
  | v :: t, b :: u, 0, a, h, ha => by
    cases ha
    exact ⟨v, rfl, h.1⟩
  | v :: t, b :: u, j + 1, a, h, ha => gl_at (vs := t) (as := u) (j := j) h.2 ha
  | [], _ :: _, _, _, h, _ => h.elim
  | _ :: _, [], _, _, h, _ => h.elim
theorem anr_ok {r0 rho : List Int} {vs : List Value} {as : List AV} (hl : gl rho vs as) : ∀ {xs : List (Nat × Int × Int)} {S : Sto}, gs r0 rho S → (∀ x ∈ xs, ∃ y, vs[x.1]? = some (.int y) ∧ x.2.1 ≤ y.toInt ∧ y.toInt ≤ x.2.2) → gs r0 rho (anr S as xs)
  | [], S, h, _ => h
  | x :: t, S, h, hx => by
    unfold anr
    refine anr_ok hl (xs := t) ?_ (fun z hz => hx z (List.mem_cons_of_mem _ hz))
    obtain ⟨y, h1, h2, h3⟩ := hx x List.mem_cons_self
    cases ha : as[x.1]? with
    | none => exact h
    | some a =>
      obtain ⟨v, h4, h5⟩ := gl_at hl ha
      cases h1.symm.trans h4
      exact rfn_ok h h5 h2 h3
noncomputable def cfm (C : List (Nat × Nat × AV)) (ms : Md3) : List (Nat × Nat × AV) := C.filter (fun e => !(inm ms e.1 e.2.1))
theorem cfm_ok {rho : List Int} {M M' : Mm} {C : List (Nat × Nat × AV)} {ms : Md3} (hk : kp ms M M') (h : gC rho M C) : gC rho M' (cfm C ms) := by
  intro e he
  obtain ⟨h1, h2⟩ := List.mem_filter.mp he
  have h3 : inm ms e.1 e.2.1 = false := by
    cases hq : inm ms e.1 e.2.1 with
    | false => rfl
    | true => rw [hq] at h2; cases h2
  have h4 := h e h1
  unfold cvl at h4 ⊢
  rw [(hk _ _ h3).1, (hk _ _ h3).2.1, (hk _ _ h3).2.2]
  exact h4
/-- an answer comes to the stack -/
noncomputable def are (A : ASt) (rs : List AV) (r : Option AB) : ASt := match r with
  | none => (A.1, rs, A.2.2)
  | some b => cond (Nat.beq b.1 2) (A.1, (2, 0, 0, b.2.2.2) :: rs, A.2.2) (fsh A b.1 rs b.2.1 b.2.2.1)
theorem are_ok {av : List Value} {r0 rho : List Int} {M : Mm} {ls : Ls} {st rest : List Value} {A : ASt} {rs : List AV} {r : Option Value} {b : Option AB} (h : gA av r0 rho M ls st A) (hl : gl rho rest rs) (hr : gre r b) : gX av r0 M ls (r.toList ++ rest) (are A rs b) := by
  cases b with
  | none =>
    cases r with
    | none => exact ⟨rho, gA_stk h hl⟩
    | some v => exact hr.elim
  | some b =>
    cases r with
    | none => exact hr.elim
    | some v =>
      show gX av r0 M ls (v :: rest) (cond (Nat.beq b.1 2) (A.1, (2, 0, 0, b.2.2.2) :: rs, A.2.2) (fsh A b.1 rs b.2.1 b.2.2.1))
      cases v with
      | int x =>
        have hr : b.1 = 0 ∧ b.2.1 ≤ x.toInt ∧ x.toInt ≤ b.2.2.1 := hr
        rw [show Nat.beq b.1 2 = false by rw [hr.1]; rfl, hr.1]
        exact gA_fresh h hl hr.2.1 hr.2.2
      | long x =>
        have hr : b.1 = 1 ∧ b.2.1 ≤ x.toInt ∧ x.toInt ≤ b.2.2.1 := hr
        rw [show Nat.beq b.1 2 = false by rw [hr.1]; rfl, hr.1]
        exact gA_freshL h hl hr.2.1 hr.2.2
      | ref n =>
        have hr : b.1 = 2 ∧ n ∈ b.2.2.2 := hr
        rw [show Nat.beq b.1 2 = true by rw [hr.1]; rfl]
        exact ⟨rho, gA_stk h ⟨⟨rfl, hr.2⟩, hl⟩⟩
      | _ => exact hr.elim
/-- the stack of a state is left as it is by facts -/
theorem gX_split {av : List Value} {r0 : List Int} {M : Mm} {ls : Ls} {st : List Value} {A : ASt} (h : gX av r0 M ls st A) : ∃ rho, gA av r0 rho M ls st A ∧ gl rho st A.2.1 := by
  obtain ⟨rho, h⟩ := h
  exact ⟨rho, h, h.2.2.2.1⟩
/-- the ways on behind a call -/
noncomputable def acl (pc : Nat) (A : ASt) (as rs : List AV) (K : Con) : List (Nat × ASt) := K.2.2.flatMap (fun p => on1 (pc + 3) (are (afs (A.1, rs, anr A.2.2.1 as p.2.1, cfm A.2.2.2 K.2.1) p.2.2) (afs (A.1, rs, anr A.2.2.1 as p.2.1, cfm A.2.2.2 K.2.1) p.2.2).2.1 p.1))
noncomputable def acp (P : Pk) (A : ASt) (as : List AV) (ms : Md3) (K : Con) : Bool := aks A.2.2.1 as K.1.2.1 && (K.1.2.2.all (afk P A) && K.2.1.all (fun m => ina ms m.1 m.2.1 m.2.2))
noncomputable def aCl (P : Pk) (ms : Md3) (Ks : List Con) (pc mi n : Nat) (A : ASt) : Option (List (Nat × ASt)) := match apn n A.2.1 [] with
  | some (as, rs) => cond (Nat.ble (acs rs) 8) (match Ks.find? (fun K => Nat.beq K.1.1 mi && acp P A as ms K) with
    | some K => some (acl pc A as rs K)
    | none => none) none
  | none => none
section CALL9
variable {l : Launch} {X : Nat × (Nat → Int32)} {U : Nat → Md} {P : Pk} {ms : Md3} {M0 : Mm × Int} {av : List Value} {r0 : List Int} {kr : KR} {A : ASt} {L : List (Nat × ASt)} {pc d : Nat}
theorem acl_ok {M M' : Mm} {ls : Ls} {st rest : List Value} {vs : List Value} {as rs : List AV} {rho : List Int} {K : Con} {r : Option Value} {kn : KN} (hg : gA av r0 rho M ls st A) (ha : gl rho vs as) (hl : gl rho rest rs) (hJ : Jv P ms M0 M) (hsub : ∀ m ∈ K.2.1, ina ms m.1 m.2.1 m.2.2 = true) (hM : Jv P K.2.1 (M, M0.2) M') (hp : gps vs r M' K.2.2) (hn : Nx (Jv P ms M0) av r0 kn (acl pc A as rs K)) : kn (pc + 3) ls (r.toList ++ rest) M' := by
  obtain ⟨p, hp, h1, h2, h3⟩ := hp
  have hJ' : Jv P ms M0 M' := by
    refine ⟨hM.1.trans hJ.1, hM.2.1, fun a k hk => ?_, hM.2.2.2⟩
    have hk2 : inm K.2.1 a k = false := by
      cases hq : inm K.2.1 a k with
      | false => rfl
      | true =>
        obtain ⟨m, hm, h4⟩ := List.any_eq_true.mp hq
        obtain ⟨h4, h5⟩ := andT h4
        obtain ⟨h5, h6⟩ := andT h5
        have h7 := ina_in (hsub m hm) (Nat.le_of_ble_eq_true h5) (Nat.le_of_ble_eq_true h6)
        rw [Nat.eq_of_beq_eq_true h4] at h7
        rw [h7] at hk
        cases hk
    obtain ⟨h4, h5, h8⟩ := hM.2.2.1 a k hk2
    obtain ⟨h6, h7, h9⟩ := hJ.2.2.1 a k hk
    exact ⟨h4.trans h6, h5.trans h7, h8.trans h9⟩
  have g1 : gX av r0 M' ls rest (A.1, rs, anr A.2.2.1 as p.2.1, cfm A.2.2.2 K.2.1) := ⟨rho, anr_ok ha hg.1 h2, hg.2.1, hg.2.2.1, hl, cfm_ok hM.2.2.1 hg.2.2.2.2⟩
  obtain ⟨rho2, g2, g3⟩ := gX_split (afs_ok (fs := p.2.2) g1 h3)
  have g4 := are_ok (r := r) (b := p.1) g2 g3 h1
  exact hn _ (List.mem_flatMap.mpr ⟨p, hp, on1_in (pc := pc + 3) g4⟩) _ _ _ hJ' g4
theorem find_ok {α : Type} {p : α → Bool} {xs : List α} {x : α} (h : xs.find? p = some x) : x ∈ xs ∧ p x = true := ⟨List.mem_of_find?_eq_some h, List.find?_some h⟩
theorem aCl_in {Ks : List Con} {mi n : Nat} {ls : Ls} {st : List Value} {M : Mm} {kn : KN} (hK : ∀ K ∈ Ks, Vc l X U P M0.2 d K) (he : aCl P ms Ks pc mi n A = some L) (hJ : Jv P ms M0 M) (hg : gX av r0 M ls st A) (hn : Nx (Jv P ms M0) av r0 kn L) : ∃ as rs vs rest rho, apn n A.2.1 [] = some (as, rs) ∧ gl rho vs as ∧ pn n st [] = some (vs, rest) ∧ cs rest ≤ 8 ∧ Ev l X (U mi) d true 0 0 vs M (fun r M' => kn (pc + 3) ls (r.toList ++ rest) M') := by
  obtain ⟨rho, hg⟩ := hg
  unfold aCl at he
  split at he
  · rename_i as rs hap
    obtain ⟨h0, he⟩ := condN he
    split at he
    · rename_i K hf
      cases he
      obtain ⟨hm, hp⟩ := find_ok hf
      obtain ⟨h1, h2⟩ := andT hp
      obtain ⟨h2, h3⟩ := andT h2
      obtain ⟨h3, h4⟩ := andT h3
      have e1 := Nat.eq_of_beq_eq_true h1
      obtain ⟨vs, rest, g1, g2, g3⟩ := apn_ok hg.2.2.2.1 (show gl rho [] [] from trivial) hap
      refine ⟨as, rs, vs, rest, rho, hap, g2, g1, by rw [acs_ok g3]; exact Nat.le_of_ble_eq_true h0, ?_⟩
      rw [← e1]
      exact hK K hm vs M _ hJ.2.1 hJ.2.2.2 (aks_ok hg.1 g2 h2) (fun f hfm => afk_ok hJ.2.1 hg (List.all_eq_true.mp h3 f hfm)) (fun r M' hM hps => acl_ok hg g2 g3 hJ (fun m hm => List.all_eq_true.mp h4 m hm) hM hps hn)
    · cases he
  · cases he
/-- a method of one of the known objects: the first argument must be of its class -/
noncomputable def aCv (P : Pk) (ms : Md3) (Ks : List Con) (pc mi c n : Nat) (A : ASt) : Option (List (Nat × ASt)) := match apn (n + 1) A.2.1 [] with
  | some (a :: _, _) => cond (Nat.beq a.1 2 && a.2.2.2.all (okn P c)) (aCl P ms Ks pc mi (n + 1) A) none
  | _ => none
theorem aCv_ok {Ks : List Con} {mi c n : Nat} (hK : ∀ K ∈ Ks, Vc l X U P M0.2 d K) (he : aCv P ms Ks pc mi c n A = some L) : Sd (Jv P ms M0) av r0 kr (oCv l X d pc (U mi) c n) A L := by
  intro ls st M kn hJ hg hn
  unfold aCv at he
  split at he
  · rename_i a t rs0 hap
    obtain ⟨h0, he⟩ := condN he
    obtain ⟨h1, h2⟩ := andT h0
    obtain ⟨as, rs, vs, rest, rho, g0, g1, g2, g3, g4⟩ := aCl_in hK he hJ hg hn
    rw [hap] at g0
    cases g0
    obtain ⟨k, u, rfl, g5, g6⟩ := gl_r g1 h1
    simp only [oCv, g2, kk_ok hJ.2.1 (List.all_eq_true.mp h2 k g5), Nat.ble_eq_true_of_le g3, Bool.and_self, cond_true]
    exact g4
  · cases he
theorem aCs_ok {Ks : List Con} {mi n : Nat} (hK : ∀ K ∈ Ks, Vc l X U P M0.2 d K) (he : aCl P ms Ks pc mi n A = some L) : Sd (Jv P ms M0) av r0 kr (oCs l X d pc (U mi) n) A L := by
  intro ls st M kn hJ hg hn
  obtain ⟨as, rs, vs, rest, rho, g0, g1, g2, g3, g4⟩ := aCl_in hK he hJ hg hn
  simp only [oCs, g2, Nat.ble_eq_true_of_le g3, cond_true]
  exact g4
/-- a String constant's method -/
noncomputable def aCq (P : Pk) (ms : Md3) (Ks : List Con) (pc mi n : Nat) (A : ASt) : Option (List (Nat × ASt)) := match apn (n + 1) A.2.1 [] with
  | some (a :: _, _) => cond (Nat.beq a.1 2 && a.2.2.2.all (fun k => Nat.ble 5000 k && Nat.blt k 5042)) (aCl P ms Ks pc mi (n + 1) A) none
  | _ => none
theorem aCq_ok {Ks : List Con} {mi n : Nat} (hK : ∀ K ∈ Ks, Vc l X U P M0.2 d K) (he : aCq P ms Ks pc mi n A = some L) : Sd (Jv P ms M0) av r0 kr (oCq l X d pc (U mi) n) A L := by
  intro ls st M kn hJ hg hn
  unfold aCq at he
  split at he
  · rename_i a t rs0 hap
    obtain ⟨h0, he⟩ := condN he
    obtain ⟨h1, h2⟩ := andT h0
    obtain ⟨as, rs, vs, rest, rho, g0, g1, g2, g3, g4⟩ := aCl_in hK he hJ hg hn
    rw [hap] at g0
    cases g0
    obtain ⟨k, u, rfl, g5, g6⟩ := gl_r g1 h1
    obtain ⟨g7, g8⟩ := andT (List.all_eq_true.mp h2 k g5)
    simp only [oCq, g2, Nat.ble_eq_true_of_le g3, cond_true]
    exact ⟨Nat.le_of_ble_eq_true g7, Nat.le_of_ble_eq_true g8, g4⟩
  · cases he
/-- the reference's own copy of rows -/
noncomputable def Cpy (l : Launch) (X : Nat × (Nat → Int32)) (d : Nat) (q : Md) : Prop := ∀ (n0 n1 x y z : Nat) (M : Mm) (kr : KR), kk M n0 9 = true → kk M n1 9 = true → n0 ≠ n1 → (x + z ≤ 1000 ∧ y + z ≤ 1000) → (x < 1000 ∧ y < 1000 ∧ z < 1000 ∧ x + z ≤ (mK M n0).2 ∧ y + z ≤ (mK M n1).2) → kr none (wF M n1 (va_cpy (mI M n0) (mI M n1) x y z)) → Ev l X q d true 0 0 [.ref n0, .int (nI x), .ref n1, .int (nI y), .int (nI z)] M kr
theorem aCy_ok {q : Md} (hC : Cpy l X d q) (he : aCp P ms pc A = some L) : Sd (Jv P ms M0) av r0 kr (oCs l X d pc q 5) A L := by
  intro ls st M kn hJ hg hn
  obtain ⟨n0, n1, x, y, z, t, rfl, ⟨h1, h2, h3, h4⟩, h5, h6⟩ := aCp_in he hJ hg hn
  have hp : pn 5 (.int (nI z) :: .int (nI y) :: .ref n1 :: .int (nI x) :: .ref n0 :: t) [] = some ([.ref n0, .int (nI x), .ref n1, .int (nI y), .int (nI z)], t) := rfl
  simp only [oCs, hp, Nat.ble_eq_true_of_le h3, cond_true]
  exact hC n0 n1 x y z M _ h1 h2 h4.1 h4.2 h5 h6
/-! returns -/
noncomputable def apo (A : ASt) (r : Option AV) (p : Po) : Bool := (match r, p.1 with
  | none, none => true
  | some a, some b => abk A.2.2.1 a b
  | _, _ => false) && (p.2.1.all (fun x => match ag A.1 (1000 + x.1) with
    | some a => abk A.2.2.1 a (0, x.2.1, x.2.2, [])
    | none => false) && p.2.2.all (fun f => match cgt A.2.2.2 f.1 f.2.1 f.2.2.1 with
      | some v => abk A.2.2.1 v f.2.2
      | none => false))
theorem apo_ok {rho : List Int} {M : Mm} {ls : Ls} {st : List Value} {r : Option AV} {v : Option Value} {p : Po} (hg : gA av r0 rho M ls st A) (hv : match v, r with
  | none, none => True
  | some v, some a => gv rho v a
  | _, _ => False) (h : apo A r p = true) : gpo av v M p := by
  obtain ⟨h1, h2⟩ := andT h
  obtain ⟨h2, h3⟩ := andT h2
  refine ⟨?_, fun x hx => ?_, fun f hf => ?_⟩
  · cases r with
    | none =>
      cases v with
      | some v => exact hv.elim
      | none =>
        cases hb : p.1 with
        | none => exact trivial
        | some b => rw [hb] at h1; cases h1
    | some a =>
      cases v with
      | none => exact hv.elim
      | some v =>
        cases hb : p.1 with
        | none => rw [hb] at h1; cases h1
        | some b =>
          rw [hb] at h1
          exact abk_ok hg.1 hv h1
  · have h4 := List.all_eq_true.mp h2 x hx
    cases ha : ag A.1 (1000 + x.1) with
    | none => rw [ha] at h4; cases h4
    | some a =>
      rw [ha] at h4
      obtain ⟨w, h5, h6⟩ := hg.2.2.1 _ (ag_mem ha)
      unfold lz at h5
      rw [show Nat.blt (1000 + x.1) 999 = false from by
        cases hq : Nat.blt (1000 + x.1) 999 with
        | false => rfl
        | true =>
          have : 1000 + x.1 < 999 := Nat.le_of_ble_eq_true hq
          omega] at h5
      have h5 : av[1000 + x.1 - 1000]? = some w := h5
      rw [show 1000 + x.1 - 1000 = x.1 by omega] at h5
      have h7 := abk_ok hg.1 h6 h4
      cases w with
      | int y => exact ⟨y, h5, h7.2⟩
      | long y => have := h7.1; cases this
      | ref y => have := h7.1; cases this
      | _ => exact h7.elim
  · have h4 := List.all_eq_true.mp h3 f hf
    cases hc : cgt A.2.2.2 f.1 f.2.1 f.2.2.1 with
    | none => rw [hc] at h4; cases h4
    | some v =>
      rw [hc] at h4
      exact abk_ok hg.1 (cgt_ok hg.2.2.2.2 hc).1 h4
/-- the method's end: 0 an int, 1 a truth, 2 a long, 3 nothing -/
noncomputable def aRt (ps : List Po) (t : Nat) (A : ASt) : Option (List (Nat × ASt)) := match t with
  | 3 => match A.2.1 with
    | [] => cond (ps.any (apo A none)) (some []) none
    | _ => none
  | t => match A.2.1 with
    | [a] => cond (Nat.beq a.1 (cond (Nat.beq t 2) 1 0) && ((!(Nat.beq t 1) || abk A.2.2.1 a (0, 0, 1, [])) && ps.any (apo A (some a)))) (some []) none
    | _ => none
theorem aRt_in {ps : List Po} {t : Nat} {ls : Ls} {st : List Value} {M : Mm} (ht : t ≠ 3) (hr : ∀ r M', Jv P ms M0 M' → gps av r M' ps → kr r M') (he : aRt ps t A = some L) (hJ : Jv P ms M0 M) (hg : gX av r0 M ls st A) : ∃ v a rho, st = [v] ∧ gv rho v a ∧ Nat.beq a.1 (cond (Nat.beq t 2) 1 0) = true ∧ (t = 1 → gb v (0, 0, 1, [])) ∧ kr (some v) M := by
  obtain ⟨rho, hg⟩ := hg
  unfold aRt at he
  split at he
  · exact absurd rfl ht
  · split at he
    · rename_i a hs
      obtain ⟨h0, he⟩ := condN he
      obtain ⟨h1, h2⟩ := andT h0
      obtain ⟨h2, h3⟩ := andT h2
      have hl := hg.2.2.2.1
      rw [hs] at hl
      obtain ⟨v, u, rfl, h4, h5⟩ := gl_1 hl
      have hu : u = [] := by
        cases u with
        | nil => rfl
        | cons _ _ => exact h5.elim
      subst hu
      refine ⟨v, a, rho, rfl, h4, h1, fun e => ?_, ?_⟩
      · subst e
        exact abk_ok hg.1 h4 h2
      · obtain ⟨p, hp, h6⟩ := List.any_eq_true.mp h3
        exact hr _ _ hJ ⟨p, hp, apo_ok hg (v := some v) h4 h6⟩
    · cases he
theorem aIr_ok {ps : List Po} (hr : ∀ r M', Jv P ms M0 M' → gps av r M' ps → kr r M') (he : aRt ps 0 A = some L) : Sd (Jv P ms M0) av r0 kr oIr A L := by
  intro ls st M kn hJ hg hn
  obtain ⟨v, a, rho, rfl, h1, h2, -, h3⟩ := aRt_in (by decide) hr he hJ hg
  obtain ⟨x, rfl⟩ := gv_int h1 h2
  exact h3
theorem aZr_ok {ps : List Po} (hr : ∀ r M', Jv P ms M0 M' → gps av r M' ps → kr r M') (he : aRt ps 1 A = some L) : Sd (Jv P ms M0) av r0 kr oZr A L := by
  intro ls st M kn hJ hg hn
  obtain ⟨v, a, rho, rfl, h1, h2, h4, h3⟩ := aRt_in (by decide) hr he hJ hg
  obtain ⟨x, rfl⟩ := gv_int h1 h2
  obtain ⟨-, h5, h6⟩ := h4 rfl
  refine ⟨?_, h3⟩
  have e0 : (0 : Int32).toInt = 0 := rfl
  have e1 : (1 : Int32).toInt = 1 := rfl
  rcases (show x.toInt = 0 ∨ x.toInt = 1 by
    have h5 : (0 : Int) ≤ x.toInt := h5
    have h6 : x.toInt ≤ (1 : Int) := h6
    omega) with q | q
  · exact Or.inl (Int32.toInt_inj.mp (q.trans e0.symm))
  · exact Or.inr (Int32.toInt_inj.mp (q.trans e1.symm))
theorem aLr_ok {ps : List Po} (hr : ∀ r M', Jv P ms M0 M' → gps av r M' ps → kr r M') (he : aRt ps 2 A = some L) : Sd (Jv P ms M0) av r0 kr oLr A L := by
  intro ls st M kn hJ hg hn
  obtain ⟨v, a, rho, rfl, h1, h2, -, h3⟩ := aRt_in (by decide) hr he hJ hg
  obtain ⟨x, rfl⟩ := gv_long h1 h2
  exact h3
theorem aVr_ok {ps : List Po} (hr : ∀ r M', Jv P ms M0 M' → gps av r M' ps → kr r M') (he : aRt ps 3 A = some L) : Sd (Jv P ms M0) av r0 kr oVr A L := by
  intro ls st M kn hJ hg hn
  obtain ⟨rho, hg⟩ := hg
  have he : (match A.2.1 with
    | [] => cond (ps.any (apo A none)) (some []) none
    | _ => none) = some L := he
  split at he
  · rename_i hs
    obtain ⟨h0, he⟩ := condN he
    have hl := hg.2.2.2.1
    rw [hs] at hl
    have hu : st = [] := by
      cases st with
      | nil => rfl
      | cons _ _ => exact hl.elim
    subst hu
    obtain ⟨p, hp, h6⟩ := List.any_eq_true.mp h0
    exact hr _ _ hJ ⟨p, hp, apo_ok hg (v := none) trivial h6⟩
  · cases he
end CALL9
end
section
/-! codes of operations, what they do to a state, and that it is so -/
noncomputable abbrev Cd : Type := Nat × Nat × Nat × Nat × Int × List Nat
noncomputable def vok (v : Int) : Bool := decide (iLo ≤ v) && decide (v ≤ iHi)
theorem vok_ok {v : Int} (h : vok v = true) : (Int32.ofInt v).toInt = v := by
  obtain ⟨h1, h2⟩ := andT h
  rw [Int32.toInt_ofInt]
  exact bm (of_decide_eq_true h1) (of_decide_eq_true h2)
noncomputable def vokL (v : Int) : Bool := decide (lLo ≤ v) && decide (v ≤ lHi)
theorem vokL_ok {v : Int} (h : vokL v = true) : (Int64.ofInt v).toInt = v := by
  obtain ⟨h1, h2⟩ := andT h
  have h1 := of_decide_eq_true h1
  have h2 := of_decide_eq_true h2
  unfold lLo at h1
  unfold lHi at h2
  rw [Int64.toInt_ofInt]
  exact Int.bmod_eq_of_le (by show -9223372036854775808 ≤ v; omega) (by show v < 9223372036854775808; omega)
noncomputable def cop (l : Launch) (X : Nat × (Nat → Int32)) (d : Nat) (U : Nat → Md) (pc : Nat) (c : Cd) : OP := match c.1 with
  | 0 => oIc pc c.2.1 (Int32.ofInt c.2.2.2.2.1)
  | 1 => oIl pc c.2.1 c.2.2.1
  | 2 => oIs pc c.2.1 c.2.2.1
  | 3 => oInc pc c.2.1 (Int32.ofInt c.2.2.2.2.1)
  | 4 => o2 pc (fun x y => x + y)
  | 5 => o2 pc (fun x y => x - y)
  | 6 => o2 pc (fun x y => x * y)
  | 7 => o2 pc (fun x y => x &&& y)
  | 8 => o2 pc (fun x y => x ||| y)
  | 9 => o2 pc (fun x y => x ^^^ y)
  | 10 => o2 pc (fun x y => x <<< (y &&& 31))
  | 11 => o2 pc (fun x y => x >>> (y &&& 31))
  | 12 => o2 pc (fun x y => (x.toUInt32 >>> (y.toUInt32 &&& Int32.toUInt32 31)).toInt32)
  | 13 => oGo c.2.1
  | 14 => oIf pc c.2.1 (fun x => cpP c.2.2.1 x 0) (fun x => cpN c.2.2.1 x 0)
  | 15 => oCm pc c.2.1 (cpP c.2.2.1) (cpN c.2.2.1)
  | 16 => oTs c.2.2.2.2.1 c.2.2.2.2.2 c.2.1
  | 17 => oLl pc c.2.1 c.2.2.1
  | 18 => oAl pc c.2.1 c.2.2.1
  | 19 => oLs pc c.2.1 c.2.2.1
  | 20 => oAs pc c.2.1 c.2.2.1
  | 21 => o2d pc (fun x y => x / y)
  | 22 => o2d pc (fun x y => x - x / y * y)
  | 23 => o1 pc (fun x => -x)
  | 24 => o1 pc (fun x => x.toInt8.toInt32)
  | 25 => o1 pc (fun x => (x.toUInt32 % 65536).toInt32)
  | 26 => oL2 pc (fun x y => x + y)
  | 27 => oL2 pc (fun x y => x - y)
  | 28 => oL2 pc (fun x y => x * y)
  | 29 => oL2d pc (fun x y => x / y)
  | 30 => oL2d pc (fun x y => x - x / y * y)
  | 31 => oi2l pc
  | 32 => olcmp pc
  | 33 => oLc pc c.2.1 (Int64.ofInt c.2.2.2.2.1)
  | 34 => oDup pc
  | 35 => oDup2 pc
  | 36 => oPop pc
  | 37 => oG pc c.2.1 c.2.2.1 c.2.2.2.1
  | 38 => oPI pc c.2.1 c.2.2.1
  | 39 => oPZ pc c.2.1 c.2.2.1
  | 40 => oPL pc c.2.1 c.2.2.1
  | 41 => oPR pc c.2.1 c.2.2.1
  | 42 => oIal pc
  | 43 => oBal pc
  | 44 => oLal pc
  | 45 => oAal pc c.2.1
  | 46 => oIas pc
  | 47 => oBas pc
  | 48 => oLas pc
  | 49 => oSc pc c.2.1 c.2.2.1
  | 50 => oAc pc
  | 51 => oCv l X d pc (U c.2.1) c.2.2.1 c.2.2.2.1
  | 52 => oCs l X d pc (U c.2.1) c.2.2.2.1
  | 53 => oCq l X d pc (U c.2.1) c.2.2.2.1
  | 54 => oIr
  | 55 => oZr
  | 56 => oLr
  | 57 => oVr
  | 58 => oCs l X d pc (U c.2.1) 5
  | _ => fun _ _ _ _ _ => False
noncomputable def astep (P : Pk) (ms : Md3) (ps : List Po) (Ks : List Con) (cy : Nat) (pc : Nat) (c : Cd) (A : ASt) : Option (List (Nat × ASt)) := match c.1 with
  | 0 => cond (vok c.2.2.2.2.1) (aIc pc c.2.1 c.2.2.2.2.1 A) none
  | 1 => aLd 0 pc c.2.1 c.2.2.1 A
  | 2 => aSt 0 pc c.2.1 c.2.2.1 A
  | 3 => cond (vok c.2.2.2.2.1) (aInc pc c.2.1 c.2.2.2.2.1 A) none
  | 4 => aAd pc A
  | 5 => aSb pc A
  | 6 => a2 bMul pc A
  | 7 => a2 bAnd pc A
  | 8 => a2 bAny pc A
  | 9 => a2 bAny pc A
  | 10 => a2 bShl pc A
  | 11 => a2 bAny pc A
  | 12 => a2 bAny pc A
  | 13 => aGo c.2.1 A
  | 14 => aIf pc c.2.1 c.2.2.1 A
  | 15 => aCm pc c.2.1 c.2.2.1 A
  | 16 => aTs c.2.2.2.2.1 c.2.2.2.2.2 c.2.1 A
  | 17 => aLd 1 pc c.2.1 c.2.2.1 A
  | 18 => aAl pc c.2.1 c.2.2.1 A
  | 19 => aSt 1 pc c.2.1 c.2.2.1 A
  | 20 => aSt 2 pc c.2.1 c.2.2.1 A
  | 21 => a2d bDiv pc A
  | 22 => a2d bRem pc A
  | 23 => a1 pc A
  | 24 => a1 pc A
  | 25 => a1 pc A
  | 26 => aL2 pc A
  | 27 => aL2 pc A
  | 28 => aL2 pc A
  | 29 => aL2d pc A
  | 30 => aL2d pc A
  | 31 => ai2l pc A
  | 32 => alcmp pc A
  | 33 => cond (vokL c.2.2.2.2.1) (aLc pc c.2.1 c.2.2.2.2.1 A) none
  | 34 => aDup pc A
  | 35 => aDup2 pc A
  | 36 => aPop pc A
  | 37 => aG P pc c.2.1 c.2.2.1 c.2.2.2.1 A
  | 38 => aPI P ms false pc c.2.1 c.2.2.1 A
  | 39 => aPI P ms true pc c.2.1 c.2.2.1 A
  | 40 => aPL P ms pc c.2.1 c.2.2.1 A
  | 41 => aPR P ms pc c.2.1 c.2.2.1 A
  | 42 => aIal P pc 9 A
  | 43 => aIal P pc 8 A
  | 44 => aLal P pc A
  | 45 => aAal P pc c.2.1 A
  | 46 => aIas P ms pc A
  | 47 => aBas P ms pc A
  | 48 => aLas P ms pc A
  | 49 => aSc pc c.2.1 c.2.2.1 A
  | 50 => aCp P ms pc A
  | 51 => aCv P ms Ks pc c.2.1 c.2.2.1 c.2.2.2.1 A
  | 52 => aCl P ms Ks pc c.2.1 c.2.2.2.1 A
  | 53 => aCq P ms Ks pc c.2.1 c.2.2.2.1 A
  | 54 => aRt ps 0 A
  | 55 => aRt ps 1 A
  | 56 => aRt ps 2 A
  | 57 => aRt ps 3 A
  | 58 => cond (Nat.beq c.2.1 cy) (aCp P ms pc A) none
  | _ => none
section STEP9
variable {l : Launch} {X : Nat × (Nat → Int32)} {U : Nat → Md} {P : Pk} {ms : Md3} {M0 : Mm × Int} {av : List Value} {r0 : List Int} {kr : KR} {A : ASt} {L : List (Nat × ASt)} {pc d cy : Nat} {ps : List Po} {Ks : List Con}
theorem astep_ok {c : Cd} (hK : ∀ K ∈ Ks, Vc l X U P M0.2 d K) (hC : Cpy l X d (U cy)) (hr : ∀ r M', Jv P ms M0 M' → gps av r M' ps → kr r M') (he : astep P ms ps Ks cy pc c A = some L) : Sd (Jv P ms M0) av r0 kr (cop l X d U pc c) A L := by
  obtain ⟨ck, c1, c2, c3, cv, ct⟩ := c
  match ck with
  | 0 =>
    obtain ⟨h0, he⟩ := condN (show cond (vok cv) (aIc pc c1 cv A) none = some L from he)
    exact aIc_ok (v := Int32.ofInt cv) (by rw [vok_ok h0]; exact he)
  | 1 => exact aIl_ok he
  | 2 => exact aIs_ok he
  | 3 =>
    obtain ⟨h0, he⟩ := condN (show cond (vok cv) (aInc pc c1 cv A) none = some L from he)
    exact aInc_ok (v := Int32.ofInt cv) (by rw [vok_ok h0]; exact he)
  | 4 => exact aAd_ok he
  | 5 => exact aSb_ok he
  | 6 => exact a2_ok bMul_ok he
  | 7 => exact a2_ok bAnd_ok he
  | 8 => exact a2_ok bAny_ok he
  | 9 => exact a2_ok bAny_ok he
  | 10 => exact a2_ok bShl_ok he
  | 11 => exact a2_ok bAny_ok he
  | 12 => exact a2_ok bAny_ok he
  | 13 => exact aGo_ok he
  | 14 => exact aIf_ok he
  | 15 => exact aCm_ok he
  | 16 => exact aTs_ok he
  | 17 => exact aLl_ok he
  | 18 => exact aAl_ok he
  | 19 => exact aLs_ok he
  | 20 => exact aAs_ok he
  | 21 => exact a2d_ok bDiv_ok he
  | 22 => exact a2d_ok bRem_ok he
  | 23 => exact a1_ok he
  | 24 => exact a1_ok he
  | 25 => exact a1_ok he
  | 26 => exact aL2_ok he
  | 27 => exact aL2_ok he
  | 28 => exact aL2_ok he
  | 29 => exact aL2d_ok he
  | 30 => exact aL2d_ok he
  | 31 => exact ai2l_ok he
  | 32 => exact alcmp_ok he
  | 33 =>
    obtain ⟨h0, he⟩ := condN (show cond (vokL cv) (aLc pc c1 cv A) none = some L from he)
    exact aLc_ok (v := Int64.ofInt cv) (by rw [vokL_ok h0]; exact he)
  | 34 => exact aDup_ok he
  | 35 => exact aDup2_ok he
  | 36 => exact aPop_ok he
  | 37 => exact aG_ok he
  | 38 => exact aPI_ok he
  | 39 => exact aPZ_ok he
  | 40 => exact aPL_ok he
  | 41 => exact aPR_ok he
  | 42 => exact aIal_ok he
  | 43 => exact aBal_ok he
  | 44 => exact aLal_ok he
  | 45 => exact aAal_ok he
  | 46 => exact aIas_ok he
  | 47 => exact aBas_ok he
  | 48 => exact aLas_ok he
  | 49 => exact aSc_ok he
  | 50 => exact aAc_ok he
  | 51 => exact aCv_ok hK he
  | 52 => exact aCs_ok hK he
  | 53 => exact aCq_ok hK he
  | 54 => exact aIr_ok hr he
  | 55 => exact aZr_ok hr he
  | 56 => exact aLr_ok hr he
  | 57 => exact aVr_ok hr he
  | 58 =>
    obtain ⟨h0, he2⟩ := condN (show cond (Nat.beq c1 cy) (aCp P ms pc A) none = some L from he)
    have e := Nat.eq_of_beq_eq_true h0
    subst e
    exact aCy_ok hC he2
  | k + 59 => cases he
end STEP9
end
section
/-! the checker's run: n steps at most, up to the places where 'stop' speaks (a head, told apart by the state there) -/
noncomputable def run (stp : Nat → ASt → Option (List (Nat × ASt))) (stop : Nat → ASt → Option Bool) : Nat → Nat → ASt → Bool
  | 0, _, _ => false
  | n + 1, pc, A => match stp pc A with
    | some L => L.all (fun z => match stop z.1 z.2 with
      | some ok => ok
      | none => run stp stop n z.1 z.2)
    | none => false
theorem run_ok {l : Launch} {X : Nat × (Nat → Int32)} {q : Md} {d : Nat} {na : Bool} {b : Nat × Nat} {tb : List (Nat × OP)} {kr : KR} {stp : Nat → ASt → Option (List (Nat × ASt))} {stop : Nat → ASt → Option Bool} {J : Mm → Prop} {av : List Value} {r0 : List Int} (ht : ∀ x ∈ tb, OK l X q d na b x.1 x.2)
    (hS : ∀ (pc : Nat) (A : ASt) (L : List (Nat × ASt)), stp pc A = some L → Sd J av r0 kr (lo tb pc) A L)
    (hstop : ∀ (pc : Nat) (A : ASt), stop pc A = some true → ∀ ls st M, J M → gX av r0 M ls st A → Wf l X q d na b pc ls st M kr) : ∀ (n pc : Nat) (A : ASt), run stp stop n pc A = true → ∀ ls st M, J M → gX av r0 M ls st A → Wf l X q d na b pc ls st M kr
  | 0, _, _, h => by cases h
  | n + 1, pc, A, h => by
    intro ls st M hI hg
    unfold run at h
    cases hs : stp pc A with
    | none => rw [hs] at h; cases h
    | some L =>
      rw [hs] at h
      refine lo_ok ht pc (fun pc' ls' st' M' => Wf l X q d na b pc' ls' st' M' kr) kr ls st M (fun _ _ _ _ h' => h') ?_
      refine hS pc A L hs ls st M _ hI hg (fun z hz ls' st' M' hI' hg' => ?_)
      have hz2 := List.all_eq_true.mp h z hz
      cases hp : stop z.1 z.2 with
      | some ok =>
        rw [hp] at hz2
        have e : ok = true := hz2
        subst e
        exact hstop _ _ hp ls' st' M' hI' hg'
      | none =>
        rw [hp] at hz2
        exact run_ok ht hS hstop n z.1 z.2 hz2 ls' st' M' hI' hg'
/-! heads: ((pc, a symbol whose values are gone through one by one, or 0), state, where its symbols come from, rank) -/
noncomputable abbrev Lf : Type := Int × List (Nat × Int)
/-- the last: what more holds of the symbols, numbers not below 0 -/
noncomputable abbrev Hd : Type := (Nat × Nat) × ASt × List (Nat × Nat × Nat) × (Int × List (Nat × Int)) × List Lf
noncomputable def hsr (A : ASt) (s : Nat × Nat × Nat) : AV := match s.1 with
  | 0 => (ag A.1 s.2.1).getD (9, 0, 0, [])
  | 1 => (A.2.1[s.2.1]?).getD (9, 0, 0, [])
  | _ => (cgt A.2.2.2 s.2.1 s.2.2 0).getD (9, 0, 0, [])
noncomputable def hmp (h : Hd) (A : ASt) : List AV := cst 0 :: h.2.2.1.map (hsr A)
noncomputable def hrho (m : List AV) (rho : List Int) : List Int := m.map (fun u => (rho[u.2.1]?).getD 0 + u.2.2.1)
/-- w is v, the symbols being taken as m says -/
noncomputable def heq (m : List AV) (v w : AV) : Bool := Nat.beq v.1 w.1 && cond (Nat.beq v.1 2) (w.2.2.2.all (fun n => v.2.2.2.any (Nat.beq n))) (match m[v.2.1]? with
  | some u => Nat.beq w.2.1 u.2.1 && decide (w.2.2.1 = u.2.2.1 + v.2.2.1)
  | none => false)
theorem heq_ok {m : List AV} {rho : List Int} {x : Value} {v w : AV} (h : gv rho x w) (he : heq m v w = true) : gv (hrho m rho) x v := by
  obtain ⟨h1, h2⟩ := andT he
  have h1 := Nat.eq_of_beq_eq_true h1
  have num : ∀ e, rho[w.2.1]? = some e → Nat.beq v.1 2 = false → ∀ z : Int, z = e + w.2.2.1 → ∃ e', (hrho m rho)[v.2.1]? = some e' ∧ z = e' + v.2.2.1 := by
    intro e h3 h4 z h5
    rw [h4] at h2
    cases hm : m[v.2.1]? with
    | none => rw [hm] at h2; cases h2
    | some u =>
      rw [hm] at h2
      obtain ⟨h6, h7⟩ := andT h2
      have h6 := Nat.eq_of_beq_eq_true h6
      have h7 := of_decide_eq_true h7
      refine ⟨(rho[u.2.1]?).getD 0 + u.2.2.1, ?_, ?_⟩
      · unfold hrho
        rw [List.getElem?_map, hm]
        rfl
      · rw [← h6, h3]
        show z = e + u.2.2.1 + v.2.2.1
        omega
  cases x with
  | int y =>
    have h0 := h.1
    obtain ⟨e, h3, h4⟩ := h.2
    exact ⟨h1.trans h0, num e h3 (by rw [h1, h0]; rfl) _ h4⟩
  | long y =>
    have h0 := h.1
    obtain ⟨e, h3, h4⟩ := h.2
    exact ⟨h1.trans h0, num e h3 (by rw [h1, h0]; rfl) _ h4⟩
  | ref n =>
    have h0 := h.1
    rw [show Nat.beq v.1 2 = true by rw [h1, h0]; rfl] at h2
    obtain ⟨y, hy, hxy⟩ := List.any_eq_true.mp (List.all_eq_true.mp h2 n h.2)
    have exy := Nat.eq_of_beq_eq_true hxy
    subst exy
    exact ⟨h1.trans h0, hy⟩
  | _ => exact h.elim
noncomputable def hst (m : List AV) : List AV → List AV → Bool
  | [], [] => true
  | v :: t, w :: u => heq m v w && hst m t u
  | _, _ => false
theorem hst_ok {m : List AV} {rho : List Int} : ∀ {st : List Value} {vs ws : List AV}, gl rho st ws → hst m vs ws = true → gl (hrho m rho) st vs
  | [], [], [], _, _ => trivial
  | x :: t, v :: u, w :: z, h, hk => ⟨heq_ok h.1 (andT hk).1, hst_ok h.2 (andT hk).2⟩
  | [], _, _ :: _, h, _ => h.elim
  | _ :: _, _, [], h, _ => h.elim
  | [], _ :: _, [], _, hk => by cases hk
  | _ :: _, [], _ :: _, _, hk => by cases hk
/-! ranks -/
noncomputable def lin (rho : List Int) : List (Nat × Int) → Int
  | [] => 0
  | x :: t => x.2 * (rho[x.1]?).getD 0 + lin rho t
noncomputable def trl (m : List AV) : List (Nat × Int) → Int × List (Nat × Int)
  | [] => (0, [])
  | x :: t => match m[x.1]? with
    | some u => (x.2 * u.2.2.1 + (trl m t).1, (u.2.1, x.2) :: (trl m t).2)
    | none => trl m t
theorem trl_ok {m : List AV} {rho : List Int} : ∀ {L : List (Nat × Int)}, lin (hrho m rho) L = (trl m L).1 + lin rho (trl m L).2
  | [] => rfl
  | x :: t => by
    have ih := trl_ok (m := m) (rho := rho) (L := t)
    show x.2 * ((hrho m rho)[x.1]?).getD 0 + lin (hrho m rho) t = _
    cases hm : m[x.1]? with
    | none =>
      have e : (hrho m rho)[x.1]? = none := by
        unfold hrho
        rw [List.getElem?_map, hm]
        rfl
      have e2 : trl m (x :: t) = trl m t := by
        show (match m[x.1]? with
          | some u => (x.2 * u.2.2.1 + (trl m t).1, (u.2.1, x.2) :: (trl m t).2)
          | none => trl m t) = trl m t
        rw [hm]
      rw [e, e2]
      show x.2 * 0 + lin (hrho m rho) t = _
      rw [ih, Int.mul_zero, Int.zero_add]
    | some u =>
      have e : (hrho m rho)[x.1]? = some ((rho[u.2.1]?).getD 0 + u.2.2.1) := by
        unfold hrho
        rw [List.getElem?_map, hm]
        rfl
      have e2 : trl m (x :: t) = (x.2 * u.2.2.1 + (trl m t).1, (u.2.1, x.2) :: (trl m t).2) := by
        show (match m[x.1]? with
          | some u => (x.2 * u.2.2.1 + (trl m t).1, (u.2.1, x.2) :: (trl m t).2)
          | none => trl m t) = _
        rw [hm]
      rw [e, e2]
      show x.2 * ((rho[u.2.1]?).getD 0 + u.2.2.1) + lin (hrho m rho) t = x.2 * u.2.2.1 + (trl m t).1 + (x.2 * (rho[u.2.1]?).getD 0 + lin rho (trl m t).2)
      rw [ih, Int.mul_add]
      omega
noncomputable def ins1 (s : Nat) (c : Int) : List (Nat × Int) → List (Nat × Int)
  | [] => [(s, c)]
  | y :: t => cond (Nat.beq y.1 s) ((s, y.2 + c) :: t) (y :: ins1 s c t)
theorem lin_ins {rho : List Int} {s : Nat} {c : Int} : ∀ {L : List (Nat × Int)}, lin rho (ins1 s c L) = c * (rho[s]?).getD 0 + lin rho L
  | [] => rfl
  | y :: t => by
    unfold ins1
    cases hb : Nat.beq y.1 s with
    | true =>
      have e := Nat.eq_of_beq_eq_true hb
      show (y.2 + c) * (rho[s]?).getD 0 + lin rho t = c * (rho[s]?).getD 0 + (y.2 * (rho[y.1]?).getD 0 + lin rho t)
      rw [e, Int.add_mul]
      omega
    | false =>
      show y.2 * (rho[y.1]?).getD 0 + lin rho (ins1 s c t) = c * (rho[s]?).getD 0 + (y.2 * (rho[y.1]?).getD 0 + lin rho t)
      rw [lin_ins]
      omega
noncomputable def mrg : List (Nat × Int) → List (Nat × Int)
  | [] => []
  | x :: t => ins1 x.1 x.2 (mrg t)
theorem lin_mrg {rho : List Int} : ∀ {L : List (Nat × Int)}, lin rho (mrg L) = lin rho L
  | [] => rfl
  | x :: t => by
    unfold mrg
    rw [lin_ins, lin_mrg]
    rfl
theorem lin_app {rho : List Int} {K : List (Nat × Int)} : ∀ {L : List (Nat × Int)}, lin rho (L ++ K) = lin rho L + lin rho K
  | [] => (Int.zero_add _).symm
  | x :: t => by
    show x.2 * (rho[x.1]?).getD 0 + lin rho (t ++ K) = x.2 * (rho[x.1]?).getD 0 + lin rho t + lin rho K
    rw [lin_app]
    omega
noncomputable def neg1 (L : List (Nat × Int)) : List (Nat × Int) := L.map (fun x => (x.1, -x.2))
theorem lin_neg {rho : List Int} : ∀ {L : List (Nat × Int)}, lin rho (neg1 L) = - lin rho L
  | [] => rfl
  | x :: t => by
    show -x.2 * (rho[x.1]?).getD 0 + lin rho (neg1 t) = -(x.2 * (rho[x.1]?).getD 0 + lin rho t)
    rw [lin_neg, Int.neg_mul]
    omega
noncomputable def ubd (S : Sto) : List (Nat × Int) → Option Int
  | [] => some 0
  | x :: t => match S[x.1]?, ubd S t with
    | some b, some u => some ((if 0 ≤ x.2 then x.2 * b.2 else x.2 * b.1) + u)
    | _, _ => none
theorem ubd_ok {r0 rho : List Int} {S : Sto} (hs : gs r0 rho S) : ∀ {L : List (Nat × Int)} {u : Int}, ubd S L = some u → lin rho L ≤ u
  | [], u, h => by
    cases h
    exact Int.le_refl _
  | x :: t, u, h => by
    unfold ubd at h
    cases hk : S[x.1]? with
    | none => rw [hk] at h; cases h
    | some b =>
      cases hu : ubd S t with
      | none => rw [hk, hu] at h; cases h
      | some w =>
        rw [hk, hu] at h
        have ih := ubd_ok hs hu
        obtain ⟨e, h1, h2, h3⟩ := hs.2 _ b hk
        have h4 : (if 0 ≤ x.2 then x.2 * b.2 else x.2 * b.1) + w = u := Option.some.inj h
        show x.2 * (rho[x.1]?).getD 0 + lin rho t ≤ u
        rw [h1]
        show x.2 * e + lin rho t ≤ u
        split at h4
        · rename_i h5
          have := Int.mul_le_mul_of_nonneg_left h3 h5
          omega
        · rename_i h5
          have := Int.mul_le_mul_of_nonpos_left (a := x.2) (by omega) h2
          omega
/-- a number's upper bound by what holds of the symbols -/
noncomputable def ubq (S : Sto) (cs : List Lf) (u : AV) (hi : Int) : Bool := cs.any (fun q => match ubd S (mrg ((u.2.1, 1) :: q.2)) with
  | some w => decide (w + q.1 - hi + u.2.2.1 ≤ 0)
  | none => false)
noncomputable def gq (rho : List Int) (cs : List Lf) : Prop := ∀ q ∈ cs, 0 ≤ q.1 + lin rho q.2
theorem ubq_ok {r0 rho : List Int} {S : Sto} {cs : List Lf} {u : AV} {hi : Int} (hs : gs r0 rho S) (hq : gq rho cs) (h : ubq S cs u hi = true) : (rho[u.2.1]?).getD 0 + u.2.2.1 ≤ hi := by
  obtain ⟨q, hm, h1⟩ := List.any_eq_true.mp h
  cases hu : ubd S (mrg ((u.2.1, 1) :: q.2)) with
  | none => rw [hu] at h1; cases h1
  | some w =>
    rw [hu] at h1
    have h1 := of_decide_eq_true h1
    have h2 := ubd_ok hs hu
    rw [lin_mrg] at h2
    have h2 : 1 * (rho[u.2.1]?).getD 0 + lin rho q.2 ≤ w := h2
    have h3 := hq q hm
    omega
noncomputable def hbd (S : Sto) (cs : List Lf) : List AV → Sto → Bool
  | [], [] => true
  | u :: t, b :: z => (match ab S u with
    | some c => decide (b.1 ≤ c.1) && (decide (c.2 ≤ b.2) || ubq S cs u b.2)
    | none => false) && hbd S cs t z
  | _, _ => false
theorem hbd_ok {r0 rho : List Int} {S : Sto} {cs : List Lf} (hs : gs r0 rho S) (hq : gq rho cs) : ∀ {m : List AV} {T : Sto}, hbd S cs m T = true → (hrho m rho).length = T.length ∧ ∀ (k : Nat) (b : Int × Int), T[k]? = some b → ∃ e, (hrho m rho)[k]? = some e ∧ b.1 ≤ e ∧ e ≤ b.2
  | [], [], _ => ⟨rfl, fun k b h => by cases h⟩
  | [], _ :: _, h => by cases h
  | _ :: _, [], h => by cases h
  | u :: t, b :: z, h => by
    obtain ⟨h1, h2⟩ := andT h
    obtain ⟨i1, i2⟩ := hbd_ok hs hq h2
    refine ⟨by show (hrho t rho).length + 1 = z.length + 1; rw [i1], fun k c hk => ?_⟩
    cases k with
    | succ k => exact i2 k c hk
    | zero =>
      cases hk
      cases hc : ab S u with
      | none => rw [hc] at h1; cases h1
      | some c =>
        rw [hc] at h1
        obtain ⟨h3, h4⟩ := andT h1
        have h3 := of_decide_eq_true h3
        refine ⟨(rho[u.2.1]?).getD 0 + u.2.2.1, rfl, ?_⟩
        unfold ab at hc
        cases hk : S[u.2.1]? with
        | none => rw [hk] at hc; cases hc
        | some s =>
          rw [hk] at hc
          cases hc
          obtain ⟨e, h5, h6, h7⟩ := hs.2 _ s hk
          have h3 : b.1 ≤ s.1 + u.2.2.1 := h3
          refine ⟨by rw [h5]; show b.1 ≤ e + u.2.2.1; omega, ?_⟩
          rcases Bool.or_eq_true_iff.mp h4 with z | z
          · have z := of_decide_eq_true z
            have z : s.2 + u.2.2.1 ≤ b.2 := z
            rw [h5]
            show e + u.2.2.1 ≤ b.2
            omega
          · exact ubq_ok hs hq z
/-- a state is within a head's -/
noncomputable def sub (cs : List Lf) (h : Hd) (A : ASt) : Bool := h.2.1.1.all (fun x => match ag A.1 x.1 with
  | some w => heq (hmp h A) x.2 w
  | none => false) && (hst (hmp h A) h.2.1.2.1 A.2.1 && (h.2.1.2.2.2.all (fun e => match cgt A.2.2.2 e.1 e.2.1 e.2.2.1 with
    | some w => heq (hmp h A) e.2.2 w
    | none => false) && hbd A.2.2.1 cs (hmp h A) h.2.1.2.2.1))
theorem sub_ok {av : List Value} {r0 rho : List Int} {M : Mm} {ls : Ls} {st : List Value} {A : ASt} {h : Hd} {cs : List Lf} (hg : gA av r0 rho M ls st A) (hq : gq rho cs) (hk : sub cs h A = true) : gA av (hrho (hmp h A) rho) (hrho (hmp h A) rho) M ls st h.2.1 := by
  obtain ⟨h1, h2⟩ := andT hk
  obtain ⟨h2, h3⟩ := andT h2
  obtain ⟨h3, h4⟩ := andT h3
  obtain ⟨i1, i2⟩ := hbd_ok hg.1 hq h4
  refine ⟨⟨⟨i1, [], (List.append_nil _).symm⟩, i2⟩, ?_, fun x hx => ?_, hst_ok hg.2.2.2.1 h2, fun e he => ?_⟩
  · show some ((rho[0]?).getD 0 + 0) = some 0
    rw [hg.2.1]
    rfl
  · have h5 := List.all_eq_true.mp h1 x hx
    cases ha : ag A.1 x.1 with
    | none => rw [ha] at h5; cases h5
    | some w =>
      rw [ha] at h5
      obtain ⟨v, h6, h7⟩ := hg.2.2.1 _ (ag_mem ha)
      exact ⟨v, h6, heq_ok h7 h5⟩
  · have h5 := List.all_eq_true.mp h3 e he
    cases hc : cgt A.2.2.2 e.1 e.2.1 e.2.2.1 with
    | none => rw [hc] at h5; cases h5
    | some w =>
      rw [hc] at h5
      exact heq_ok (cgt_ok hg.2.2.2.2 hc).1 h5
noncomputable def rkv (h : Hd) (rho : List Int) : Int := h.2.2.2.1.1 + lin rho h.2.2.2.1.2
/-- the rank falls -/
noncomputable def rkl (lim : Option Lf) (S : Sto) (m : List AV) (h : Hd) : Bool := match lim with
  | none => true
  | some c => match ubd S (mrg ((trl m h.2.2.2.1.2).2 ++ neg1 c.2)) with
    | some u => decide (h.2.2.2.1.1 + (trl m h.2.2.2.1.2).1 - c.1 + u < 0)
    | none => false
/-- what more is to hold of the symbols of a head does: by itself, or by what held at the start -/
noncomputable def cql (cs : List Lf) (S : Sto) (m : List AV) (q : Lf) : Bool := (match ubd S (mrg (neg1 (trl m q.2).2)) with
  | some u => decide (0 ≤ q.1 + (trl m q.2).1 - u)
  | none => false) || cs.any (fun c => match ubd S (mrg (neg1 (trl m q.2).2 ++ c.2)) with
    | some u => decide (c.1 + u ≤ q.1 + (trl m q.2).1)
    | none => false)
theorem cql_ok {r0 rho : List Int} {S : Sto} {cs : List Lf} {m : List AV} {q : Lf} (hs : gs r0 rho S) (hq : gq rho cs) (h : cql cs S m q = true) : 0 ≤ q.1 + lin (hrho m rho) q.2 := by
  rw [trl_ok]
  rcases Bool.or_eq_true_iff.mp h with z | z
  · cases hu : ubd S (mrg (neg1 (trl m q.2).2)) with
    | none => rw [hu] at z; cases z
    | some u =>
      rw [hu] at z
      have z := of_decide_eq_true z
      have h2 := ubd_ok hs hu
      rw [lin_mrg, lin_neg] at h2
      omega
  · obtain ⟨c, hm, z⟩ := List.any_eq_true.mp z
    cases hu : ubd S (mrg (neg1 (trl m q.2).2 ++ c.2)) with
    | none => rw [hu] at z; cases z
    | some u =>
      rw [hu] at z
      have z := of_decide_eq_true z
      have h2 := ubd_ok hs hu
      rw [lin_mrg, lin_app, lin_neg] at h2
      have h3 := hq c hm
      omega
noncomputable def hsp (Hs : List Hd) (lim : Option Lf) (cs : List Lf) (pc : Nat) (A : ASt) : Option Bool := cond (Hs.any (fun h => Nat.beq h.1.1 pc)) (some (Hs.any (fun h => Nat.beq h.1.1 pc && (sub cs h A && (rkl lim A.2.2.1 (hmp h A) h && h.2.2.2.2.all (cql cs A.2.2.1 (hmp h A))))))) none
theorem hsp_ok {Hs : List Hd} {lim : Option Lf} {cs : List Lf} {pc : Nat} {A : ASt} (hh : hsp Hs lim cs pc A = some true) : ∃ h ∈ Hs, h.1.1 = pc ∧ sub cs h A = true ∧ rkl lim A.2.2.1 (hmp h A) h = true ∧ ∀ q ∈ h.2.2.2.2, cql cs A.2.2.1 (hmp h A) q = true := by
  unfold hsp at hh
  obtain ⟨-, h1⟩ := condN hh
  obtain ⟨h, hm, h2⟩ := List.any_eq_true.mp (Option.some.inj h1)
  obtain ⟨h3, h4⟩ := andT h2
  obtain ⟨h4, h5⟩ := andT h4
  obtain ⟨h5, h6⟩ := andT h5
  exact ⟨h, hm, Nat.eq_of_beq_eq_true h3, h4, h5, fun q hq => List.all_eq_true.mp h6 q hq⟩
noncomputable def lfo (n : Nat) (q : Lf) : Bool := q.2.all (fun x => Nat.blt x.1 n)
/-- all that is checked of a head -/
noncomputable def hrun (stp : Nat → ASt → Option (List (Nat × ASt))) (Hs : List Hd) (n : Nat) (h : Hd) : Bool := (lfo h.2.1.2.2.1.length h.2.2.2.1 && h.2.2.2.2.all (lfo h.2.1.2.2.1.length)) && ((match ubd h.2.1.2.2.1 (neg1 h.2.2.2.1.2) with
  | some u => decide (0 ≤ h.2.2.2.1.1 - u)
  | none => false) && cond (Nat.beq h.1.2 0) (run stp (hsp Hs (some h.2.2.2.1) h.2.2.2.2) n h.1.1 h.2.1) (match h.2.1.2.2.1[h.1.2]? with
    | some b => decide (0 ≤ b.1) && (jdx b.1.toNat b.2.toNat).all (fun (v : Nat) => run stp (hsp Hs (some h.2.2.2.1) h.2.2.2.2) n h.1.1 (h.2.1.1, h.2.1.2.1, nar h.2.1.2.2.1 h.1.2 (v : Int) (v : Int), h.2.1.2.2.2))
    | none => false))
theorem lin_pre {r0 t : List Int} : ∀ {L : List (Nat × Int)}, (∀ x ∈ L, x.1 < r0.length) → lin (r0 ++ t) L = lin r0 L
  | [], _ => rfl
  | x :: u, h => by
    show x.2 * ((r0 ++ t)[x.1]?).getD 0 + lin (r0 ++ t) u = x.2 * (r0[x.1]?).getD 0 + lin r0 u
    rw [List.getElem?_append_left (h x List.mem_cons_self), lin_pre (fun y hy => h y (List.mem_cons_of_mem _ hy))]
theorem lfo_pre {r0 rho : List Int} {S : Sto} {q : Lf} {n : Nat} (hs : gs r0 rho S) (hl : r0.length = n) (h : lfo n q = true) : lin rho q.2 = lin r0 q.2 := by
  obtain ⟨t, ht⟩ := hs.1.2
  rw [ht]
  refine lin_pre (fun x hx => ?_)
  rw [hl]
  exact Nat.le_of_ble_eq_true (List.all_eq_true.mp h x hx)
section HEADS
variable {l : Launch} {X : Nat × (Nat → Int32)} {q : Md} {d : Nat} {na : Bool} {b : Nat × Nat} {tb : List (Nat × OP)} {kr : KR} {stp : Nat → ASt → Option (List (Nat × ASt))} {J : Mm → Prop} {av : List Value} {Hs : List Hd} {fuel : Nat}
theorem heads_ok (ht : ∀ x ∈ tb, OK l X q d na b x.1 x.2) (hS : ∀ (r0 : List Int) (pc : Nat) (A : ASt) (L : List (Nat × ASt)), stp pc A = some L → Sd J av r0 kr (lo tb pc) A L) (hall : ∀ h ∈ Hs, hrun stp Hs fuel h = true) : ∀ (n : Nat) (h : Hd), h ∈ Hs → ∀ rho ls st M, J M → gA av rho rho M ls st h.2.1 → gq rho h.2.2.2.2 → (rkv h rho).toNat < n → Wf l X q d na b h.1.1 ls st M kr := by
  intro n
  induction n with
  | zero => intro h hm rho ls st M hJ hg hq hr; exact absurd hr (Nat.not_lt_zero _)
  | succ n ih =>
    intro h hm rho ls st M hJ hg hq hr
    obtain ⟨c1, c2⟩ := andT (hall h hm)
    obtain ⟨c1, c0⟩ := andT c1
    obtain ⟨c2, c3⟩ := andT c2
    have hlen : rho.length = h.2.1.2.2.1.length := hg.1.1.1
    have hstop : ∀ (pc : Nat) (A : ASt), hsp Hs (some h.2.2.2.1) h.2.2.2.2 pc A = some true → ∀ ls st M, J M → gX av rho M ls st A → Wf l X q d na b pc ls st M kr := by
      intro pc A hh ls st M hJ hg2
      obtain ⟨h', hm', e1, h1, h2, h3⟩ := hsp_ok hh
      subst e1
      obtain ⟨rho2, hg2⟩ := hg2
      have hq2 : gq rho2 h.2.2.2.2 := by
        intro x hx
        rw [lfo_pre hg2.1 hlen (List.all_eq_true.mp c0 x hx)]
        exact hq x hx
      have g := sub_ok hg2 hq2 h1
      refine ih h' hm' _ ls st M hJ g (fun x hx => cql_ok hg2.1 hq2 (h3 x hx)) ?_
      have e3 : lin rho2 h.2.2.2.1.2 = lin rho h.2.2.2.1.2 := lfo_pre hg2.1 hlen c1
      obtain ⟨d1, d2⟩ := andT (hall h' hm')
      obtain ⟨d2, d3⟩ := andT d2
      have lower : 0 ≤ rkv h' (hrho (hmp h' A) rho2) := by
        cases hu : ubd h'.2.1.2.2.1 (neg1 h'.2.2.2.1.2) with
        | none => rw [hu] at d2; cases d2
        | some u =>
          rw [hu] at d2
          have d2 := of_decide_eq_true d2
          have := ubd_ok g.1 hu
          rw [lin_neg] at this
          unfold rkv
          omega
      have less : rkv h' (hrho (hmp h' A) rho2) < rkv h rho := by
        unfold rkl at h2
        dsimp only at h2
        cases hu : ubd A.2.2.1 (mrg ((trl (hmp h' A) h'.2.2.2.1.2).2 ++ neg1 h.2.2.2.1.2)) with
        | none => rw [hu] at h2; cases h2
        | some u =>
          rw [hu] at h2
          have h2 := of_decide_eq_true h2
          have := ubd_ok hg2.1 hu
          rw [lin_mrg, lin_app, lin_neg, e3] at this
          unfold rkv
          rw [trl_ok]
          omega
      omega
    cases hs : Nat.beq h.1.2 0 with
    | true =>
      rw [hs] at c3
      exact run_ok ht (hS rho) hstop fuel h.1.1 h.2.1 c3 ls st M hJ ⟨rho, hg⟩
    | false =>
      rw [hs] at c3
      cases hb : h.2.1.2.2.1[h.1.2]? with
      | none => rw [hb] at c3; cases c3
      | some bb =>
        rw [hb] at c3
        obtain ⟨c4, c5⟩ := andT c3
        have c4 := of_decide_eq_true c4
        obtain ⟨e, e1, e2, e3⟩ := hg.1.2 _ bb hb
        have c6 := List.all_eq_true.mp c5 e.toNat (jdx_ok (by omega) (by omega))
        have e4 : ((e.toNat : Nat) : Int) = e := by omega
        rw [e4] at c6
        exact run_ok ht (hS rho) hstop fuel h.1.1 _ c6 ls st M hJ ⟨rho, gs_nar hg.1 e1 (Int.le_refl _) (Int.le_refl _), hg.2.1, hg.2.2.1, hg.2.2.2.1, hg.2.2.2.2⟩
/-- from a state: a run up to the heads -/
theorem from_ok (ht : ∀ x ∈ tb, OK l X q d na b x.1 x.2) (hS : ∀ (r0 : List Int) (pc : Nat) (A : ASt) (L : List (Nat × ASt)), stp pc A = some L → Sd J av r0 kr (lo tb pc) A L) (hall : ∀ h ∈ Hs, hrun stp Hs fuel h = true) {pc : Nat} {A : ASt} (hr : run stp (hsp Hs none []) fuel pc A = true) {r0 : List Int} {ls : Ls} {st : List Value} {M : Mm} (hJ : J M) (hg : gX av r0 M ls st A) : Wf l X q d na b pc ls st M kr := by
  refine run_ok ht (hS r0) (fun pc A hh ls st M hJ hg2 => ?_) fuel pc A hr ls st M hJ hg
  obtain ⟨h', hm', e1, h1, h2, h3⟩ := hsp_ok hh
  subst e1
  obtain ⟨rho2, hg2⟩ := hg2
  have hq : gq rho2 [] := fun x hx => absurd hx List.not_mem_nil
  exact heads_ok ht hS hall ((rkv h' (hrho (hmp h' A) rho2)).toNat + 1) h' hm' _ ls st M hJ (sub_ok hg2 hq h1) (fun x hx => cql_ok hg2.1 hq (h3 x hx)) (Nat.lt_succ_self _)
end HEADS
end
section
section OFF
variable {l : Launch} {X : Nat × (Nat → Int32)} {q : Md} {d : Nat} {na : Bool} {pc : Nat}
/-- a method of the JDK -/
theorem Ev.ofF {mc ms : Nat} {av : List Value} {M : Mm} {kr : KR} (hp : plainFor q.1 = true) (hlen : (lg_sl av).length ≤ q.2.2.1) (h : Wf l X q d na (mC M + mc, mS M + ms) 0 (lv_args 0 av) [] M kr) : Ev l X q d na mc ms av M kr := by
  intro D g ad A
  refine va_MetF (cc := q.2.1) (maxL := q.2.2.1) (ret := q.2.2.2) hp rfl ?_
  intro p e s m args below meth c s₁ B hml hv
  obtain ⟨rfl, hP, hD, hA, hk, hn, hs⟩ := hv
  have hlocks := B.notSynchronized
  have hts := atoms_spec (ws := wz q) B.pre
  have hf : fx X q p s m (av.map (iv ad)).toArray meth c D g ad A := ⟨B.exec, B.bytes, hml, B.returns, hlocks, findClass_of_methodNamed B.named, (name_of_methodNamed B.named B.method).1, fun w hw => hts w (List.mem_cons_of_mem _ hw), hA, hs⟩
  have hl := lv_entry (av.map (iv ad)) (n := q.2.2.1) (by rw [sl_len]; exact hlen)
  rw [lg_entry_eq]
  rw [lv_args_iv] at hl
  generalize (lg_sl (av.map (iv ad)) ++ List.replicate (q.2.2.1 - (lg_sl (av.map (iv ad))).length) Slot.unset).toArray = la at hl ⊢
  have hW := h p e (headSpec (wz q) (rz d mc ms)).room s m (av.map (iv ad)).toArray below meth c (MQ below (qz D g ad A na M kr) (av.map (iv ad)).toArray s mc ms A) D g ad A (mN M) M.1 (mC M) (mS M) ad s.heap [] la hf (Nat.le_refl d) (Nat.le_refl _) (Nat.le_of_eq (Nat.add_comm _ _)) (Nat.le_of_eq (Nat.add_comm _ _)) (Nat.le_refl _) (Nat.le_refl _) (Nat.le_add_right _ _) (Nat.le_add_right _ _) ⟨hP, hD, va_S.rf, hk, Nat.le_refl _, hn, fun _ _ => rfl, fun _ => ⟨rfl, rfl⟩⟩ hl ?_
  · rw [Nat.sub_self, Nat.sub_self] at hW
    exact hW
  · intro pc' r M' ad' H' locs' la' hkr hr h1 h2 h3 h4 ht
    obtain ⟨r1, r2, r3, r4, r5, r6, r7, r8⟩ := hr
    have hq : ∀ t : State, t.heap = H' → s.WarmedH t.vm → qz D g ad A na M kr (av.map (iv ad)).toArray s (.returned (r.map (iv ad'))) t := fun t e1 _ => ⟨r, M', ad', rfl, hkr, r8, r7, r5, r6, r4, by rw [e1]; exact r1, r2, r3.F e1⟩
    have w3 : mC M' ≤ mC M + mc := h3
    have w4 : mS M' ≤ mS M + ms := h4
    refine W.widen (k := mc) (n := ms) (by omega) (by omega) ?_
    rcases ht with ⟨v, ty, rfl, e1, e2, e3⟩ | ⟨v, rfl, e1, e3⟩ | ⟨rfl, e1, e3⟩
    · exact W.zret B.exec B.bytes (B.returns.trans e1) e2 hq r3.2.2 e3 hlocks
    · exact W.lret B.exec B.bytes (B.returns.trans e1) hq r3.2.2 e3 hlocks
    · exact W.vret B.exec B.bytes (B.returns.trans e1) hq r3.2.2 e3 hlocks
end OFF
/-! a method's check -/
noncomputable def eav (b : AB) (s : Nat) : AV := cond (Nat.beq b.1 2) (2, 0, 0, b.2.2.2) (b.1, s, 0, [])
noncomputable def entL : List AB → Nat → Nat → List (Nat × AV)
  | [], _, _ => []
  | b :: t, i, j => (i, eav b (j + 1)) :: (1000 + j, eav b (j + 1)) :: entL t (i + cond (Nat.beq b.1 1) 2 1) (j + 1)
noncomputable def entS (bs : List AB) : Sto := (0, 0) :: bs.map (fun b => cond (Nat.beq b.1 2) (0, 0) (b.2.1, b.2.2.1))
noncomputable def slb : List AB → Nat
  | [] => 0
  | b :: t => cond (Nat.beq b.1 1) 2 1 + slb t
theorem eav_ok {rho : List Int} {v : Value} {b : AB} {s : Nat} (h : gb v b) (hr : rho[s]? = some (vN v)) : gv rho v (eav b s) := by
  unfold eav
  cases v with
  | int x =>
    have h1 := h.1
    rw [h1]
    exact ⟨rfl, _, hr, by show x.toInt = x.toInt + 0; omega⟩
  | long x =>
    have h1 := h.1
    rw [h1]
    exact ⟨rfl, _, hr, by show x.toInt = x.toInt + 0; omega⟩
  | ref n =>
    have h1 := h.1
    rw [h1]
    exact ⟨rfl, h.2⟩
  | _ => exact h.elim
theorem gb_cat {v : Value} {b : AB} (h : gb v b) : v.category = cond (Nat.beq b.1 1) 2 1 := by
  cases v with
  | int x => have h1 := h.1; rw [h1]; rfl
  | long x => have h1 := h.1; rw [h1]; rfl
  | ref n => have h1 := h.1; rw [h1]; rfl
  | _ => exact h.elim
theorem lg_args_ge : ∀ {vs : List Value} {i k : Nat} {w : Value}, lg (lv_args i vs) k = some w → i ≤ k
  | [], i, k, w, h => by cases h
  | v :: t, i, k, w, h => by
    have h : cond (Nat.beq i k) (some v) (lg (lv_args (if v.category = 2 then i + 2 else i + 1) t) k) = some w := h
    cases hb : Nat.beq i k with
    | true => exact Nat.le_of_eq (Nat.eq_of_beq_eq_true hb)
    | false =>
      rw [hb] at h
      have := lg_args_ge (vs := t) h
      split at this <;> omega
theorem ent_ok {av : List Value} {rho : List Int} {ls : Ls} : ∀ {bs : List AB} {vs : List Value} {i j : Nat}, gbs vs bs → i + slb bs ≤ 900 → (∀ k, av[j + k]? = vs[k]?) → (∀ k v, vs[k]? = some v → rho[j + 1 + k]? = some (vN v)) → (∀ k w, lg (lv_args i vs) k = some w → lg ls k = some w) → gm av rho ls (entL bs i j)
  | [], [], _, _, _, _, _, _, _ => fun x hx => absurd hx List.not_mem_nil
  | [], _ :: _, _, _, h, _, _, _, _ => h.elim
  | _ :: _, [], _, _, h, _, _, _, _ => h.elim
  | b :: bs, v :: vs, i, j, h, hl, ha, hr, hs => by
    have hl : i + (cond (Nat.beq b.1 1) 2 1 + slb bs) ≤ 900 := hl
    have hc := gb_cat h.1
    have hrv := hr 0 v rfl
    have hgv := eav_ok (s := j + 1) h.1 hrv
    intro x hx
    rcases List.mem_cons.mp hx with e | hx
    · subst e
      refine ⟨v, ?_, hgv⟩
      unfold lz
      rw [show Nat.blt i 999 = true from Nat.ble_eq_true_of_le (by omega)]
      refine hs i v ?_
      show cond (Nat.beq i i) (some v) _ = some v
      rw [beq_self]
      rfl
    · rcases List.mem_cons.mp hx with e | hx
      · subst e
        refine ⟨v, ?_, hgv⟩
        unfold lz
        rw [show Nat.blt (1000 + j) 999 = false from by
          cases hq : Nat.blt (1000 + j) 999 with
          | false => rfl
          | true =>
            have : 1000 + j < 999 := Nat.le_of_ble_eq_true hq
            omega]
        show av[1000 + j - 1000]? = some v
        rw [show 1000 + j - 1000 = j + 0 by omega, ha 0]
        rfl
      · refine ent_ok (bs := bs) (vs := vs) h.2 (by omega) (fun k => ?_) (fun k w hk => ?_) (fun k w hk => ?_) x hx
        · rw [show j + 1 + k = j + (k + 1) by omega, ha (k + 1)]
          rfl
        · rw [show j + 1 + 1 + k = j + 1 + (k + 1) by omega]
          exact hr (k + 1) w hk
        · refine hs k w ?_
          have hge := lg_args_ge hk
          have e0 : (if v.category = 2 then i + 2 else i + 1) = i + cond (Nat.beq b.1 1) 2 1 := by
            rw [hc]
            cases Nat.beq b.1 1 <;> rfl
          show cond (Nat.beq i k) (some v) (lg (lv_args (if v.category = 2 then i + 2 else i + 1) vs) k) = some w
          rw [e0, show Nat.beq i k = false from by
            cases hq : Nat.beq i k with
            | false => rfl
            | true =>
              have := Nat.eq_of_beq_eq_true hq
              cases hz : Nat.beq b.1 1 <;> rw [hz] at hge <;> simp at hge <;> omega]
          exact hk
theorem slb_ok : ∀ {vs : List Value} {bs : List AB}, gbs vs bs → (lg_sl vs).length = slb bs
  | [], [], _ => rfl
  | [], _ :: _, h => h.elim
  | _ :: _, [], h => h.elim
  | v :: t, b :: u, h => by
    have ih := slb_ok h.2
    have hc := gb_cat h.1
    show (((if v.category = 2 then [Slot.val v, Slot.second] else [Slot.val v])) ++ lg_sl t).length = cond (Nat.beq b.1 1) 2 1 + slb u
    rw [List.length_append, ih, hc]
    cases Nat.beq b.1 1 <;> rfl
noncomputable def lkc : List (Nat × Cd) → Nat → Option Cd
  | [], _ => none
  | x :: t, pc => cond (Nat.beq x.1 pc) (some x.2) (lkc t pc)
noncomputable def ctb (l : Launch) (X : Nat × (Nat → Int32)) (d : Nat) (U : Nat → Md) (cd : List (Nat × Cd)) : List (Nat × OP) := cd.map (fun x => (x.1, cop l X d U x.1 x.2))
theorem lo_ctb {l : Launch} {X : Nat × (Nat → Int32)} {d : Nat} {U : Nat → Md} {pc : Nat} {c : Cd} : ∀ {cd : List (Nat × Cd)}, lkc cd pc = some c → lo (ctb l X d U cd) pc = cop l X d U pc c
  | [], h => by cases h
  | x :: t, h => by
    unfold lkc at h
    show cond (Nat.beq x.1 pc) (cop l X d U x.1 x.2) (lo (ctb l X d U t) pc) = _
    cases hb : Nat.beq x.1 pc with
    | true =>
      rw [hb] at h
      have e1 := Nat.eq_of_beq_eq_true hb
      have e2 : x.2 = c := Option.some.inj h
      rw [e1, e2]
      rfl
    | false =>
      rw [hb] at h
      exact lo_ctb h
noncomputable def stpc (P : Pk) (ms : Md3) (ps : List Po) (Ks : List Con) (cy : Nat) (cd : List (Nat × Cd)) (pc : Nat) (A : ASt) : Option (List (Nat × ASt)) := match lkc cd pc with
  | some c => astep P ms ps Ks cy pc c A
  | none => none
noncomputable def ent (K : Con) : ASt := afs (entL K.1.2.1 0 0, [], entS K.1.2.1, []) K.1.2.2
noncomputable def chk (P : Pk) (Ks : List Con) (cy : Nat) (cd : List (Nat × Cd)) (nl fuel : Nat) (K : Con) (Hs : List Hd) : Bool := Nat.ble (slb K.1.2.1) nl && (Nat.ble (slb K.1.2.1) 900 && (run (stpc P K.2.1 K.2.2 Ks cy cd) (hsp Hs none []) fuel 0 (ent K) && Hs.all (hrun (stpc P K.2.1 K.2.2 Ks cy cd) Hs fuel)))
section CHK
variable {l : Launch} {X : Nat × (Nat → Int32)} {U : Nat → Md} {P : Pk} {Ks : List Con} {cy : Nat} {cd : List (Nat × Cd)} {nl fuel dd d : Nat} {K : Con} {Hs : List Hd} {e : Int}
theorem stpc_ok {ms : Md3} {ps : List Po} {M0 : Mm × Int} {av : List Value} {kr : KR} (hK : ∀ K ∈ Ks, Vc l X U P M0.2 d K) (hC : Cpy l X d (U cy)) (hr : ∀ r M', Jv P ms M0 M' → gps av r M' ps → kr r M') (r0 : List Int) (pc : Nat) (A : ASt) (L : List (Nat × ASt)) (he : stpc P ms ps Ks cy cd pc A = some L) : Sd (Jv P ms M0) av r0 kr (lo (ctb l X d U cd) pc) A L := by
  unfold stpc at he
  cases hc : lkc cd pc with
  | none => rw [hc] at he; cases he
  | some c =>
    rw [hc] at he
    rw [lo_ctb hc]
    exact astep_ok hK hC hr he
theorem ent_in {av : List Value} {M : Mm} (hs : slb K.1.2.1 ≤ 900) (hb : gbs av K.1.2.1) (hf : ∀ f ∈ K.1.2.2, gf M f) : gX av [] M (lv_args 0 av) [] (ent K) := by
  refine afs_ok ?_ hf
  refine ⟨0 :: av.map vN, ⟨⟨?_, 0 :: av.map vN, rfl⟩, ?_⟩, rfl, ?_, trivial, fun e he => absurd he List.not_mem_nil⟩
  · have : ∀ {vs : List Value} {bs : List AB}, gbs vs bs → vs.length = bs.length := by
      intro vs
      induction vs with
      | nil => intro bs h; cases bs with
        | nil => rfl
        | cons _ _ => exact h.elim
      | cons v t ih => intro bs h; cases bs with
        | nil => exact h.elim
        | cons b u => show t.length + 1 = u.length + 1; rw [ih h.2]
    show (0 :: av.map vN).length = ((0, 0) :: K.1.2.1.map _).length
    simp [this hb]
  · intro k b hk
    cases k with
    | zero => cases hk; exact ⟨0, rfl, Int.le_refl _, Int.le_refl _⟩
    | succ k =>
      have hk : (K.1.2.1.map (fun b => cond (Nat.beq b.1 2) ((0 : Int), (0 : Int)) (b.2.1, b.2.2.1)))[k]? = some b := hk
      show ∃ e, (av.map vN)[k]? = some e ∧ _
      have key : ∀ {vs : List Value} {bs : List AB} {k : Nat}, gbs vs bs → (bs.map (fun b => cond (Nat.beq b.1 2) ((0 : Int), (0 : Int)) (b.2.1, b.2.2.1)))[k]? = some b → ∃ e, (vs.map vN)[k]? = some e ∧ b.1 ≤ e ∧ e ≤ b.2 := by
        intro vs
        induction vs with
        | nil => intro bs k h hk; cases bs with
          | nil => cases hk
          | cons _ _ => exact h.elim
        | cons v t ih => intro bs k h hk; cases bs with
          | nil => exact h.elim
          | cons c u =>
            cases k with
            | succ k => exact ih h.2 hk
            | zero =>
              have hk : some (cond (Nat.beq c.1 2) ((0 : Int), (0 : Int)) (c.2.1, c.2.2.1)) = some b := hk
              have hk := Option.some.inj hk
              refine ⟨vN v, rfl, ?_⟩
              have h1 := h.1
              cases v with
              | int x => rw [show Nat.beq c.1 2 = false by rw [h1.1]; rfl] at hk; rw [← hk]; exact h1.2
              | long x => rw [show Nat.beq c.1 2 = false by rw [h1.1]; rfl] at hk; rw [← hk]; exact h1.2
              | ref n => rw [show Nat.beq c.1 2 = true by rw [h1.1]; rfl] at hk; rw [← hk]; exact ⟨Int.le_refl _, Int.le_refl _⟩
              | _ => exact h1.elim
      exact key hb hk
  · refine ent_ok hb (by omega) (fun k => by rw [Nat.zero_add]) (fun k v hk => ?_) (fun k w hk => hk)
    rw [show 0 + 1 + k = k + 1 by omega]
    show (av.map vN)[k]? = some (vN v)
    rw [List.getElem?_map, hk]
    rfl
theorem ck_wf {na : Bool} {b : Nat × Nat} (ht : ∀ x ∈ ctb l X d U cd, OK l X (U K.1.1) dd na b x.1 x.2) (hK : ∀ K ∈ Ks, Vc l X U P e d K) (hC : Cpy l X d (U cy)) (h : chk P Ks cy cd nl fuel K Hs = true) {av : List Value} {M : Mm} {kr : KR} (hI : Iv P M) (he : eO e M) (hb : gbs av K.1.2.1) (hf : ∀ f ∈ K.1.2.2, gf M f) (hr : ∀ r M', Jv P K.2.1 (M, e) M' → gps av r M' K.2.2 → kr r M') : slb K.1.2.1 ≤ nl ∧ Wf l X (U K.1.1) dd na b 0 (lv_args 0 av) [] M kr := by
  obtain ⟨h1, h2⟩ := andT h
  obtain ⟨h2, h3⟩ := andT h2
  obtain ⟨h3, h4⟩ := andT h3
  exact ⟨Nat.le_of_ble_eq_true h1, from_ok ht (stpc_ok (M0 := (M, e)) hK hC hr) (fun x hx => List.all_eq_true.mp h4 x hx) h3 (Jv.rf hI he) (ent_in (Nat.le_of_ble_eq_true h2) hb hf)⟩
theorem ck (hp : plainName (U K.1.1).1.cls = true) (hq : (U K.1.1).2.2.1 = nl) (ht : ∀ (na : Bool) (b : Nat × Nat), ∀ x ∈ ctb l X d U cd, OK l X (U K.1.1) dd na b x.1 x.2) (hK : ∀ K ∈ Ks, Vc l X U P e d K) (hC : Cpy l X d (U cy)) (h : chk P Ks cy cd nl fuel K Hs = true) : Vc l X U P e dd K := by
  intro av M kr hI he hb hf hr
  obtain ⟨h1, h2⟩ := ck_wf (ht true (mC M + 0, mS M + 0)) hK hC h hI he hb hf hr
  exact Ev.of hp (by rw [slb_ok hb, hq]; exact h1) h2
end CHK
end
section
/-! a faster check: operations by trees, codes found by halving -/
noncomputable def afst0 (P : Pk) (ms : Md3) (ps : List Po) (Ks : List Con) (cy : Nat) (pc : Nat) (c : Cd) (A : ASt) : Option (List (Nat × ASt)) := cond (Nat.ble c.1 3) (cond (Nat.ble c.1 1) (cond (Nat.ble c.1 0) (cond (vok c.2.2.2.2.1) (aIc pc c.2.1 c.2.2.2.2.1 A) none) (aLd 0 pc c.2.1 c.2.2.1 A)) (cond (Nat.ble c.1 2) (aSt 0 pc c.2.1 c.2.2.1 A) (cond (vok c.2.2.2.2.1) (aInc pc c.2.1 c.2.2.2.2.1 A) none))) (cond (Nat.ble c.1 5) (cond (Nat.ble c.1 4) (aAd pc A) (aSb pc A)) (cond (Nat.ble c.1 6) (a2 bMul pc A) (a2 bAnd pc A)))
noncomputable def afst1 (P : Pk) (ms : Md3) (ps : List Po) (Ks : List Con) (cy : Nat) (pc : Nat) (c : Cd) (A : ASt) : Option (List (Nat × ASt)) := cond (Nat.ble c.1 11) (cond (Nat.ble c.1 9) (cond (Nat.ble c.1 8) (a2 bAny pc A) (a2 bAny pc A)) (cond (Nat.ble c.1 10) (a2 bShl pc A) (a2 bAny pc A))) (cond (Nat.ble c.1 13) (cond (Nat.ble c.1 12) (a2 bAny pc A) (aGo c.2.1 A)) (cond (Nat.ble c.1 14) (aIf pc c.2.1 c.2.2.1 A) (aCm pc c.2.1 c.2.2.1 A)))
noncomputable def afst2 (P : Pk) (ms : Md3) (ps : List Po) (Ks : List Con) (cy : Nat) (pc : Nat) (c : Cd) (A : ASt) : Option (List (Nat × ASt)) := cond (Nat.ble c.1 19) (cond (Nat.ble c.1 17) (cond (Nat.ble c.1 16) (aTs c.2.2.2.2.1 c.2.2.2.2.2 c.2.1 A) (aLd 1 pc c.2.1 c.2.2.1 A)) (cond (Nat.ble c.1 18) (aAl pc c.2.1 c.2.2.1 A) (aSt 1 pc c.2.1 c.2.2.1 A))) (cond (Nat.ble c.1 21) (cond (Nat.ble c.1 20) (aSt 2 pc c.2.1 c.2.2.1 A) (a2d bDiv pc A)) (cond (Nat.ble c.1 22) (a2d bRem pc A) (a1 pc A)))
noncomputable def afst3 (P : Pk) (ms : Md3) (ps : List Po) (Ks : List Con) (cy : Nat) (pc : Nat) (c : Cd) (A : ASt) : Option (List (Nat × ASt)) := cond (Nat.ble c.1 27) (cond (Nat.ble c.1 25) (cond (Nat.ble c.1 24) (a1 pc A) (a1 pc A)) (cond (Nat.ble c.1 26) (aL2 pc A) (aL2 pc A))) (cond (Nat.ble c.1 29) (cond (Nat.ble c.1 28) (aL2 pc A) (aL2d pc A)) (cond (Nat.ble c.1 30) (aL2d pc A) (ai2l pc A)))
noncomputable def afst4 (P : Pk) (ms : Md3) (ps : List Po) (Ks : List Con) (cy : Nat) (pc : Nat) (c : Cd) (A : ASt) : Option (List (Nat × ASt)) := cond (Nat.ble c.1 35) (cond (Nat.ble c.1 33) (cond (Nat.ble c.1 32) (alcmp pc A) (cond (vokL c.2.2.2.2.1) (aLc pc c.2.1 c.2.2.2.2.1 A) none)) (cond (Nat.ble c.1 34) (aDup pc A) (aDup2 pc A))) (cond (Nat.ble c.1 37) (cond (Nat.ble c.1 36) (aPop pc A) (aG P pc c.2.1 c.2.2.1 c.2.2.2.1 A)) (cond (Nat.ble c.1 38) (aPI P ms false pc c.2.1 c.2.2.1 A) (aPI P ms true pc c.2.1 c.2.2.1 A)))
noncomputable def afst5 (P : Pk) (ms : Md3) (ps : List Po) (Ks : List Con) (cy : Nat) (pc : Nat) (c : Cd) (A : ASt) : Option (List (Nat × ASt)) := cond (Nat.ble c.1 43) (cond (Nat.ble c.1 41) (cond (Nat.ble c.1 40) (aPL P ms pc c.2.1 c.2.2.1 A) (aPR P ms pc c.2.1 c.2.2.1 A)) (cond (Nat.ble c.1 42) (aIal P pc 9 A) (aIal P pc 8 A))) (cond (Nat.ble c.1 45) (cond (Nat.ble c.1 44) (aLal P pc A) (aAal P pc c.2.1 A)) (cond (Nat.ble c.1 46) (aIas P ms pc A) (aBas P ms pc A)))
noncomputable def afst6 (P : Pk) (ms : Md3) (ps : List Po) (Ks : List Con) (cy : Nat) (pc : Nat) (c : Cd) (A : ASt) : Option (List (Nat × ASt)) := cond (Nat.ble c.1 51) (cond (Nat.ble c.1 49) (cond (Nat.ble c.1 48) (aLas P ms pc A) (aSc pc c.2.1 c.2.2.1 A)) (cond (Nat.ble c.1 50) (aCp P ms pc A) (aCv P ms Ks pc c.2.1 c.2.2.1 c.2.2.2.1 A))) (cond (Nat.ble c.1 53) (cond (Nat.ble c.1 52) (aCl P ms Ks pc c.2.1 c.2.2.2.1 A) (aCq P ms Ks pc c.2.1 c.2.2.2.1 A)) (cond (Nat.ble c.1 54) (aRt ps 0 A) (aRt ps 1 A)))
noncomputable def afst7 (P : Pk) (ms : Md3) (ps : List Po) (Ks : List Con) (cy : Nat) (pc : Nat) (c : Cd) (A : ASt) : Option (List (Nat × ASt)) := cond (Nat.ble c.1 56) (aRt ps 2 A) (cond (Nat.ble c.1 57) (aRt ps 3 A) (cond (Nat.beq c.2.1 cy) (aCp P ms pc A) none))
noncomputable def afst (P : Pk) (ms : Md3) (ps : List Po) (Ks : List Con) (cy : Nat) (pc : Nat) (c : Cd) (A : ASt) : Option (List (Nat × ASt)) := cond (Nat.ble c.1 58) (cond (Nat.ble c.1 31) (cond (Nat.ble c.1 15) (cond (Nat.ble c.1 7) (afst0 P ms ps Ks cy pc c A) (afst1 P ms ps Ks cy pc c A)) (cond (Nat.ble c.1 23) (afst2 P ms ps Ks cy pc c A) (afst3 P ms ps Ks cy pc c A))) (cond (Nat.ble c.1 47) (cond (Nat.ble c.1 39) (afst4 P ms ps Ks cy pc c A) (afst5 P ms ps Ks cy pc c A)) (cond (Nat.ble c.1 55) (afst6 P ms ps Ks cy pc c A) (afst7 P ms ps Ks cy pc c A)))) none
section FST9
variable {l : Launch} {X : Nat × (Nat → Int32)} {U : Nat → Md} {P : Pk} {ms : Md3} {A : ASt} {pc cy : Nat} {ps : List Po} {Ks : List Con}
theorem afst_eq {c : Cd} : afst P ms ps Ks cy pc c A = astep P ms ps Ks cy pc c A := by
  obtain ⟨ck, c1, c2, c3, cv, ct⟩ := c
  match ck with
  | 0 => rfl
  | 1 => rfl
  | 2 => rfl
  | 3 => rfl
  | 4 => rfl
  | 5 => rfl
  | 6 => rfl
  | 7 => rfl
  | 8 => rfl
  | 9 => rfl
  | 10 => rfl
  | 11 => rfl
  | 12 => rfl
  | 13 => rfl
  | 14 => rfl
  | 15 => rfl
  | 16 => rfl
  | 17 => rfl
  | 18 => rfl
  | 19 => rfl
  | 20 => rfl
  | 21 => rfl
  | 22 => rfl
  | 23 => rfl
  | 24 => rfl
  | 25 => rfl
  | 26 => rfl
  | 27 => rfl
  | 28 => rfl
  | 29 => rfl
  | 30 => rfl
  | 31 => rfl
  | 32 => rfl
  | 33 => rfl
  | 34 => rfl
  | 35 => rfl
  | 36 => rfl
  | 37 => rfl
  | 38 => rfl
  | 39 => rfl
  | 40 => rfl
  | 41 => rfl
  | 42 => rfl
  | 43 => rfl
  | 44 => rfl
  | 45 => rfl
  | 46 => rfl
  | 47 => rfl
  | 48 => rfl
  | 49 => rfl
  | 50 => rfl
  | 51 => rfl
  | 52 => rfl
  | 53 => rfl
  | 54 => rfl
  | 55 => rfl
  | 56 => rfl
  | 57 => rfl
  | 58 => rfl
  | k + 59 =>
    have hb : Nat.ble (k + 59) 58 = false := by
      cases q : Nat.ble (k + 59) 58 with
      | false => rfl
      | true =>
        have := Nat.le_of_ble_eq_true q
        omega
    show cond (Nat.ble (k + 59) 58) _ none = _
    rw [hb]
    rfl
end FST9
noncomputable def hkc : List (Nat × Cd) → Nat
  | [] => 0
  | x :: _ => x.1
/-- the code at a place, found by halving f times -/
noncomputable def bld (f : Nat) : Nat → List (Nat × Cd) → Nat → Option Cd := Nat.rec (motive := fun _ => Nat → List (Nat × Cd) → Nat → Option Cd) (fun _ cd pc => lkc cd pc) (fun _ ih n cd pc => cond (Nat.blt pc (hkc (cd.drop (n / 2)))) (ih (n / 2) (cd.take (n / 2)) pc) (ih (n - n / 2) (cd.drop (n / 2)) pc)) f
theorem lkc_mem {pc : Nat} {c : Cd} : ∀ {cd : List (Nat × Cd)}, lkc cd pc = some c → (pc, c) ∈ cd
  | [], h => by cases h
  | x :: t, h => by
    unfold lkc at h
    cases hb : Nat.beq x.1 pc with
    | true =>
      rw [hb] at h
      have e1 : x.1 = pc := Nat.eq_of_beq_eq_true hb
      have e2 : x.2 = c := Option.some.inj h
      rw [← e1, ← e2]
      exact List.mem_cons_self
    | false =>
      rw [hb] at h
      exact List.mem_cons_of_mem _ (lkc_mem h)
theorem bld_mem {pc : Nat} {c : Cd} : ∀ (f n : Nat) (cd : List (Nat × Cd)), bld f n cd pc = some c → (pc, c) ∈ cd
  | 0, _, _, h => lkc_mem h
  | f + 1, n, cd, h => by
    have h : cond (Nat.blt pc (hkc (cd.drop (n / 2)))) (bld f (n / 2) (cd.take (n / 2)) pc) (bld f (n - n / 2) (cd.drop (n / 2)) pc) = some c := h
    cases hb : Nat.blt pc (hkc (cd.drop (n / 2))) with
    | true =>
      rw [hb] at h
      exact List.mem_of_mem_take (bld_mem f (n / 2) (cd.take (n / 2)) h)
    | false =>
      rw [hb] at h
      exact List.mem_of_mem_drop (bld_mem f (n - n / 2) (cd.drop (n / 2)) h)
/-- the places of the codes grow -/
noncomputable def srb : Nat → List (Nat × Cd) → Bool
  | _, [] => true
  | m, x :: t => Nat.ble m x.1 && srb (x.1 + 1) t
theorem srb_lk {pc : Nat} {c : Cd} : ∀ {cd : List (Nat × Cd)} {m : Nat}, srb m cd = true → (pc, c) ∈ cd → m ≤ pc ∧ lkc cd pc = some c
  | [], _, _, h => absurd h List.not_mem_nil
  | x :: t, m, hs, h => by
    obtain ⟨h1, h2⟩ := andT hs
    have h1 := Nat.le_of_ble_eq_true h1
    rcases List.mem_cons.mp h with e | h
    · subst e
      refine ⟨h1, ?_⟩
      show cond (Nat.beq pc pc) (some c) _ = some c
      rw [beq_self]
      rfl
    · obtain ⟨h3, h4⟩ := srb_lk h2 h
      refine ⟨by omega, ?_⟩
      have hb : Nat.beq x.1 pc = false := by
        cases q : Nat.beq x.1 pc with
        | false => rfl
        | true =>
          have := Nat.eq_of_beq_eq_true q
          omega
      show cond (Nat.beq x.1 pc) (some x.2) (lkc t pc) = some c
      rw [hb]
      exact h4
noncomputable def stpf (P : Pk) (ms : Md3) (ps : List Po) (Ks : List Con) (cy : Nat) (cd : List (Nat × Cd)) (n pc : Nat) (A : ASt) : Option (List (Nat × ASt)) := match bld 5 n cd pc with
  | some c => afst P ms ps Ks cy pc c A
  | none => none
noncomputable def chkf (P : Pk) (Ks : List Con) (cy : Nat) (cd : List (Nat × Cd)) (nl fuel : Nat) (K : Con) (Hs : List Hd) : Bool := srb 0 cd && (Nat.ble (slb K.1.2.1) nl && (Nat.ble (slb K.1.2.1) 900 && (run (stpf P K.2.1 K.2.2 Ks cy cd cd.length) (hsp Hs none []) fuel 0 (ent K) && Hs.all (hrun (stpf P K.2.1 K.2.2 Ks cy cd cd.length) Hs fuel))))
section CHKF
variable {l : Launch} {X : Nat × (Nat → Int32)} {U : Nat → Md} {P : Pk} {Ks : List Con} {cy : Nat} {cd : List (Nat × Cd)} {nl fuel dd d : Nat} {K : Con} {Hs : List Hd} {e : Int}
theorem stpf_c {ms : Md3} {ps : List Po} {n pc : Nat} {A : ASt} {L : List (Nat × ASt)} (hs : srb 0 cd = true) (he : stpf P ms ps Ks cy cd n pc A = some L) : stpc P ms ps Ks cy cd pc A = some L := by
  unfold stpf at he
  cases hc : bld 5 n cd pc with
  | none => rw [hc] at he; cases he
  | some c =>
    rw [hc] at he
    have he : afst P ms ps Ks cy pc c A = some L := he
    rw [afst_eq] at he
    unfold stpc
    rw [(srb_lk hs (bld_mem 5 n cd hc)).2]
    exact he
theorem ck_wff {na : Bool} {b : Nat × Nat} (ht : ∀ x ∈ ctb l X d U cd, OK l X (U K.1.1) dd na b x.1 x.2) (hK : ∀ K ∈ Ks, Vc l X U P e d K) (hC : Cpy l X d (U cy)) (h : chkf P Ks cy cd nl fuel K Hs = true) {av : List Value} {M : Mm} {kr : KR} (hI : Iv P M) (he : eO e M) (hb : gbs av K.1.2.1) (hf : ∀ f ∈ K.1.2.2, gf M f) (hr : ∀ r M', Jv P K.2.1 (M, e) M' → gps av r M' K.2.2 → kr r M') : slb K.1.2.1 ≤ nl ∧ Wf l X (U K.1.1) dd na b 0 (lv_args 0 av) [] M kr := by
  obtain ⟨h0, h⟩ := andT h
  obtain ⟨h1, h2⟩ := andT h
  obtain ⟨h2, h3⟩ := andT h2
  obtain ⟨h3, h4⟩ := andT h3
  exact ⟨Nat.le_of_ble_eq_true h1, from_ok ht (fun r0 pc A L he => stpc_ok (M0 := (M, e)) hK hC hr r0 pc A L (stpf_c h0 he)) (fun x hx => List.all_eq_true.mp h4 x hx) h3 (Jv.rf hI he) (ent_in (Nat.le_of_ble_eq_true h2) hb hf)⟩
theorem ckf (hp : plainName (U K.1.1).1.cls = true) (hq : (U K.1.1).2.2.1 = nl) (ht : ∀ (na : Bool) (b : Nat × Nat), ∀ x ∈ ctb l X d U cd, OK l X (U K.1.1) dd na b x.1 x.2) (hK : ∀ K ∈ Ks, Vc l X U P e d K) (hC : Cpy l X d (U cy)) (h : chkf P Ks cy cd nl fuel K Hs = true) : Vc l X U P e dd K := by
  intro av M kr hI he hb hf hr
  obtain ⟨h1, h2⟩ := ck_wff (ht true (mC M + 0, mS M + 0)) hK hC h hI he hb hf hr
  exact Ev.of hp (by rw [slb_ok hb, hq]; exact h1) h2
theorem ckFf (hp : plainFor (U K.1.1).1 = true) (hq : (U K.1.1).2.2.1 = nl) (ht : ∀ (na : Bool) (b : Nat × Nat), ∀ x ∈ ctb l X d U cd, OK l X (U K.1.1) dd na b x.1 x.2) (hK : ∀ K ∈ Ks, Vc l X U P e d K) (hC : Cpy l X d (U cy)) (h : chkf P Ks cy cd nl fuel K Hs = true) : Vc l X U P e dd K := by
  intro av M kr hI he hb hf hr
  obtain ⟨h1, h2⟩ := ck_wff (ht true (mC M + 0, mS M + 0)) hK hC h hI he hb hf hr
  exact Ev.ofF hp (by rw [slb_ok hb, hq]; exact h1) h2
end CHKF
end
section
noncomputable def U0 (i : Nat) : Md := cond (Nat.ble i 140) (cond (Nat.ble i 69) (cond (Nat.ble i 34) (cond (Nat.ble i 16) (cond (Nat.ble i 7) (cond (Nat.ble i 3) (cond (Nat.ble i 1) (cond (Nat.ble i 0) (uX0_start) (uX0_pass)) (cond (Nat.ble i 2) (uX0_passAll) (uX0_firstDrop))) (cond (Nat.ble i 5) (cond (Nat.ble i 4) (uX1_clear) (uX1_addFace)) (cond (Nat.ble i 6) (uX1_setCost) (uX1_solve)))) (cond (Nat.ble i 11) (cond (Nat.ble i 9) (cond (Nat.ble i 8) (uX1_place) (uX2_begin)) (cond (Nat.ble i 10) (uX2_copy) (uX2_hasFallen))) (cond (Nat.ble i 13) (cond (Nat.ble i 12) (uX3_clear) (uX3_cells)) (cond (Nat.ble i 14) (uX3_isWall) (cond (Nat.ble i 15) (uX3_wallCount) (uX3_open)))))) (cond (Nat.ble i 25) (cond (Nat.ble i 20) (cond (Nat.ble i 18) (cond (Nat.ble i 17) (uX3_faceOver) (uX3_toldCanonOf)) (cond (Nat.ble i 19) (uX3_unsureOf) (uX3_vexedBy))) (cond (Nat.ble i 22) (cond (Nat.ble i 21) (uX3_droppedCount) (uX4_tape)) (cond (Nat.ble i 23) (uX4_reads) (cond (Nat.ble i 24) (uX4_fails) (uX4_take))))) (cond (Nat.ble i 29) (cond (Nat.ble i 27) (cond (Nat.ble i 26) (uX4_takeWord) (uX4_takeWhole)) (cond (Nat.ble i 28) (uX4_isWord) (uX4_beginsLine))) (cond (Nat.ble i 31) (cond (Nat.ble i 30) (uX4_readsLine) (uX4_readsClose)) (cond (Nat.ble i 32) (uX4_readsWall) (cond (Nat.ble i 33) (uX4_readsFace) (uX4_kindHere))))))) (cond (Nat.ble i 51) (cond (Nat.ble i 42) (cond (Nat.ble i 38) (cond (Nat.ble i 36) (cond (Nat.ble i 35) (uX4_readsCanon) (uX4_readsWalker)) (cond (Nat.ble i 37) (uX4_readsUnsure) (uX4_readsDropped))) (cond (Nat.ble i 40) (cond (Nat.ble i 39) (uX4_labelled) (uX4_bounded)) (cond (Nat.ble i 41) (uX4_tells) (uX4_named)))) (cond (Nat.ble i 46) (cond (Nat.ble i 44) (cond (Nat.ble i 43) (uX4_nameAt) (uX5_beside)) (cond (Nat.ble i 45) (uX5_fewest) (uX5_measure))) (cond (Nat.ble i 48) (cond (Nat.ble i 47) (uX5_stepAt) (uX5_firstStep)) (cond (Nat.ble i 49) (uX5_leastOnward) (cond (Nat.ble i 50) (uX5_weight) (uX5_next)))))) (cond (Nat.ble i 60) (cond (Nat.ble i 55) (cond (Nat.ble i 53) (cond (Nat.ble i 52) (uX6_feed) (uX6_close)) (cond (Nat.ble i 54) (uX6_fault) (uX6_where))) (cond (Nat.ble i 57) (cond (Nat.ble i 56) (uX6_face) (uX6_canon)) (cond (Nat.ble i 58) (uX6_cell) (cond (Nat.ble i 59) (uX6_burden) (uX6_bears))))) (cond (Nat.ble i 64) (cond (Nat.ble i 62) (cond (Nat.ble i 61) (uX6_holds) (uX6_drops)) (cond (Nat.ble i 63) (uX6_dropsIn) (uX6_fallsIn))) (cond (Nat.ble i 66) (cond (Nat.ble i 65) (uX6_wet) (uX6_wetDays)) (cond (Nat.ble i 67) (uX6_wettest) (cond (Nat.ble i 68) (uX6_sunny) (uX6_heaviest)))))))) (cond (Nat.ble i 104) (cond (Nat.ble i 86) (cond (Nat.ble i 77) (cond (Nat.ble i 73) (cond (Nat.ble i 71) (cond (Nat.ble i 70) (uX6_fallen) (uX6_dropsIf)) (cond (Nat.ble i 72) (uX6_faceFor) (uX6_match))) (cond (Nat.ble i 75) (cond (Nat.ble i 74) (uX6_matchDrops) (uX6_matchAt)) (cond (Nat.ble i 76) (uX6_steps) (uX6_wets)))) (cond (Nat.ble i 81) (cond (Nat.ble i 79) (cond (Nat.ble i 78) (uX6_way) (uX6_wayAt)) (cond (Nat.ble i 80) (uX6_dryDay) (uX6_gate))) (cond (Nat.ble i 83) (cond (Nat.ble i 82) (uX6_fits) (uX6_fitAt)) (cond (Nat.ble i 84) (uX6_could) (cond (Nat.ble i 85) (uX6_surely) (uX6_ask)))))) (cond (Nat.ble i 95) (cond (Nat.ble i 90) (cond (Nat.ble i 88) (cond (Nat.ble i 87) (uX6_askLeaves) (uX6_judge)) (cond (Nat.ble i 89) (uX6_sulks) (uX6_rests))) (cond (Nat.ble i 92) (cond (Nat.ble i 91) (uX6_rest) (uX6_odds)) (cond (Nat.ble i 93) (uX6_mean) (cond (Nat.ble i 94) (uX6_borne) (uX6_firstWet))))) (cond (Nat.ble i 99) (cond (Nat.ble i 97) (cond (Nat.ble i 96) (uX6_day) (uX6_give)) (cond (Nat.ble i 98) (uX6_mend) (uX6_vex))) (cond (Nat.ble i 101) (cond (Nat.ble i 100) (uX6_undo) (uX6_image)) (cond (Nat.ble i 102) (uX6_back) (cond (Nat.ble i 103) (uX6_size) (uX6_trouble))))))) (cond (Nat.ble i 122) (cond (Nat.ble i 113) (cond (Nat.ble i 108) (cond (Nat.ble i 106) (cond (Nat.ble i 105) (uX6_answer) (uX6_refuse)) (cond (Nat.ble i 107) (uX6_within) (uX6_hasClose))) (cond (Nat.ble i 110) (cond (Nat.ble i 109) (uX6_isFace) (uX6_isCanon)) (cond (Nat.ble i 111) (uX6_isCell) (cond (Nat.ble i 112) (uX6_isWalker) (uX6_isSeed))))) (cond (Nat.ble i 117) (cond (Nat.ble i 115) (cond (Nat.ble i 114) (uX6_canonOf) (uX6_canFollow)) (cond (Nat.ble i 116) (uX6_canLookAhead) (uX6_canWalk))) (cond (Nat.ble i 119) (cond (Nat.ble i 118) (uX6_canGame) (uX6_canChance)) (cond (Nat.ble i 120) (uX6_numberFits) (cond (Nat.ble i 121) (uX6_startNow) (uX6_follow)))))) (cond (Nat.ble i 131) (cond (Nat.ble i 126) (cond (Nat.ble i 124) (cond (Nat.ble i 123) (uX6_foretellWet) (uX6_wetDaysOf)) (cond (Nat.ble i 125) (uX6_firstDropBySeed) (uX6_draw))) (cond (Nat.ble i 128) (cond (Nat.ble i 127) (uX6_isCalm) (uX6_couldHave)) (cond (Nat.ble i 129) (uX6_costOf) (cond (Nat.ble i 130) (uX6_costIf) (uX6_tooFewFaces))))) (cond (Nat.ble i 135) (cond (Nat.ble i 133) (cond (Nat.ble i 132) (uX6_makeMatch) (uX6_wayCost)) (cond (Nat.ble i 134) (uX6_stepsTogether) (uX6_fittingSets))) (cond (Nat.ble i 137) (cond (Nat.ble i 136) (uX6_setFits) (uX6_dropFits)) (cond (Nat.ble i 138) (uX6_setsWith) (cond (Nat.ble i 139) (uX6_leftAtMost) (uX6_bestToAsk))))))))) (cond (Nat.ble i 210) (cond (Nat.ble i 175) (cond (Nat.ble i 157) (cond (Nat.ble i 148) (cond (Nat.ble i 144) (cond (Nat.ble i 142) (cond (Nat.ble i 141) (uX6_share) (uX6_isRest)) (cond (Nat.ble i 143) (uX6_chance) (uX6_greatestDivisor))) (cond (Nat.ble i 146) (cond (Nat.ble i 145) (uX6_keep) (uX7_good)) (cond (Nat.ble i 147) (uX7_no) (uX7_isNot)))) (cond (Nat.ble i 152) (cond (Nat.ble i 150) (cond (Nat.ble i 149) (uX7_in) (uX7_hasBit)) (cond (Nat.ble i 151) (uX7_ones) (uX7_copy))) (cond (Nat.ble i 154) (cond (Nat.ble i 153) (uX7_lowest) (uX7_feed)) (cond (Nat.ble i 155) (uX7_see) (cond (Nat.ble i 156) (uX7_isSmall) (uX7_isDigit)))))) (cond (Nat.ble i 166) (cond (Nat.ble i 161) (cond (Nat.ble i 159) (cond (Nat.ble i 158) (uX7_next) (uX7_wrong)) (cond (Nat.ble i 160) (uX7_isWord) (uX7_takesWord))) (cond (Nat.ble i 163) (cond (Nat.ble i 162) (uX7_must) (uX7_mustName)) (cond (Nat.ble i 164) (uX7_find) (cond (Nat.ble i 165) (uX7_newName) (uX7_named))))) (cond (Nat.ble i 170) (cond (Nat.ble i 168) (cond (Nat.ble i 167) (uX7_pass) (uX7_numberHere)) (cond (Nat.ble i 169) (uX7_number) (uX7_after))) (cond (Nat.ble i 172) (cond (Nat.ble i 171) (uX7_close) (uX7_begins)) (cond (Nat.ble i 173) (uX7_readLine) (cond (Nat.ble i 174) (uX7_closeLine) (uX7_cellHere))))))) (cond (Nat.ble i 192) (cond (Nat.ble i 183) (cond (Nat.ble i 179) (cond (Nat.ble i 177) (cond (Nat.ble i 176) (uX7_wallLine) (uX7_faceLine)) (cond (Nat.ble i 178) (uX7_canonLine) (uX7_openCell))) (cond (Nat.ble i 181) (cond (Nat.ble i 180) (uX7_walkerLine) (uX7_unsureLine)) (cond (Nat.ble i 182) (uX7_droppedLine) (uX7_fault)))) (cond (Nat.ble i 187) (cond (Nat.ble i 185) (cond (Nat.ble i 184) (uX7_where) (uX7_isFace)) (cond (Nat.ble i 186) (uX7_isCanon) (uX7_cells))) (cond (Nat.ble i 189) (cond (Nat.ble i 188) (uX7_isCell) (uX7_isWalker)) (cond (Nat.ble i 190) (uX7_why) (cond (Nat.ble i 191) (uX7_vexedBy) (uX7_letsGo)))))) (cond (Nat.ble i 201) (cond (Nat.ble i 196) (cond (Nat.ble i 194) (cond (Nat.ble i 193) (uX7_dayOn) (uX7_daysOn)) (cond (Nat.ble i 195) (uX7_letsOf) (uX7_fallenOn))) (cond (Nat.ble i 198) (cond (Nat.ble i 197) (uX7_canonOf) (uX7_face)) (cond (Nat.ble i 199) (uX7_canon) (cond (Nat.ble i 200) (uX7_faceOver) (uX7_isWall))))) (cond (Nat.ble i 205) (cond (Nat.ble i 203) (cond (Nat.ble i 202) (uX7_stepFrom) (uX7_beside)) (cond (Nat.ble i 204) (uX7_cell) (uX7_burden))) (cond (Nat.ble i 207) (cond (Nat.ble i 206) (uX7_aheadWhy) (uX7_bears)) (cond (Nat.ble i 208) (uX7_holds) (cond (Nat.ble i 209) (uX7_drops) (uX7_dropsIn)))))))) (cond (Nat.ble i 245) (cond (Nat.ble i 227) (cond (Nat.ble i 218) (cond (Nat.ble i 214) (cond (Nat.ble i 212) (cond (Nat.ble i 211) (uX7_fallsIn) (uX7_wet)) (cond (Nat.ble i 213) (uX7_wetOften) (uX7_wetDays))) (cond (Nat.ble i 216) (cond (Nat.ble i 215) (uX7_wettest) (uX7_sunny)) (cond (Nat.ble i 217) (uX7_heaviest) (uX7_fallen)))) (cond (Nat.ble i 222) (cond (Nat.ble i 220) (cond (Nat.ble i 219) (uX7_planAsNow) (uX7_goByPlan)) (cond (Nat.ble i 221) (uX7_mayHave) (uX7_planWhy))) (cond (Nat.ble i 224) (cond (Nat.ble i 223) (uX7_dropsIf) (uX7_isBest)) (cond (Nat.ble i 225) (uX7_faceFor) (cond (Nat.ble i 226) (uX7_tryPlans) (uX7_seekMatch)))))) (cond (Nat.ble i 236) (cond (Nat.ble i 231) (cond (Nat.ble i 229) (cond (Nat.ble i 228) (uX7_match) (uX7_matchDrops)) (cond (Nat.ble i 230) (uX7_matchAt) (uX7_costOf))) (cond (Nat.ble i 233) (cond (Nat.ble i 232) (uX7_layCosts) (uX7_stepsOf)) (cond (Nat.ble i 234) (uX7_steps) (cond (Nat.ble i 235) (uX7_wayOf) (uX7_wets))))) (cond (Nat.ble i 240) (cond (Nat.ble i 238) (cond (Nat.ble i 237) (uX7_way) (uX7_wayAt)) (cond (Nat.ble i 239) (uX7_dryDay) (uX7_allSteps))) (cond (Nat.ble i 242) (cond (Nat.ble i 241) (uX7_gate) (uX7_wrongBy)) (cond (Nat.ble i 243) (uX7_seekSets) (cond (Nat.ble i 244) (uX7_fits) (uX7_fitAt))))))) (cond (Nat.ble i 263) (cond (Nat.ble i 254) (cond (Nat.ble i 249) (cond (Nat.ble i 247) (cond (Nat.ble i 246) (uX7_could) (uX7_surely)) (cond (Nat.ble i 248) (uX7_leavesOf) (uX7_askOf))) (cond (Nat.ble i 251) (cond (Nat.ble i 250) (uX7_ask) (uX7_askLeaves)) (cond (Nat.ble i 252) (uX7_judge) (cond (Nat.ble i 253) (uX7_canonHas) (uX7_breadHas))))) (cond (Nat.ble i 258) (cond (Nat.ble i 256) (cond (Nat.ble i 255) (uX7_sulks) (uX7_seekRests)) (cond (Nat.ble i 257) (uX7_rests) (uX7_rest))) (cond (Nat.ble i 260) (cond (Nat.ble i 259) (uX7_tryCalms) (uX7_odds)) (cond (Nat.ble i 261) (uX7_mean) (cond (Nat.ble i 262) (uX7_drawWhy) (uX7_borne)))))) (cond (Nat.ble i 272) (cond (Nat.ble i 267) (cond (Nat.ble i 265) (cond (Nat.ble i 264) (uX7_firstWet) (uX7_note)) (cond (Nat.ble i 266) (uX7_day) (uX7_give))) (cond (Nat.ble i 269) (cond (Nat.ble i 268) (uX7_mend) (uX7_vex)) (cond (Nat.ble i 270) (uX7_undo) (cond (Nat.ble i 271) (uX7_image) (uX7_back))))) (cond (Nat.ble i 276) (cond (Nat.ble i 274) (cond (Nat.ble i 273) (uX7_led) (uX7_size)) (cond (Nat.ble i 275) (uX7_trouble) (uJ6_bitCount_0f7a4))) (cond (Nat.ble i 278) (cond (Nat.ble i 277) (uJ9_max_7cf53) (uJ9_max_f86c9)) (cond (Nat.ble i 279) (uJ9_min_7cf53) (cond (Nat.ble i 280) (uJ0_length_8abf5) (uJ0_charAt_5068e)))))))))
section CEC
theorem cen {l : Launch} {X : Nat × (Nat → Int32)} {d : Nat} {U : Nat → Md} : ([] : List (Nat × OP)) = ctb l X d U [] := rfl
theorem cec {l : Launch} {X : Nat × (Nat → Int32)} {d : Nat} {U : Nat → Md} {p : Nat} {o : OP} {c : Cd} {tb : List (Nat × OP)} {cd : List (Nat × Cd)} (h : cop l X d U p c = o) (r : tb = ctb l X d U cd) : (p, o) :: tb = ctb l X d U ((p, c) :: cd) := by
  rw [r, ← h]
  rfl
theorem cp0 {l : Launch} {X : Nat × (Nat → Int32)} {d p a b e : Nat} {v : Int} {L : List Nat} {U : Nat → Md} {w : Int32} (h : Int32.ofInt v = w) : cop l X d U p (0, a, b, e, v, L) = oIc p a w := by
  rw [← h]
  rfl
theorem cp1 {l : Launch} {X : Nat × (Nat → Int32)} {d p a b e : Nat} {v : Int} {L : List Nat} {U : Nat → Md} : cop l X d U p (1, a, b, e, v, L) = oIl p a b := rfl
theorem cp2 {l : Launch} {X : Nat × (Nat → Int32)} {d p a b e : Nat} {v : Int} {L : List Nat} {U : Nat → Md} : cop l X d U p (2, a, b, e, v, L) = oIs p a b := rfl
theorem cp3 {l : Launch} {X : Nat × (Nat → Int32)} {d p a b e : Nat} {v : Int} {L : List Nat} {U : Nat → Md} {w : Int32} (h : Int32.ofInt v = w) : cop l X d U p (3, a, b, e, v, L) = oInc p a w := by
  rw [← h]
  rfl
theorem cp4 {l : Launch} {X : Nat × (Nat → Int32)} {d p a b e : Nat} {v : Int} {L : List Nat} {U : Nat → Md} : cop l X d U p (4, a, b, e, v, L) = o2 p (fun x y => x + y) := rfl
theorem cp5 {l : Launch} {X : Nat × (Nat → Int32)} {d p a b e : Nat} {v : Int} {L : List Nat} {U : Nat → Md} : cop l X d U p (5, a, b, e, v, L) = o2 p (fun x y => x - y) := rfl
theorem cp6 {l : Launch} {X : Nat × (Nat → Int32)} {d p a b e : Nat} {v : Int} {L : List Nat} {U : Nat → Md} : cop l X d U p (6, a, b, e, v, L) = o2 p (fun x y => x * y) := rfl
theorem cp7 {l : Launch} {X : Nat × (Nat → Int32)} {d p a b e : Nat} {v : Int} {L : List Nat} {U : Nat → Md} : cop l X d U p (7, a, b, e, v, L) = o2 p (fun x y => x &&& y) := rfl
theorem cp8 {l : Launch} {X : Nat × (Nat → Int32)} {d p a b e : Nat} {v : Int} {L : List Nat} {U : Nat → Md} : cop l X d U p (8, a, b, e, v, L) = o2 p (fun x y => x ||| y) := rfl
theorem cp9 {l : Launch} {X : Nat × (Nat → Int32)} {d p a b e : Nat} {v : Int} {L : List Nat} {U : Nat → Md} : cop l X d U p (9, a, b, e, v, L) = o2 p (fun x y => x ^^^ y) := rfl
theorem cp10 {l : Launch} {X : Nat × (Nat → Int32)} {d p a b e : Nat} {v : Int} {L : List Nat} {U : Nat → Md} : cop l X d U p (10, a, b, e, v, L) = o2 p (fun x y => x <<< (y &&& 31)) := rfl
theorem cp11 {l : Launch} {X : Nat × (Nat → Int32)} {d p a b e : Nat} {v : Int} {L : List Nat} {U : Nat → Md} : cop l X d U p (11, a, b, e, v, L) = o2 p (fun x y => x >>> (y &&& 31)) := rfl
theorem cp12 {l : Launch} {X : Nat × (Nat → Int32)} {d p a b e : Nat} {v : Int} {L : List Nat} {U : Nat → Md} : cop l X d U p (12, a, b, e, v, L) = o2 p (fun x y => (x.toUInt32 >>> (y.toUInt32 &&& Int32.toUInt32 31)).toInt32) := rfl
theorem cp13 {l : Launch} {X : Nat × (Nat → Int32)} {d p a b e : Nat} {v : Int} {L : List Nat} {U : Nat → Md} : cop l X d U p (13, a, b, e, v, L) = oGo a := rfl
theorem cp16 {l : Launch} {X : Nat × (Nat → Int32)} {d p a b e : Nat} {v : Int} {L : List Nat} {U : Nat → Md} : cop l X d U p (16, a, b, e, v, L) = oTs v L a := rfl
theorem cp17 {l : Launch} {X : Nat × (Nat → Int32)} {d p a b e : Nat} {v : Int} {L : List Nat} {U : Nat → Md} : cop l X d U p (17, a, b, e, v, L) = oLl p a b := rfl
theorem cp18 {l : Launch} {X : Nat × (Nat → Int32)} {d p a b e : Nat} {v : Int} {L : List Nat} {U : Nat → Md} : cop l X d U p (18, a, b, e, v, L) = oAl p a b := rfl
theorem cp19 {l : Launch} {X : Nat × (Nat → Int32)} {d p a b e : Nat} {v : Int} {L : List Nat} {U : Nat → Md} : cop l X d U p (19, a, b, e, v, L) = oLs p a b := rfl
theorem cp20 {l : Launch} {X : Nat × (Nat → Int32)} {d p a b e : Nat} {v : Int} {L : List Nat} {U : Nat → Md} : cop l X d U p (20, a, b, e, v, L) = oAs p a b := rfl
theorem cp21 {l : Launch} {X : Nat × (Nat → Int32)} {d p a b e : Nat} {v : Int} {L : List Nat} {U : Nat → Md} : cop l X d U p (21, a, b, e, v, L) = o2d p (fun x y => x / y) := rfl
theorem cp22 {l : Launch} {X : Nat × (Nat → Int32)} {d p a b e : Nat} {v : Int} {L : List Nat} {U : Nat → Md} : cop l X d U p (22, a, b, e, v, L) = o2d p (fun x y => x - x / y * y) := rfl
theorem cp23 {l : Launch} {X : Nat × (Nat → Int32)} {d p a b e : Nat} {v : Int} {L : List Nat} {U : Nat → Md} : cop l X d U p (23, a, b, e, v, L) = o1 p (fun x => -x) := rfl
theorem cp26 {l : Launch} {X : Nat × (Nat → Int32)} {d p a b e : Nat} {v : Int} {L : List Nat} {U : Nat → Md} : cop l X d U p (26, a, b, e, v, L) = oL2 p (fun x y => x + y) := rfl
theorem cp27 {l : Launch} {X : Nat × (Nat → Int32)} {d p a b e : Nat} {v : Int} {L : List Nat} {U : Nat → Md} : cop l X d U p (27, a, b, e, v, L) = oL2 p (fun x y => x - y) := rfl
theorem cp28 {l : Launch} {X : Nat × (Nat → Int32)} {d p a b e : Nat} {v : Int} {L : List Nat} {U : Nat → Md} : cop l X d U p (28, a, b, e, v, L) = oL2 p (fun x y => x * y) := rfl
theorem cp29 {l : Launch} {X : Nat × (Nat → Int32)} {d p a b e : Nat} {v : Int} {L : List Nat} {U : Nat → Md} : cop l X d U p (29, a, b, e, v, L) = oL2d p (fun x y => x / y) := rfl
theorem cp31 {l : Launch} {X : Nat × (Nat → Int32)} {d p a b e : Nat} {v : Int} {L : List Nat} {U : Nat → Md} : cop l X d U p (31, a, b, e, v, L) = oi2l p := rfl
theorem cp32 {l : Launch} {X : Nat × (Nat → Int32)} {d p a b e : Nat} {v : Int} {L : List Nat} {U : Nat → Md} : cop l X d U p (32, a, b, e, v, L) = olcmp p := rfl
theorem cp33 {l : Launch} {X : Nat × (Nat → Int32)} {d p a b e : Nat} {v : Int} {L : List Nat} {U : Nat → Md} {w : Int64} (h : Int64.ofInt v = w) : cop l X d U p (33, a, b, e, v, L) = oLc p a w := by
  rw [← h]
  rfl
theorem cp34 {l : Launch} {X : Nat × (Nat → Int32)} {d p a b e : Nat} {v : Int} {L : List Nat} {U : Nat → Md} : cop l X d U p (34, a, b, e, v, L) = oDup p := rfl
theorem cp35 {l : Launch} {X : Nat × (Nat → Int32)} {d p a b e : Nat} {v : Int} {L : List Nat} {U : Nat → Md} : cop l X d U p (35, a, b, e, v, L) = oDup2 p := rfl
theorem cp36 {l : Launch} {X : Nat × (Nat → Int32)} {d p a b e : Nat} {v : Int} {L : List Nat} {U : Nat → Md} : cop l X d U p (36, a, b, e, v, L) = oPop p := rfl
theorem cp37 {l : Launch} {X : Nat × (Nat → Int32)} {d p a b e : Nat} {v : Int} {L : List Nat} {U : Nat → Md} : cop l X d U p (37, a, b, e, v, L) = oG p a b e := rfl
theorem cp38 {l : Launch} {X : Nat × (Nat → Int32)} {d p a b e : Nat} {v : Int} {L : List Nat} {U : Nat → Md} : cop l X d U p (38, a, b, e, v, L) = oPI p a b := rfl
theorem cp40 {l : Launch} {X : Nat × (Nat → Int32)} {d p a b e : Nat} {v : Int} {L : List Nat} {U : Nat → Md} : cop l X d U p (40, a, b, e, v, L) = oPL p a b := rfl
theorem cp41 {l : Launch} {X : Nat × (Nat → Int32)} {d p a b e : Nat} {v : Int} {L : List Nat} {U : Nat → Md} : cop l X d U p (41, a, b, e, v, L) = oPR p a b := rfl
theorem cp42 {l : Launch} {X : Nat × (Nat → Int32)} {d p a b e : Nat} {v : Int} {L : List Nat} {U : Nat → Md} : cop l X d U p (42, a, b, e, v, L) = oIal p := rfl
theorem cp43 {l : Launch} {X : Nat × (Nat → Int32)} {d p a b e : Nat} {v : Int} {L : List Nat} {U : Nat → Md} : cop l X d U p (43, a, b, e, v, L) = oBal p := rfl
theorem cp44 {l : Launch} {X : Nat × (Nat → Int32)} {d p a b e : Nat} {v : Int} {L : List Nat} {U : Nat → Md} : cop l X d U p (44, a, b, e, v, L) = oLal p := rfl
theorem cp45 {l : Launch} {X : Nat × (Nat → Int32)} {d p a b e : Nat} {v : Int} {L : List Nat} {U : Nat → Md} : cop l X d U p (45, a, b, e, v, L) = oAal p a := rfl
theorem cp46 {l : Launch} {X : Nat × (Nat → Int32)} {d p a b e : Nat} {v : Int} {L : List Nat} {U : Nat → Md} : cop l X d U p (46, a, b, e, v, L) = oIas p := rfl
theorem cp48 {l : Launch} {X : Nat × (Nat → Int32)} {d p a b e : Nat} {v : Int} {L : List Nat} {U : Nat → Md} : cop l X d U p (48, a, b, e, v, L) = oLas p := rfl
theorem cp49 {l : Launch} {X : Nat × (Nat → Int32)} {d p a b e : Nat} {v : Int} {L : List Nat} {U : Nat → Md} : cop l X d U p (49, a, b, e, v, L) = oSc p a b := rfl
theorem cp50 {l : Launch} {X : Nat × (Nat → Int32)} {d p a b e : Nat} {v : Int} {L : List Nat} {U : Nat → Md} : cop l X d U p (50, a, b, e, v, L) = oAc p := rfl
theorem cp51 {l : Launch} {X : Nat × (Nat → Int32)} {d p a b e : Nat} {v : Int} {L : List Nat} {U : Nat → Md} {u : Md} (h : U a = u) : cop l X d U p (51, a, b, e, v, L) = oCv l X d p u b e := by
  rw [← h]
  rfl
theorem cp52 {l : Launch} {X : Nat × (Nat → Int32)} {d p a b e : Nat} {v : Int} {L : List Nat} {U : Nat → Md} {u : Md} (h : U a = u) : cop l X d U p (52, a, b, e, v, L) = oCs l X d p u e := by
  rw [← h]
  rfl
theorem cp54 {l : Launch} {X : Nat × (Nat → Int32)} {d p a b e : Nat} {v : Int} {L : List Nat} {U : Nat → Md} : cop l X d U p (54, a, b, e, v, L) = oIr := rfl
theorem cp55 {l : Launch} {X : Nat × (Nat → Int32)} {d p a b e : Nat} {v : Int} {L : List Nat} {U : Nat → Md} : cop l X d U p (55, a, b, e, v, L) = oZr := rfl
theorem cp56 {l : Launch} {X : Nat × (Nat → Int32)} {d p a b e : Nat} {v : Int} {L : List Nat} {U : Nat → Md} : cop l X d U p (56, a, b, e, v, L) = oLr := rfl
theorem cp57 {l : Launch} {X : Nat × (Nat → Int32)} {d p a b e : Nat} {v : Int} {L : List Nat} {U : Nat → Md} : cop l X d U p (57, a, b, e, v, L) = oVr := rfl
theorem cp58 {l : Launch} {X : Nat × (Nat → Int32)} {d p a b e : Nat} {v : Int} {L : List Nat} {U : Nat → Md} {u : Md} (h : U a = u) : cop l X d U p (58, a, b, e, v, L) = oCs l X d p u 5 := by
  rw [← h]
  rfl
theorem cp14_0 {l : Launch} {X : Nat × (Nat → Int32)} {d p a e : Nat} {v : Int} {L : List Nat} {U : Nat → Md} : cop l X d U p (14, a, 0, e, v, L) = oIf p a (fun x => x = 0) (fun x => ¬ x = 0) := rfl
theorem cp14_1 {l : Launch} {X : Nat × (Nat → Int32)} {d p a e : Nat} {v : Int} {L : List Nat} {U : Nat → Md} : cop l X d U p (14, a, 1, e, v, L) = oIf p a (fun x => ¬ x = 0) (fun x => x = 0) := rfl
theorem cp14_2 {l : Launch} {X : Nat × (Nat → Int32)} {d p a e : Nat} {v : Int} {L : List Nat} {U : Nat → Md} : cop l X d U p (14, a, 2, e, v, L) = oIf p a (fun x => x < 0) (fun x => ¬ x < 0) := rfl
theorem cp14_3 {l : Launch} {X : Nat × (Nat → Int32)} {d p a e : Nat} {v : Int} {L : List Nat} {U : Nat → Md} : cop l X d U p (14, a, 3, e, v, L) = oIf p a (fun x => 0 ≤ x) (fun x => ¬ 0 ≤ x) := rfl
theorem cp14_4 {l : Launch} {X : Nat × (Nat → Int32)} {d p a e : Nat} {v : Int} {L : List Nat} {U : Nat → Md} : cop l X d U p (14, a, 4, e, v, L) = oIf p a (fun x => 0 < x) (fun x => ¬ 0 < x) := rfl
theorem cp14_5 {l : Launch} {X : Nat × (Nat → Int32)} {d p a e : Nat} {v : Int} {L : List Nat} {U : Nat → Md} : cop l X d U p (14, a, 5, e, v, L) = oIf p a (fun x => x ≤ 0) (fun x => ¬ x ≤ 0) := rfl
theorem cp15_0 {l : Launch} {X : Nat × (Nat → Int32)} {d p a e : Nat} {v : Int} {L : List Nat} {U : Nat → Md} : cop l X d U p (15, a, 0, e, v, L) = oCm p a (fun x y => x = y) (fun x y => ¬ x = y) := rfl
theorem cp15_1 {l : Launch} {X : Nat × (Nat → Int32)} {d p a e : Nat} {v : Int} {L : List Nat} {U : Nat → Md} : cop l X d U p (15, a, 1, e, v, L) = oCm p a (fun x y => ¬ x = y) (fun x y => x = y) := rfl
theorem cp15_2 {l : Launch} {X : Nat × (Nat → Int32)} {d p a e : Nat} {v : Int} {L : List Nat} {U : Nat → Md} : cop l X d U p (15, a, 2, e, v, L) = oCm p a (fun x y => x < y) (fun x y => ¬ x < y) := rfl
theorem cp15_3 {l : Launch} {X : Nat × (Nat → Int32)} {d p a e : Nat} {v : Int} {L : List Nat} {U : Nat → Md} : cop l X d U p (15, a, 3, e, v, L) = oCm p a (fun x y => y ≤ x) (fun x y => ¬ y ≤ x) := rfl
theorem cp15_4 {l : Launch} {X : Nat × (Nat → Int32)} {d p a e : Nat} {v : Int} {L : List Nat} {U : Nat → Md} : cop l X d U p (15, a, 4, e, v, L) = oCm p a (fun x y => y < x) (fun x y => ¬ y < x) := rfl
theorem cp15_5 {l : Launch} {X : Nat × (Nat → Int32)} {d p a e : Nat} {v : Int} {L : List Nat} {U : Nat → Md} : cop l X d U p (15, a, 5, e, v, L) = oCm p a (fun x y => x ≤ y) (fun x y => ¬ x ≤ y) := rfl
theorem io_0_0 : Int32.ofInt 0 = (0 : Int32) := rfl
theorem io_1_1 : Int32.ofInt 1 = (1 : Int32) := rfl
theorem io_2_2 : Int32.ofInt 2 = (2 : Int32) := rfl
theorem io_3_m2 : Int32.ofInt (-2) = ((-2) : Int32) := rfl
theorem io_4_2147483647 : Int32.ofInt 2147483647 = (2147483647 : Int32) := rfl
theorem io_5_5 : Int32.ofInt 5 = (5 : Int32) := rfl
theorem io_6_m1 : Int32.ofInt (-1) = ((-1) : Int32) := rfl
theorem io_7_6 : Int32.ofInt 6 = (6 : Int32) := rfl
theorem io_8_24 : Int32.ofInt 24 = (24 : Int32) := rfl
theorem io_9_900 : Int32.ofInt 900 = (900 : Int32) := rfl
theorem io_11_3 : Int32.ofInt 3 = (3 : Int32) := rfl
theorem io_12_32 : Int32.ofInt 32 = (32 : Int32) := rfl
theorem io_13_97 : Int32.ofInt 97 = (97 : Int32) := rfl
theorem io_14_122 : Int32.ofInt 122 = (122 : Int32) := rfl
theorem io_15_48 : Int32.ofInt 48 = (48 : Int32) := rfl
theorem io_16_57 : Int32.ofInt 57 = (57 : Int32) := rfl
theorem io_17_59 : Int32.ofInt 59 = (59 : Int32) := rfl
theorem io_18_4 : Int32.ofInt 4 = (4 : Int32) := rfl
theorem io_19_8 : Int32.ofInt 8 = (8 : Int32) := rfl
theorem io_20_10 : Int32.ofInt 10 = (10 : Int32) := rfl
theorem io_21_100 : Int32.ofInt 100 = (100 : Int32) := rfl
theorem io_22_7 : Int32.ofInt 7 = (7 : Int32) := rfl
theorem io_23_99 : Int32.ofInt 99 = (99 : Int32) := rfl
theorem io_24_9 : Int32.ofInt 9 = (9 : Int32) := rfl
theorem io_25_30 : Int32.ofInt 30 = (30 : Int32) := rfl
theorem io_26_40 : Int32.ofInt 40 = (40 : Int32) := rfl
theorem io_27_15 : Int32.ofInt 15 = (15 : Int32) := rfl
theorem io_28_20 : Int32.ofInt 20 = (20 : Int32) := rfl
theorem io_29_1048576 : Int32.ofInt 1048576 = (1048576 : Int32) := rfl
theorem io_30_60 : Int32.ofInt 60 = (60 : Int32) := rfl
theorem io_31_1024 : Int32.ofInt 1024 = (1024 : Int32) := rfl
theorem io_32_m100 : Int32.ofInt (-100) = ((-100) : Int32) := rfl
theorem io_33_999 : Int32.ofInt 999 = (999 : Int32) := rfl
theorem io_34_16 : Int32.ofInt 16 = (16 : Int32) := rfl
theorem io_35_65537 : Int32.ofInt 65537 = (65537 : Int32) := rfl
theorem io_36_75 : Int32.ofInt 75 = (75 : Int32) := rfl
theorem io_37_74 : Int32.ofInt 74 = (74 : Int32) := rfl
theorem io_39_12 : Int32.ofInt 12 = (12 : Int32) := rfl
theorem io_44_25 : Int32.ofInt 25 = (25 : Int32) := rfl
theorem io_45_11 : Int32.ofInt 11 = (11 : Int32) := rfl
theorem io_46_18 : Int32.ofInt 18 = (18 : Int32) := rfl
theorem io_47_35 : Int32.ofInt 35 = (35 : Int32) := rfl
theorem io_48_45 : Int32.ofInt 45 = (45 : Int32) := rfl
theorem io_49_53 : Int32.ofInt 53 = (53 : Int32) := rfl
theorem io_50_61 : Int32.ofInt 61 = (61 : Int32) := rfl
theorem io_51_23 : Int32.ofInt 23 = (23 : Int32) := rfl
theorem io_52_1000 : Int32.ofInt 1000 = (1000 : Int32) := rfl
theorem io_53_100000000 : Int32.ofInt 100000000 = (100000000 : Int32) := rfl
theorem io_54_65536 : Int32.ofInt 65536 = (65536 : Int32) := rfl
theorem io_55_375 : Int32.ofInt 375 = (375 : Int32) := rfl
theorem io_56_1431655765 : Int32.ofInt 1431655765 = (1431655765 : Int32) := rfl
theorem io_57_858993459 : Int32.ofInt 858993459 = (858993459 : Int32) := rfl
theorem io_58_252645135 : Int32.ofInt 252645135 = (252645135 : Int32) := rfl
theorem io_59_63 : Int32.ofInt 63 = (63 : Int32) := rfl
theorem iol_0_0 : Int64.ofInt 0 = (0 : Int64) := rfl
theorem iol_1_32 : Int64.ofInt 32 = (32 : Int64) := rfl
theorem iol_2_m1 : Int64.ofInt (-1) = ((-1) : Int64) := rfl
theorem iol_3_100 : Int64.ofInt 100 = (100 : Int64) := rfl
theorem iol_4_1 : Int64.ofInt 1 = (1 : Int64) := rfl
theorem u0_0 : U0 0 = uX0_start := rfl
theorem u0_1 : U0 1 = uX0_pass := rfl
theorem u0_2 : U0 2 = uX0_passAll := rfl
theorem u0_3 : U0 3 = uX0_firstDrop := rfl
theorem u0_4 : U0 4 = uX1_clear := rfl
theorem u0_5 : U0 5 = uX1_addFace := rfl
theorem u0_6 : U0 6 = uX1_setCost := rfl
theorem u0_7 : U0 7 = uX1_solve := rfl
theorem u0_8 : U0 8 = uX1_place := rfl
theorem u0_9 : U0 9 = uX2_begin := rfl
theorem u0_10 : U0 10 = uX2_copy := rfl
theorem u0_11 : U0 11 = uX2_hasFallen := rfl
theorem u0_12 : U0 12 = uX3_clear := rfl
theorem u0_13 : U0 13 = uX3_cells := rfl
theorem u0_14 : U0 14 = uX3_isWall := rfl
theorem u0_15 : U0 15 = uX3_wallCount := rfl
theorem u0_16 : U0 16 = uX3_open := rfl
theorem u0_17 : U0 17 = uX3_faceOver := rfl
theorem u0_18 : U0 18 = uX3_toldCanonOf := rfl
theorem u0_19 : U0 19 = uX3_unsureOf := rfl
theorem u0_20 : U0 20 = uX3_vexedBy := rfl
theorem u0_21 : U0 21 = uX3_droppedCount := rfl
theorem u0_23 : U0 23 = uX4_reads := rfl
theorem u0_24 : U0 24 = uX4_fails := rfl
theorem u0_25 : U0 25 = uX4_take := rfl
theorem u0_26 : U0 26 = uX4_takeWord := rfl
theorem u0_27 : U0 27 = uX4_takeWhole := rfl
theorem u0_28 : U0 28 = uX4_isWord := rfl
theorem u0_29 : U0 29 = uX4_beginsLine := rfl
theorem u0_30 : U0 30 = uX4_readsLine := rfl
theorem u0_31 : U0 31 = uX4_readsClose := rfl
theorem u0_32 : U0 32 = uX4_readsWall := rfl
theorem u0_33 : U0 33 = uX4_readsFace := rfl
theorem u0_34 : U0 34 = uX4_kindHere := rfl
theorem u0_35 : U0 35 = uX4_readsCanon := rfl
theorem u0_36 : U0 36 = uX4_readsWalker := rfl
theorem u0_37 : U0 37 = uX4_readsUnsure := rfl
theorem u0_38 : U0 38 = uX4_readsDropped := rfl
theorem u0_39 : U0 39 = uX4_labelled := rfl
theorem u0_40 : U0 40 = uX4_bounded := rfl
theorem u0_41 : U0 41 = uX4_tells := rfl
theorem u0_42 : U0 42 = uX4_named := rfl
theorem u0_43 : U0 43 = uX4_nameAt := rfl
theorem u0_44 : U0 44 = uX5_beside := rfl
theorem u0_45 : U0 45 = uX5_fewest := rfl
theorem u0_46 : U0 46 = uX5_measure := rfl
theorem u0_47 : U0 47 = uX5_stepAt := rfl
theorem u0_49 : U0 49 = uX5_leastOnward := rfl
theorem u0_50 : U0 50 = uX5_weight := rfl
theorem u0_51 : U0 51 = uX5_next := rfl
theorem u0_105 : U0 105 = uX6_answer := rfl
theorem u0_106 : U0 106 = uX6_refuse := rfl
theorem u0_107 : U0 107 = uX6_within := rfl
theorem u0_108 : U0 108 = uX6_hasClose := rfl
theorem u0_109 : U0 109 = uX6_isFace := rfl
theorem u0_110 : U0 110 = uX6_isCanon := rfl
theorem u0_111 : U0 111 = uX6_isCell := rfl
theorem u0_112 : U0 112 = uX6_isWalker := rfl
theorem u0_113 : U0 113 = uX6_isSeed := rfl
theorem u0_114 : U0 114 = uX6_canonOf := rfl
theorem u0_115 : U0 115 = uX6_canFollow := rfl
theorem u0_116 : U0 116 = uX6_canLookAhead := rfl
theorem u0_117 : U0 117 = uX6_canWalk := rfl
theorem u0_118 : U0 118 = uX6_canGame := rfl
theorem u0_119 : U0 119 = uX6_canChance := rfl
theorem u0_120 : U0 120 = uX6_numberFits := rfl
theorem u0_121 : U0 121 = uX6_startNow := rfl
theorem u0_122 : U0 122 = uX6_follow := rfl
theorem u0_123 : U0 123 = uX6_foretellWet := rfl
theorem u0_124 : U0 124 = uX6_wetDaysOf := rfl
theorem u0_125 : U0 125 = uX6_firstDropBySeed := rfl
theorem u0_126 : U0 126 = uX6_draw := rfl
theorem u0_127 : U0 127 = uX6_isCalm := rfl
theorem u0_128 : U0 128 = uX6_couldHave := rfl
theorem u0_129 : U0 129 = uX6_costOf := rfl
theorem u0_130 : U0 130 = uX6_costIf := rfl
theorem u0_131 : U0 131 = uX6_tooFewFaces := rfl
theorem u0_132 : U0 132 = uX6_makeMatch := rfl
theorem u0_133 : U0 133 = uX6_wayCost := rfl
theorem u0_134 : U0 134 = uX6_stepsTogether := rfl
theorem u0_135 : U0 135 = uX6_fittingSets := rfl
theorem u0_136 : U0 136 = uX6_setFits := rfl
theorem u0_137 : U0 137 = uX6_dropFits := rfl
theorem u0_138 : U0 138 = uX6_setsWith := rfl
theorem u0_139 : U0 139 = uX6_leftAtMost := rfl
theorem u0_140 : U0 140 = uX6_bestToAsk := rfl
theorem u0_141 : U0 141 = uX6_share := rfl
theorem u0_142 : U0 142 = uX6_isRest := rfl
theorem u0_143 : U0 143 = uX6_chance := rfl
theorem u0_144 : U0 144 = uX6_greatestDivisor := rfl
theorem u0_145 : U0 145 = uX6_keep := rfl
theorem u0_146 : U0 146 = uX7_good := rfl
theorem u0_147 : U0 147 = uX7_no := rfl
theorem u0_148 : U0 148 = uX7_isNot := rfl
theorem u0_149 : U0 149 = uX7_in := rfl
theorem u0_150 : U0 150 = uX7_hasBit := rfl
theorem u0_151 : U0 151 = uX7_ones := rfl
theorem u0_152 : U0 152 = uX7_copy := rfl
theorem u0_153 : U0 153 = uX7_lowest := rfl
theorem u0_185 : U0 185 = uX7_isFace := rfl
theorem u0_186 : U0 186 = uX7_isCanon := rfl
theorem u0_187 : U0 187 = uX7_cells := rfl
theorem u0_188 : U0 188 = uX7_isCell := rfl
theorem u0_189 : U0 189 = uX7_isWalker := rfl
theorem u0_190 : U0 190 = uX7_why := rfl
theorem u0_191 : U0 191 = uX7_vexedBy := rfl
theorem u0_192 : U0 192 = uX7_letsGo := rfl
theorem u0_193 : U0 193 = uX7_dayOn := rfl
theorem u0_194 : U0 194 = uX7_daysOn := rfl
theorem u0_195 : U0 195 = uX7_letsOf := rfl
theorem u0_196 : U0 196 = uX7_fallenOn := rfl
theorem u0_197 : U0 197 = uX7_canonOf := rfl
theorem u0_200 : U0 200 = uX7_faceOver := rfl
theorem u0_201 : U0 201 = uX7_isWall := rfl
theorem u0_202 : U0 202 = uX7_stepFrom := rfl
theorem u0_203 : U0 203 = uX7_beside := rfl
theorem u0_206 : U0 206 = uX7_aheadWhy := rfl
theorem u0_213 : U0 213 = uX7_wetOften := rfl
theorem u0_219 : U0 219 = uX7_planAsNow := rfl
theorem u0_220 : U0 220 = uX7_goByPlan := rfl
theorem u0_221 : U0 221 = uX7_mayHave := rfl
theorem u0_222 : U0 222 = uX7_planWhy := rfl
theorem u0_224 : U0 224 = uX7_isBest := rfl
theorem u0_226 : U0 226 = uX7_tryPlans := rfl
theorem u0_227 : U0 227 = uX7_seekMatch := rfl
theorem u0_231 : U0 231 = uX7_costOf := rfl
theorem u0_232 : U0 232 = uX7_layCosts := rfl
theorem u0_233 : U0 233 = uX7_stepsOf := rfl
theorem u0_235 : U0 235 = uX7_wayOf := rfl
theorem u0_240 : U0 240 = uX7_allSteps := rfl
theorem u0_242 : U0 242 = uX7_wrongBy := rfl
theorem u0_243 : U0 243 = uX7_seekSets := rfl
theorem u0_248 : U0 248 = uX7_leavesOf := rfl
theorem u0_249 : U0 249 = uX7_askOf := rfl
theorem u0_253 : U0 253 = uX7_canonHas := rfl
theorem u0_254 : U0 254 = uX7_breadHas := rfl
theorem u0_256 : U0 256 = uX7_seekRests := rfl
theorem u0_259 : U0 259 = uX7_tryCalms := rfl
theorem u0_262 : U0 262 = uX7_drawWhy := rfl
theorem u0_265 : U0 265 = uX7_note := rfl
theorem u0_276 : U0 276 = uJ6_bitCount_0f7a4 := rfl
theorem u0_277 : U0 277 = uJ9_max_7cf53 := rfl
theorem u0_279 : U0 279 = uJ9_min_7cf53 := rfl
end CEC
noncomputable def cdX0_start : List (Nat × Cd) := [(0, (18, 1, 0, 0, 0, [])), (1, (18, 1, 1, 0, 0, [])), (2, (37, 3, 5, 2, 0, [])), (5, (1, 1, 2, 0, 0, [])), (6, (42, 0, 0, 0, 0, [])), (7, (38, 0, 0, 0, 0, [])), (10, (18, 1, 0, 0, 0, [])), (11, (18, 1, 1, 0, 0, [])), (12, (37, 3, 7, 2, 0, [])), (15, (1, 1, 2, 0, 0, [])), (16, (42, 0, 0, 0, 0, [])), (17, (38, 0, 1, 0, 0, [])), (20, (18, 1, 0, 0, 0, [])), (21, (1, 2, 4, 0, 0, [])), (23, (38, 0, 2, 0, 0, [])), (26, (18, 1, 0, 0, 0, [])), (27, (1, 1, 3, 0, 0, [])), (28, (14, 35, 3, 0, 0, [])), (31, (0, 1, 0, 0, 0, [])), (32, (13, 41, 0, 0, 0, [])), (35, (18, 1, 1, 0, 0, [])), (36, (37, 3, 13, 2, 0, [])), (39, (1, 1, 3, 0, 0, [])), (40, (42, 0, 0, 0, 0, [])), (41, (38, 0, 3, 0, 0, [])), (44, (18, 1, 0, 0, 0, [])), (45, (0, 1, 0, 0, 0, [])), (46, (38, 0, 4, 0, 0, [])), (49, (18, 1, 0, 0, 0, [])), (50, (18, 1, 1, 0, 0, [])), (51, (37, 3, 6, 2, 0, [])), (54, (1, 1, 2, 0, 0, [])), (55, (42, 0, 0, 0, 0, [])), (56, (38, 0, 5, 0, 0, [])), (59, (18, 1, 0, 0, 0, [])), (60, (0, 1, 0, 0, 0, [])), (61, (38, 0, 6, 0, 0, [])), (64, (18, 1, 0, 0, 0, [])), (65, (0, 1, 0, 0, 0, [])), (66, (38, 0, 7, 0, 0, [])), (69, (57, 0, 0, 0, 0, []))]
set_option maxRecDepth 20000 in
theorem ceX0_start {l : Launch} {X : Nat × (Nat → Int32)} {d : Nat} : tbX0_start l X d = ctb l X d U0 cdX0_start := cec (cp18) <| cec (cp18) <| cec (cp37) <| cec (cp1) <| cec (cp42) <| cec (cp38) <| cec (cp18) <| cec (cp18) <| cec (cp37) <| cec (cp1) <| cec (cp42) <| cec (cp38) <| cec (cp18) <| cec (cp1) <| cec (cp38) <| cec (cp18) <| cec (cp1) <| cec (cp14_3) <| cec (cp0 io_0_0) <| cec (cp13) <| cec (cp18) <| cec (cp37) <| cec (cp1) <| cec (cp42) <| cec (cp38) <| cec (cp18) <| cec (cp0 io_0_0) <| cec (cp38) <| cec (cp18) <| cec (cp18) <| cec (cp37) <| cec (cp1) <| cec (cp42) <| cec (cp38) <| cec (cp18) <| cec (cp0 io_0_0) <| cec (cp38) <| cec (cp18) <| cec (cp0 io_0_0) <| cec (cp38) <| cec (cp57) <| cen
noncomputable def cdX0_pass : List (Nat × Cd) := [(0, (18, 1, 0, 0, 0, [])), (1, (34, 0, 0, 0, 0, [])), (2, (37, 0, 4, 0, 0, [])), (5, (0, 1, 0, 0, 1, [])), (6, (4, 0, 0, 0, 0, [])), (7, (38, 0, 4, 0, 0, [])), (10, (18, 1, 0, 0, 0, [])), (11, (37, 0, 5, 0, 0, [])), (14, (14, 19, 1, 0, 0, [])), (17, (0, 1, 0, 0, 0, [])), (18, (55, 0, 0, 0, 0, [])), (19, (1, 1, 1, 0, 0, [])), (20, (14, 55, 1, 0, 0, [])), (23, (18, 1, 0, 0, 0, [])), (24, (37, 0, 3, 0, 0, [])), (27, (14, 55, 5, 0, 0, [])), (30, (18, 1, 0, 0, 0, [])), (31, (37, 0, 4, 0, 0, [])), (34, (18, 1, 0, 0, 0, [])), (35, (37, 0, 3, 0, 0, [])), (38, (22, 0, 0, 0, 0, [])), (39, (14, 55, 1, 0, 0, [])), (42, (18, 1, 0, 0, 0, [])), (43, (34, 0, 0, 0, 0, [])), (44, (37, 0, 6, 0, 0, [])), (47, (18, 1, 0, 0, 0, [])), (48, (37, 0, 2, 0, 0, [])), (51, (4, 0, 0, 0, 0, [])), (52, (38, 0, 6, 0, 0, [])), (55, (18, 1, 0, 0, 0, [])), (56, (37, 0, 0, 0, 0, [])), (59, (0, 1, 0, 0, 2, [])), (60, (15, 72, 1, 0, 0, [])), (63, (0, 1, 0, 0, 2, [])), (64, (18, 1, 0, 0, 0, [])), (65, (37, 0, 5, 0, 0, [])), (68, (6, 0, 0, 0, 0, [])), (69, (13, 76, 0, 0, 0, [])), (72, (18, 1, 0, 0, 0, [])), (73, (37, 0, 5, 0, 0, [])), (76, (2, 1, 2, 0, 0, [])), (77, (18, 1, 0, 0, 0, [])), (78, (37, 0, 6, 0, 0, [])), (81, (1, 1, 2, 0, 0, [])), (82, (15, 87, 3, 0, 0, [])), (85, (0, 1, 0, 0, 0, [])), (86, (55, 0, 0, 0, 0, [])), (87, (18, 1, 0, 0, 0, [])), (88, (18, 1, 0, 0, 0, [])), (89, (37, 0, 0, 0, 0, [])), (92, (0, 1, 0, 0, 1, [])), (93, (15, 108, 1, 0, 0, [])), (96, (18, 1, 0, 0, 0, [])), (97, (37, 0, 6, 0, 0, [])), (100, (18, 1, 0, 0, 0, [])), (101, (37, 0, 5, 0, 0, [])), (104, (5, 0, 0, 0, 0, [])), (105, (13, 109, 0, 0, 0, [])), (108, (0, 1, 0, 0, 0, [])), (109, (38, 0, 6, 0, 0, [])), (112, (18, 1, 0, 0, 0, [])), (113, (34, 0, 0, 0, 0, [])), (114, (37, 0, 7, 0, 0, [])), (117, (0, 1, 0, 0, 1, [])), (118, (4, 0, 0, 0, 0, [])), (119, (38, 0, 7, 0, 0, [])), (122, (18, 1, 0, 0, 0, [])), (123, (34, 0, 0, 0, 0, [])), (124, (37, 0, 5, 0, 0, [])), (127, (18, 1, 0, 0, 0, [])), (128, (37, 0, 1, 0, 0, [])), (131, (5, 0, 0, 0, 0, [])), (132, (38, 0, 5, 0, 0, [])), (135, (18, 1, 0, 0, 0, [])), (136, (37, 0, 5, 0, 0, [])), (139, (0, 1, 0, 0, 1, [])), (140, (15, 153, 3, 0, 0, [])), (143, (18, 1, 0, 0, 0, [])), (144, (0, 1, 0, 0, 0, [])), (145, (38, 0, 5, 0, 0, [])), (148, (18, 1, 0, 0, 0, [])), (149, (0, 1, 0, 0, 0, [])), (150, (38, 0, 6, 0, 0, [])), (153, (0, 1, 0, 0, 1, [])), (154, (55, 0, 0, 0, 0, []))]
set_option maxRecDepth 20000 in
theorem ceX0_pass {l : Launch} {X : Nat × (Nat → Int32)} {d : Nat} : tbX0_pass l X d = ctb l X d U0 cdX0_pass := cec (cp18) <| cec (cp34) <| cec (cp37) <| cec (cp0 io_1_1) <| cec (cp4) <| cec (cp38) <| cec (cp18) <| cec (cp37) <| cec (cp14_1) <| cec (cp0 io_0_0) <| cec (cp55) <| cec (cp1) <| cec (cp14_1) <| cec (cp18) <| cec (cp37) <| cec (cp14_5) <| cec (cp18) <| cec (cp37) <| cec (cp18) <| cec (cp37) <| cec (cp22) <| cec (cp14_1) <| cec (cp18) <| cec (cp34) <| cec (cp37) <| cec (cp18) <| cec (cp37) <| cec (cp4) <| cec (cp38) <| cec (cp18) <| cec (cp37) <| cec (cp0 io_2_2) <| cec (cp15_1) <| cec (cp0 io_2_2) <| cec (cp18) <| cec (cp37) <| cec (cp6) <| cec (cp13) <| cec (cp18) <| cec (cp37) <| cec (cp2) <| cec (cp18) <| cec (cp37) <| cec (cp1) <| cec (cp15_3) <| cec (cp0 io_0_0) <| cec (cp55) <| cec (cp18) <| cec (cp18) <| cec (cp37) <| cec (cp0 io_1_1) <| cec (cp15_1) <| cec (cp18) <| cec (cp37) <| cec (cp18) <| cec (cp37) <| cec (cp5) <| cec (cp13) <| cec (cp0 io_0_0) <| cec (cp38) <| cec (cp18) <| cec (cp34) <| cec (cp37) <| cec (cp0 io_1_1) <| cec (cp4) <| cec (cp38) <| cec (cp18) <| cec (cp34) <| cec (cp37) <| cec (cp18) <| cec (cp37) <| cec (cp5) <| cec (cp38) <| cec (cp18) <| cec (cp37) <| cec (cp0 io_1_1) <| cec (cp15_3) <| cec (cp18) <| cec (cp0 io_0_0) <| cec (cp38) <| cec (cp18) <| cec (cp0 io_0_0) <| cec (cp38) <| cec (cp0 io_1_1) <| cec (cp55) <| cen
noncomputable def cdX0_passAll : List (Nat × Cd) := [(0, (0, 1, 0, 0, 1, [])), (1, (2, 1, 2, 0, 0, [])), (2, (1, 1, 2, 0, 0, [])), (3, (1, 1, 1, 0, 0, [])), (4, (15, 19, 4, 0, 0, [])), (7, (18, 1, 0, 0, 0, [])), (8, (0, 1, 0, 0, 0, [])), (9, (51, 1, 0, 1, 0, [])), (12, (36, 0, 0, 0, 0, [])), (13, (3, 2, 0, 0, 1, [])), (16, (13, 2, 0, 0, 0, [])), (19, (57, 0, 0, 0, 0, []))]
set_option maxRecDepth 20000 in
theorem ceX0_passAll {l : Launch} {X : Nat × (Nat → Int32)} {d : Nat} : tbX0_passAll l X d = ctb l X d U0 cdX0_passAll := cec (cp0 io_1_1) <| cec (cp2) <| cec (cp1) <| cec (cp1) <| cec (cp15_4) <| cec (cp18) <| cec (cp0 io_0_0) <| cec (cp51 u0_1) <| cec (cp36) <| cec (cp3 io_1_1) <| cec (cp13) <| cec (cp57) <| cen
noncomputable def cdX0_firstDrop : List (Nat × Cd) := [(0, (0, 1, 0, 0, 1, [])), (1, (2, 1, 2, 0, 0, [])), (2, (1, 1, 2, 0, 0, [])), (3, (1, 1, 1, 0, 0, [])), (4, (15, 23, 4, 0, 0, [])), (7, (18, 1, 0, 0, 0, [])), (8, (0, 1, 0, 0, 0, [])), (9, (51, 1, 0, 1, 0, [])), (12, (14, 17, 0, 0, 0, [])), (15, (1, 1, 2, 0, 0, [])), (16, (54, 0, 0, 0, 0, [])), (17, (3, 2, 0, 0, 1, [])), (20, (13, 2, 0, 0, 0, [])), (23, (0, 2, 0, 0, (-2), [])), (25, (54, 0, 0, 0, 0, []))]
set_option maxRecDepth 20000 in
theorem ceX0_firstDrop {l : Launch} {X : Nat × (Nat → Int32)} {d : Nat} : tbX0_firstDrop l X d = ctb l X d U0 cdX0_firstDrop := cec (cp0 io_1_1) <| cec (cp2) <| cec (cp1) <| cec (cp1) <| cec (cp15_4) <| cec (cp18) <| cec (cp0 io_0_0) <| cec (cp51 u0_1) <| cec (cp14_0) <| cec (cp1) <| cec (cp54) <| cec (cp3 io_1_1) <| cec (cp13) <| cec (cp0 io_3_m2) <| cec (cp54) <| cen
noncomputable def cdX1_clear : List (Nat × Cd) := [(0, (18, 1, 0, 0, 0, [])), (1, (1, 1, 1, 0, 0, [])), (2, (38, 1, 4, 0, 0, [])), (5, (18, 1, 0, 0, 0, [])), (6, (1, 1, 2, 0, 0, [])), (7, (38, 1, 5, 0, 0, [])), (10, (18, 1, 0, 0, 0, [])), (11, (0, 1, 0, 0, 0, [])), (12, (38, 1, 6, 0, 0, [])), (15, (18, 1, 0, 0, 0, [])), (16, (0, 1, 0, 0, 0, [])), (17, (38, 1, 7, 0, 0, [])), (20, (18, 1, 0, 0, 0, [])), (21, (0, 2, 0, 0, 2147483647, [])), (23, (38, 1, 8, 0, 0, [])), (26, (57, 0, 0, 0, 0, []))]
set_option maxRecDepth 20000 in
theorem ceX1_clear {l : Launch} {X : Nat × (Nat → Int32)} {d : Nat} : tbX1_clear l X d = ctb l X d U0 cdX1_clear := cec (cp18) <| cec (cp1) <| cec (cp38) <| cec (cp18) <| cec (cp1) <| cec (cp38) <| cec (cp18) <| cec (cp0 io_0_0) <| cec (cp38) <| cec (cp18) <| cec (cp0 io_0_0) <| cec (cp38) <| cec (cp18) <| cec (cp0 io_4_2147483647) <| cec (cp38) <| cec (cp57) <| cen
noncomputable def cdX1_addFace : List (Nat × Cd) := [(0, (18, 1, 0, 0, 0, [])), (1, (37, 1, 1, 2, 0, [])), (4, (1, 1, 1, 0, 0, [])), (5, (1, 1, 2, 0, 0, [])), (6, (46, 0, 0, 0, 0, [])), (7, (18, 1, 0, 0, 0, [])), (8, (34, 0, 0, 0, 0, [])), (9, (37, 1, 6, 0, 0, [])), (12, (0, 1, 0, 0, 1, [])), (13, (1, 1, 1, 0, 0, [])), (14, (10, 0, 0, 0, 0, [])), (15, (8, 0, 0, 0, 0, [])), (16, (38, 1, 6, 0, 0, [])), (19, (18, 1, 0, 0, 0, [])), (20, (34, 0, 0, 0, 0, [])), (21, (37, 1, 7, 0, 0, [])), (24, (1, 1, 2, 0, 0, [])), (25, (4, 0, 0, 0, 0, [])), (26, (38, 1, 7, 0, 0, [])), (29, (57, 0, 0, 0, 0, []))]
set_option maxRecDepth 20000 in
theorem ceX1_addFace {l : Launch} {X : Nat × (Nat → Int32)} {d : Nat} : tbX1_addFace l X d = ctb l X d U0 cdX1_addFace := cec (cp18) <| cec (cp37) <| cec (cp1) <| cec (cp1) <| cec (cp46) <| cec (cp18) <| cec (cp34) <| cec (cp37) <| cec (cp0 io_1_1) <| cec (cp1) <| cec (cp10) <| cec (cp8) <| cec (cp38) <| cec (cp18) <| cec (cp34) <| cec (cp37) <| cec (cp1) <| cec (cp4) <| cec (cp38) <| cec (cp57) <| cen
noncomputable def cdX1_setCost : List (Nat × Cd) := [(0, (18, 1, 0, 0, 0, [])), (1, (37, 1, 0, 2, 0, [])), (4, (1, 1, 1, 0, 0, [])), (5, (45, 12, 0, 0, 0, [])), (6, (1, 1, 2, 0, 0, [])), (7, (1, 1, 3, 0, 0, [])), (8, (18, 1, 0, 0, 0, [])), (9, (37, 1, 1, 2, 0, [])), (12, (1, 1, 1, 0, 0, [])), (13, (42, 0, 0, 0, 0, [])), (14, (5, 0, 0, 0, 0, [])), (15, (46, 0, 0, 0, 0, [])), (16, (57, 0, 0, 0, 0, []))]
set_option maxRecDepth 20000 in
theorem ceX1_setCost {l : Launch} {X : Nat × (Nat → Int32)} {d : Nat} : tbX1_setCost l X d = ctb l X d U0 cdX1_setCost := cec (cp18) <| cec (cp37) <| cec (cp1) <| cec (cp45) <| cec (cp1) <| cec (cp1) <| cec (cp18) <| cec (cp37) <| cec (cp1) <| cec (cp42) <| cec (cp5) <| cec (cp46) <| cec (cp57) <| cen
noncomputable def cdX1_solve : List (Nat × Cd) := [(0, (18, 1, 0, 0, 0, [])), (1, (0, 1, 0, 0, 0, [])), (2, (18, 1, 0, 0, 0, [])), (3, (37, 1, 6, 0, 0, [])), (6, (18, 1, 0, 0, 0, [])), (7, (37, 1, 7, 0, 0, [])), (10, (51, 8, 1, 3, 0, [])), (13, (57, 0, 0, 0, 0, []))]
set_option maxRecDepth 20000 in
theorem ceX1_solve {l : Launch} {X : Nat × (Nat → Int32)} {d : Nat} : tbX1_solve l X d = ctb l X d U0 cdX1_solve := cec (cp18) <| cec (cp0 io_0_0) <| cec (cp18) <| cec (cp37) <| cec (cp18) <| cec (cp37) <| cec (cp51 u0_8) <| cec (cp57) <| cen
noncomputable def cdX1_place : List (Nat × Cd) := [(0, (1, 1, 1, 0, 0, [])), (1, (18, 1, 0, 0, 0, [])), (2, (37, 1, 5, 0, 0, [])), (5, (15, 13, 3, 0, 0, [])), (8, (1, 1, 1, 0, 0, [])), (9, (0, 1, 0, 0, 5, [])), (10, (15, 41, 2, 0, 0, [])), (13, (1, 1, 3, 0, 0, [])), (14, (18, 1, 0, 0, 0, [])), (15, (37, 1, 8, 0, 0, [])), (18, (15, 40, 3, 0, 0, [])), (21, (18, 1, 0, 0, 0, [])), (22, (1, 1, 3, 0, 0, [])), (23, (38, 1, 8, 0, 0, [])), (26, (18, 1, 0, 0, 0, [])), (27, (37, 1, 2, 2, 0, [])), (30, (0, 1, 0, 0, 0, [])), (31, (18, 1, 0, 0, 0, [])), (32, (37, 1, 3, 2, 0, [])), (35, (0, 1, 0, 0, 0, [])), (36, (0, 1, 0, 0, 5, [])), (37, (50, 0, 0, 0, 0, [])), (40, (57, 0, 0, 0, 0, [])), (41, (0, 1, 0, 0, 0, [])), (42, (2, 2, 4, 0, 0, [])), (44, (1, 2, 4, 0, 0, [])), (46, (18, 1, 0, 0, 0, [])), (47, (37, 1, 4, 0, 0, [])), (50, (15, 102, 3, 0, 0, [])), (53, (1, 1, 2, 0, 0, [])), (54, (1, 2, 4, 0, 0, [])), (56, (11, 0, 0, 0, 0, [])), (57, (0, 1, 0, 0, 1, [])), (58, (7, 0, 0, 0, 0, [])), (59, (14, 96, 0, 0, 0, [])), (62, (18, 1, 0, 0, 0, [])), (63, (37, 1, 2, 2, 0, [])), (66, (1, 1, 1, 0, 0, [])), (67, (1, 2, 4, 0, 0, [])), (69, (46, 0, 0, 0, 0, [])), (70, (18, 1, 0, 0, 0, [])), (71, (1, 1, 1, 0, 0, [])), (72, (0, 1, 0, 0, 1, [])), (73, (4, 0, 0, 0, 0, [])), (74, (1, 1, 2, 0, 0, [])), (75, (0, 1, 0, 0, 1, [])), (76, (1, 2, 4, 0, 0, [])), (78, (10, 0, 0, 0, 0, [])), (79, (0, 1, 0, 0, (-1), [])), (80, (9, 0, 0, 0, 0, [])), (81, (7, 0, 0, 0, 0, [])), (82, (1, 1, 3, 0, 0, [])), (83, (18, 1, 0, 0, 0, [])), (84, (37, 1, 0, 2, 0, [])), (87, (1, 2, 4, 0, 0, [])), (89, (45, 12, 0, 0, 0, [])), (90, (1, 1, 1, 0, 0, [])), (91, (42, 0, 0, 0, 0, [])), (92, (4, 0, 0, 0, 0, [])), (93, (51, 8, 1, 3, 0, [])), (96, (3, 4, 0, 0, 1, [])), (99, (13, 44, 0, 0, 0, [])), (102, (57, 0, 0, 0, 0, []))]
set_option maxRecDepth 20000 in
theorem ceX1_place {l : Launch} {X : Nat × (Nat → Int32)} {d : Nat} : tbX1_place l X d = ctb l X d U0 cdX1_place := cec (cp1) <| cec (cp18) <| cec (cp37) <| cec (cp15_3) <| cec (cp1) <| cec (cp0 io_5_5) <| cec (cp15_2) <| cec (cp1) <| cec (cp18) <| cec (cp37) <| cec (cp15_3) <| cec (cp18) <| cec (cp1) <| cec (cp38) <| cec (cp18) <| cec (cp37) <| cec (cp0 io_0_0) <| cec (cp18) <| cec (cp37) <| cec (cp0 io_0_0) <| cec (cp0 io_5_5) <| cec (cp50) <| cec (cp57) <| cec (cp0 io_0_0) <| cec (cp2) <| cec (cp1) <| cec (cp18) <| cec (cp37) <| cec (cp15_3) <| cec (cp1) <| cec (cp1) <| cec (cp11) <| cec (cp0 io_1_1) <| cec (cp7) <| cec (cp14_0) <| cec (cp18) <| cec (cp37) <| cec (cp1) <| cec (cp1) <| cec (cp46) <| cec (cp18) <| cec (cp1) <| cec (cp0 io_1_1) <| cec (cp4) <| cec (cp1) <| cec (cp0 io_1_1) <| cec (cp1) <| cec (cp10) <| cec (cp0 io_6_m1) <| cec (cp9) <| cec (cp7) <| cec (cp1) <| cec (cp18) <| cec (cp37) <| cec (cp1) <| cec (cp45) <| cec (cp1) <| cec (cp42) <| cec (cp4) <| cec (cp51 u0_8) <| cec (cp3 io_1_1) <| cec (cp13) <| cec (cp57) <| cen
noncomputable def cdX2_begin : List (Nat × Cd) := [(0, (18, 1, 1, 0, 0, [])), (1, (37, 3, 6, 2, 0, [])), (4, (0, 1, 0, 0, 0, [])), (5, (18, 1, 0, 0, 0, [])), (6, (37, 2, 0, 2, 0, [])), (9, (0, 1, 0, 0, 0, [])), (10, (0, 2, 0, 0, 6, [])), (12, (50, 0, 0, 0, 0, [])), (15, (18, 1, 1, 0, 0, [])), (16, (37, 3, 11, 2, 0, [])), (19, (0, 1, 0, 0, 0, [])), (20, (18, 1, 0, 0, 0, [])), (21, (37, 2, 3, 2, 0, [])), (24, (0, 1, 0, 0, 0, [])), (25, (0, 1, 0, 0, 5, [])), (26, (50, 0, 0, 0, 0, [])), (29, (0, 1, 0, 0, 0, [])), (30, (2, 1, 2, 0, 0, [])), (31, (1, 1, 2, 0, 0, [])), (32, (0, 2, 0, 0, 6, [])), (34, (15, 57, 3, 0, 0, [])), (37, (18, 1, 0, 0, 0, [])), (38, (37, 2, 1, 2, 0, [])), (41, (1, 1, 2, 0, 0, [])), (42, (0, 1, 0, 0, 0, [])), (43, (46, 0, 0, 0, 0, [])), (44, (18, 1, 0, 0, 0, [])), (45, (37, 2, 2, 2, 0, [])), (48, (1, 1, 2, 0, 0, [])), (49, (0, 1, 0, 0, 0, [])), (50, (46, 0, 0, 0, 0, [])), (51, (3, 2, 0, 0, 1, [])), (54, (13, 31, 0, 0, 0, [])), (57, (18, 1, 0, 0, 0, [])), (58, (0, 1, 0, 0, 0, [])), (59, (38, 2, 4, 0, 0, [])), (62, (18, 1, 0, 0, 0, [])), (63, (0, 1, 0, 0, 0, [])), (64, (38, 2, 5, 0, 0, [])), (67, (57, 0, 0, 0, 0, []))]
set_option maxRecDepth 20000 in
theorem ceX2_begin {l : Launch} {X : Nat × (Nat → Int32)} {d : Nat} : tbX2_begin l X d = ctb l X d U0 cdX2_begin := cec (cp18) <| cec (cp37) <| cec (cp0 io_0_0) <| cec (cp18) <| cec (cp37) <| cec (cp0 io_0_0) <| cec (cp0 io_7_6) <| cec (cp50) <| cec (cp18) <| cec (cp37) <| cec (cp0 io_0_0) <| cec (cp18) <| cec (cp37) <| cec (cp0 io_0_0) <| cec (cp0 io_5_5) <| cec (cp50) <| cec (cp0 io_0_0) <| cec (cp2) <| cec (cp1) <| cec (cp0 io_7_6) <| cec (cp15_3) <| cec (cp18) <| cec (cp37) <| cec (cp1) <| cec (cp0 io_0_0) <| cec (cp46) <| cec (cp18) <| cec (cp37) <| cec (cp1) <| cec (cp0 io_0_0) <| cec (cp46) <| cec (cp3 io_1_1) <| cec (cp13) <| cec (cp18) <| cec (cp0 io_0_0) <| cec (cp38) <| cec (cp18) <| cec (cp0 io_0_0) <| cec (cp38) <| cec (cp57) <| cen
noncomputable def cdX2_copy : List (Nat × Cd) := [(0, (18, 1, 1, 0, 0, [])), (1, (37, 2, 0, 2, 0, [])), (4, (0, 1, 0, 0, 0, [])), (5, (18, 1, 0, 0, 0, [])), (6, (37, 2, 0, 2, 0, [])), (9, (0, 1, 0, 0, 0, [])), (10, (0, 2, 0, 0, 6, [])), (12, (50, 0, 0, 0, 0, [])), (15, (18, 1, 1, 0, 0, [])), (16, (37, 2, 1, 2, 0, [])), (19, (0, 1, 0, 0, 0, [])), (20, (18, 1, 0, 0, 0, [])), (21, (37, 2, 1, 2, 0, [])), (24, (0, 1, 0, 0, 0, [])), (25, (0, 2, 0, 0, 6, [])), (27, (50, 0, 0, 0, 0, [])), (30, (18, 1, 1, 0, 0, [])), (31, (37, 2, 2, 2, 0, [])), (34, (0, 1, 0, 0, 0, [])), (35, (18, 1, 0, 0, 0, [])), (36, (37, 2, 2, 2, 0, [])), (39, (0, 1, 0, 0, 0, [])), (40, (0, 2, 0, 0, 6, [])), (42, (50, 0, 0, 0, 0, [])), (45, (18, 1, 1, 0, 0, [])), (46, (37, 2, 3, 2, 0, [])), (49, (0, 1, 0, 0, 0, [])), (50, (18, 1, 0, 0, 0, [])), (51, (37, 2, 3, 2, 0, [])), (54, (0, 1, 0, 0, 0, [])), (55, (0, 1, 0, 0, 5, [])), (56, (50, 0, 0, 0, 0, [])), (59, (18, 1, 0, 0, 0, [])), (60, (18, 1, 1, 0, 0, [])), (61, (37, 2, 4, 0, 0, [])), (64, (38, 2, 4, 0, 0, [])), (67, (18, 1, 0, 0, 0, [])), (68, (18, 1, 1, 0, 0, [])), (69, (37, 2, 5, 0, 0, [])), (72, (38, 2, 5, 0, 0, [])), (75, (57, 0, 0, 0, 0, []))]
set_option maxRecDepth 20000 in
theorem ceX2_copy {l : Launch} {X : Nat × (Nat → Int32)} {d : Nat} : tbX2_copy l X d = ctb l X d U0 cdX2_copy := cec (cp18) <| cec (cp37) <| cec (cp0 io_0_0) <| cec (cp18) <| cec (cp37) <| cec (cp0 io_0_0) <| cec (cp0 io_7_6) <| cec (cp50) <| cec (cp18) <| cec (cp37) <| cec (cp0 io_0_0) <| cec (cp18) <| cec (cp37) <| cec (cp0 io_0_0) <| cec (cp0 io_7_6) <| cec (cp50) <| cec (cp18) <| cec (cp37) <| cec (cp0 io_0_0) <| cec (cp18) <| cec (cp37) <| cec (cp0 io_0_0) <| cec (cp0 io_7_6) <| cec (cp50) <| cec (cp18) <| cec (cp37) <| cec (cp0 io_0_0) <| cec (cp18) <| cec (cp37) <| cec (cp0 io_0_0) <| cec (cp0 io_5_5) <| cec (cp50) <| cec (cp18) <| cec (cp18) <| cec (cp37) <| cec (cp38) <| cec (cp18) <| cec (cp18) <| cec (cp37) <| cec (cp38) <| cec (cp57) <| cen
noncomputable def cdX2_hasFallen : List (Nat × Cd) := [(0, (18, 1, 0, 0, 0, [])), (1, (37, 2, 0, 2, 0, [])), (4, (1, 1, 1, 0, 0, [])), (5, (42, 0, 0, 0, 0, [])), (6, (14, 13, 1, 0, 0, [])), (9, (0, 1, 0, 0, 1, [])), (10, (13, 14, 0, 0, 0, [])), (13, (0, 1, 0, 0, 0, [])), (14, (55, 0, 0, 0, 0, []))]
set_option maxRecDepth 20000 in
theorem ceX2_hasFallen {l : Launch} {X : Nat × (Nat → Int32)} {d : Nat} : tbX2_hasFallen l X d = ctb l X d U0 cdX2_hasFallen := cec (cp18) <| cec (cp37) <| cec (cp1) <| cec (cp42) <| cec (cp14_1) <| cec (cp0 io_1_1) <| cec (cp13) <| cec (cp0 io_0_0) <| cec (cp55) <| cen
noncomputable def cdX3_clear : List (Nat × Cd) := [(0, (18, 1, 0, 0, 0, [])), (1, (0, 1, 0, 0, 0, [])), (2, (38, 3, 0, 0, 0, [])), (5, (18, 1, 0, 0, 0, [])), (6, (0, 1, 0, 0, 0, [])), (7, (38, 3, 1, 0, 0, [])), (10, (18, 1, 0, 0, 0, [])), (11, (0, 1, 0, 0, 0, [])), (12, (38, 3, 2, 0, 0, [])), (15, (18, 1, 0, 0, 0, [])), (16, (0, 1, 0, 0, 0, [])), (17, (38, 3, 3, 0, 0, [])), (20, (18, 1, 0, 0, 0, [])), (21, (0, 1, 0, 0, 0, [])), (22, (38, 3, 4, 0, 0, [])), (25, (18, 1, 0, 0, 0, [])), (26, (0, 1, 0, 0, 0, [])), (27, (38, 3, 10, 0, 0, [])), (30, (18, 1, 0, 0, 0, [])), (31, (0, 1, 0, 0, 0, [])), (32, (38, 3, 14, 0, 0, [])), (35, (18, 1, 0, 0, 0, [])), (36, (0, 1, 0, 0, 0, [])), (37, (38, 3, 17, 0, 0, [])), (40, (0, 1, 0, 0, 0, [])), (41, (2, 1, 1, 0, 0, [])), (42, (1, 1, 1, 0, 0, [])), (43, (0, 2, 0, 0, 6, [])), (45, (15, 61, 3, 0, 0, [])), (48, (18, 1, 0, 0, 0, [])), (49, (37, 3, 9, 2, 0, [])), (52, (1, 1, 1, 0, 0, [])), (53, (0, 1, 0, 0, 0, [])), (54, (46, 0, 0, 0, 0, [])), (55, (3, 1, 0, 0, 1, [])), (58, (13, 42, 0, 0, 0, [])), (61, (57, 0, 0, 0, 0, []))]
set_option maxRecDepth 20000 in
theorem ceX3_clear {l : Launch} {X : Nat × (Nat → Int32)} {d : Nat} : tbX3_clear l X d = ctb l X d U0 cdX3_clear := cec (cp18) <| cec (cp0 io_0_0) <| cec (cp38) <| cec (cp18) <| cec (cp0 io_0_0) <| cec (cp38) <| cec (cp18) <| cec (cp0 io_0_0) <| cec (cp38) <| cec (cp18) <| cec (cp0 io_0_0) <| cec (cp38) <| cec (cp18) <| cec (cp0 io_0_0) <| cec (cp38) <| cec (cp18) <| cec (cp0 io_0_0) <| cec (cp38) <| cec (cp18) <| cec (cp0 io_0_0) <| cec (cp38) <| cec (cp18) <| cec (cp0 io_0_0) <| cec (cp38) <| cec (cp0 io_0_0) <| cec (cp2) <| cec (cp1) <| cec (cp0 io_7_6) <| cec (cp15_3) <| cec (cp18) <| cec (cp37) <| cec (cp1) <| cec (cp0 io_0_0) <| cec (cp46) <| cec (cp3 io_1_1) <| cec (cp13) <| cec (cp57) <| cen
noncomputable def cdX3_cells : List (Nat × Cd) := [(0, (18, 1, 0, 0, 0, [])), (1, (37, 3, 0, 0, 0, [])), (4, (18, 1, 0, 0, 0, [])), (5, (37, 3, 1, 0, 0, [])), (8, (6, 0, 0, 0, 0, [])), (9, (54, 0, 0, 0, 0, []))]
set_option maxRecDepth 20000 in
theorem ceX3_cells {l : Launch} {X : Nat × (Nat → Int32)} {d : Nat} : tbX3_cells l X d = ctb l X d U0 cdX3_cells := cec (cp18) <| cec (cp37) <| cec (cp18) <| cec (cp37) <| cec (cp6) <| cec (cp54) <| cen
noncomputable def cdX3_isWall : List (Nat × Cd) := [(0, (18, 1, 0, 0, 0, [])), (1, (37, 3, 3, 0, 0, [])), (4, (1, 1, 1, 0, 0, [])), (5, (11, 0, 0, 0, 0, [])), (6, (0, 1, 0, 0, 1, [])), (7, (7, 0, 0, 0, 0, [])), (8, (14, 15, 0, 0, 0, [])), (11, (0, 1, 0, 0, 1, [])), (12, (13, 16, 0, 0, 0, [])), (15, (0, 1, 0, 0, 0, [])), (16, (55, 0, 0, 0, 0, []))]
set_option maxRecDepth 20000 in
theorem ceX3_isWall {l : Launch} {X : Nat × (Nat → Int32)} {d : Nat} : tbX3_isWall l X d = ctb l X d U0 cdX3_isWall := cec (cp18) <| cec (cp37) <| cec (cp1) <| cec (cp11) <| cec (cp0 io_1_1) <| cec (cp7) <| cec (cp14_0) <| cec (cp0 io_1_1) <| cec (cp13) <| cec (cp0 io_0_0) <| cec (cp55) <| cen
noncomputable def cdX3_wallCount : List (Nat × Cd) := [(0, (18, 1, 0, 0, 0, [])), (1, (37, 3, 3, 0, 0, [])), (4, (52, 276, 0, 1, 0, [])), (7, (54, 0, 0, 0, 0, []))]
set_option maxRecDepth 20000 in
theorem ceX3_wallCount {l : Launch} {X : Nat × (Nat → Int32)} {d : Nat} : tbX3_wallCount l X d = ctb l X d U0 cdX3_wallCount := cec (cp18) <| cec (cp37) <| cec (cp52 u0_276) <| cec (cp54) <| cen
noncomputable def cdX3_open : List (Nat × Cd) := [(0, (0, 1, 0, 0, 1, [])), (1, (18, 1, 0, 0, 0, [])), (2, (51, 13, 3, 0, 0, [])), (5, (10, 0, 0, 0, 0, [])), (6, (0, 1, 0, 0, 1, [])), (7, (5, 0, 0, 0, 0, [])), (8, (18, 1, 0, 0, 0, [])), (9, (37, 3, 3, 0, 0, [])), (12, (0, 1, 0, 0, (-1), [])), (13, (9, 0, 0, 0, 0, [])), (14, (7, 0, 0, 0, 0, [])), (15, (54, 0, 0, 0, 0, []))]
set_option maxRecDepth 20000 in
theorem ceX3_open {l : Launch} {X : Nat × (Nat → Int32)} {d : Nat} : tbX3_open l X d = ctb l X d U0 cdX3_open := cec (cp0 io_1_1) <| cec (cp18) <| cec (cp51 u0_13) <| cec (cp10) <| cec (cp0 io_1_1) <| cec (cp5) <| cec (cp18) <| cec (cp37) <| cec (cp0 io_6_m1) <| cec (cp9) <| cec (cp7) <| cec (cp54) <| cen
noncomputable def cdX3_faceOver : List (Nat × Cd) := [(0, (0, 1, 0, 0, 0, [])), (1, (2, 1, 2, 0, 0, [])), (2, (1, 1, 2, 0, 0, [])), (3, (18, 1, 0, 0, 0, [])), (4, (37, 3, 4, 0, 0, [])), (7, (15, 28, 3, 0, 0, [])), (10, (18, 1, 0, 0, 0, [])), (11, (37, 3, 8, 2, 0, [])), (14, (1, 1, 2, 0, 0, [])), (15, (42, 0, 0, 0, 0, [])), (16, (1, 1, 1, 0, 0, [])), (17, (15, 22, 1, 0, 0, [])), (20, (1, 1, 2, 0, 0, [])), (21, (54, 0, 0, 0, 0, [])), (22, (3, 2, 0, 0, 1, [])), (25, (13, 2, 0, 0, 0, [])), (28, (0, 2, 0, 0, (-2), [])), (30, (54, 0, 0, 0, 0, []))]
set_option maxRecDepth 20000 in
theorem ceX3_faceOver {l : Launch} {X : Nat × (Nat → Int32)} {d : Nat} : tbX3_faceOver l X d = ctb l X d U0 cdX3_faceOver := cec (cp0 io_0_0) <| cec (cp2) <| cec (cp1) <| cec (cp18) <| cec (cp37) <| cec (cp15_3) <| cec (cp18) <| cec (cp37) <| cec (cp1) <| cec (cp42) <| cec (cp1) <| cec (cp15_1) <| cec (cp1) <| cec (cp54) <| cec (cp3 io_1_1) <| cec (cp13) <| cec (cp0 io_3_m2) <| cec (cp54) <| cen
noncomputable def cdX3_toldCanonOf : List (Nat × Cd) := [(0, (0, 1, 0, 0, 0, [])), (1, (2, 1, 2, 0, 0, [])), (2, (1, 1, 2, 0, 0, [])), (3, (18, 1, 0, 0, 0, [])), (4, (37, 3, 10, 0, 0, [])), (7, (15, 28, 3, 0, 0, [])), (10, (18, 1, 0, 0, 0, [])), (11, (37, 3, 11, 2, 0, [])), (14, (1, 1, 2, 0, 0, [])), (15, (42, 0, 0, 0, 0, [])), (16, (1, 1, 1, 0, 0, [])), (17, (15, 22, 1, 0, 0, [])), (20, (1, 1, 2, 0, 0, [])), (21, (54, 0, 0, 0, 0, [])), (22, (3, 2, 0, 0, 1, [])), (25, (13, 2, 0, 0, 0, [])), (28, (0, 2, 0, 0, (-2), [])), (30, (54, 0, 0, 0, 0, []))]
set_option maxRecDepth 20000 in
theorem ceX3_toldCanonOf {l : Launch} {X : Nat × (Nat → Int32)} {d : Nat} : tbX3_toldCanonOf l X d = ctb l X d U0 cdX3_toldCanonOf := cec (cp0 io_0_0) <| cec (cp2) <| cec (cp1) <| cec (cp18) <| cec (cp37) <| cec (cp15_3) <| cec (cp18) <| cec (cp37) <| cec (cp1) <| cec (cp42) <| cec (cp1) <| cec (cp15_1) <| cec (cp1) <| cec (cp54) <| cec (cp3 io_1_1) <| cec (cp13) <| cec (cp0 io_3_m2) <| cec (cp54) <| cen
noncomputable def cdX3_unsureOf : List (Nat × Cd) := [(0, (0, 1, 0, 0, 0, [])), (1, (2, 1, 2, 0, 0, [])), (2, (1, 1, 2, 0, 0, [])), (3, (18, 1, 0, 0, 0, [])), (4, (37, 3, 17, 0, 0, [])), (7, (15, 28, 3, 0, 0, [])), (10, (18, 1, 0, 0, 0, [])), (11, (37, 3, 18, 2, 0, [])), (14, (1, 1, 2, 0, 0, [])), (15, (42, 0, 0, 0, 0, [])), (16, (1, 1, 1, 0, 0, [])), (17, (15, 22, 1, 0, 0, [])), (20, (1, 1, 2, 0, 0, [])), (21, (54, 0, 0, 0, 0, [])), (22, (3, 2, 0, 0, 1, [])), (25, (13, 2, 0, 0, 0, [])), (28, (0, 2, 0, 0, (-2), [])), (30, (54, 0, 0, 0, 0, []))]
set_option maxRecDepth 20000 in
theorem ceX3_unsureOf {l : Launch} {X : Nat × (Nat → Int32)} {d : Nat} : tbX3_unsureOf l X d = ctb l X d U0 cdX3_unsureOf := cec (cp0 io_0_0) <| cec (cp2) <| cec (cp1) <| cec (cp18) <| cec (cp37) <| cec (cp15_3) <| cec (cp18) <| cec (cp37) <| cec (cp1) <| cec (cp42) <| cec (cp1) <| cec (cp15_1) <| cec (cp1) <| cec (cp54) <| cec (cp3 io_1_1) <| cec (cp13) <| cec (cp0 io_3_m2) <| cec (cp54) <| cen
noncomputable def cdX3_vexedBy : List (Nat × Cd) := [(0, (18, 1, 0, 0, 0, [])), (1, (1, 1, 1, 0, 0, [])), (2, (51, 19, 3, 1, 0, [])), (5, (2, 1, 3, 0, 0, [])), (6, (1, 1, 3, 0, 0, [])), (7, (0, 2, 0, 0, (-2), [])), (9, (15, 29, 0, 0, 0, [])), (12, (1, 1, 2, 0, 0, [])), (13, (1, 1, 3, 0, 0, [])), (14, (11, 0, 0, 0, 0, [])), (15, (0, 1, 0, 0, 1, [])), (16, (7, 0, 0, 0, 0, [])), (17, (14, 29, 0, 0, 0, [])), (20, (18, 1, 0, 0, 0, [])), (21, (37, 3, 19, 2, 0, [])), (24, (1, 1, 3, 0, 0, [])), (25, (42, 0, 0, 0, 0, [])), (26, (13, 35, 0, 0, 0, [])), (29, (18, 1, 0, 0, 0, [])), (30, (37, 3, 12, 2, 0, [])), (33, (1, 1, 1, 0, 0, [])), (34, (42, 0, 0, 0, 0, [])), (35, (54, 0, 0, 0, 0, []))]
set_option maxRecDepth 20000 in
theorem ceX3_vexedBy {l : Launch} {X : Nat × (Nat → Int32)} {d : Nat} : tbX3_vexedBy l X d = ctb l X d U0 cdX3_vexedBy := cec (cp18) <| cec (cp1) <| cec (cp51 u0_19) <| cec (cp2) <| cec (cp1) <| cec (cp0 io_3_m2) <| cec (cp15_0) <| cec (cp1) <| cec (cp1) <| cec (cp11) <| cec (cp0 io_1_1) <| cec (cp7) <| cec (cp14_0) <| cec (cp18) <| cec (cp37) <| cec (cp1) <| cec (cp42) <| cec (cp13) <| cec (cp18) <| cec (cp37) <| cec (cp1) <| cec (cp42) <| cec (cp54) <| cen
noncomputable def cdX3_droppedCount : List (Nat × Cd) := [(0, (0, 1, 0, 0, 0, [])), (1, (2, 1, 1, 0, 0, [])), (2, (0, 1, 0, 0, 0, [])), (3, (2, 1, 2, 0, 0, [])), (4, (1, 1, 2, 0, 0, [])), (5, (0, 2, 0, 0, 6, [])), (7, (15, 28, 3, 0, 0, [])), (10, (18, 1, 0, 0, 0, [])), (11, (37, 3, 9, 2, 0, [])), (14, (1, 1, 2, 0, 0, [])), (15, (42, 0, 0, 0, 0, [])), (16, (14, 22, 0, 0, 0, [])), (19, (3, 1, 0, 0, 1, [])), (22, (3, 2, 0, 0, 1, [])), (25, (13, 4, 0, 0, 0, [])), (28, (1, 1, 1, 0, 0, [])), (29, (54, 0, 0, 0, 0, []))]
set_option maxRecDepth 20000 in
theorem ceX3_droppedCount {l : Launch} {X : Nat × (Nat → Int32)} {d : Nat} : tbX3_droppedCount l X d = ctb l X d U0 cdX3_droppedCount := cec (cp0 io_0_0) <| cec (cp2) <| cec (cp0 io_0_0) <| cec (cp2) <| cec (cp1) <| cec (cp0 io_7_6) <| cec (cp15_3) <| cec (cp18) <| cec (cp37) <| cec (cp1) <| cec (cp42) <| cec (cp14_0) <| cec (cp3 io_1_1) <| cec (cp3 io_1_1) <| cec (cp13) <| cec (cp1) <| cec (cp54) <| cen
noncomputable def cdX4_reads : List (Nat × Cd) := [(0, (18, 1, 0, 0, 0, [])), (1, (1, 1, 1, 0, 0, [])), (2, (0, 3, 0, 0, 900, [])), (5, (52, 279, 0, 2, 0, [])), (8, (38, 4, 2, 0, 0, [])), (11, (18, 1, 0, 0, 0, [])), (12, (18, 1, 2, 0, 0, [])), (13, (41, 4, 3, 0, 0, [])), (16, (18, 1, 0, 0, 0, [])), (17, (37, 4, 3, 2, 0, [])), (20, (51, 12, 3, 0, 0, [])), (23, (18, 1, 0, 0, 0, [])), (24, (0, 1, 0, 0, 0, [])), (25, (38, 4, 12, 0, 0, [])), (28, (18, 1, 0, 0, 0, [])), (29, (0, 1, 0, 0, 0, [])), (30, (38, 4, 13, 0, 0, [])), (33, (18, 1, 0, 0, 0, [])), (34, (0, 1, 0, 0, 0, [])), (35, (38, 4, 14, 0, 0, [])), (38, (18, 1, 0, 0, 0, [])), (39, (0, 1, 0, 0, 0, [])), (40, (38, 4, 6, 0, 0, [])), (43, (18, 1, 0, 0, 0, [])), (44, (51, 25, 4, 0, 0, [])), (47, (0, 1, 0, 0, 0, [])), (48, (2, 1, 3, 0, 0, [])), (49, (1, 1, 3, 0, 0, [])), (50, (18, 1, 0, 0, 0, [])), (51, (37, 4, 2, 0, 0, [])), (54, (15, 122, 4, 0, 0, [])), (57, (18, 1, 0, 0, 0, [])), (58, (51, 30, 4, 0, 0, [])), (61, (14, 66, 1, 0, 0, [])), (64, (0, 1, 0, 0, 0, [])), (65, (55, 0, 0, 0, 0, [])), (66, (18, 1, 0, 0, 0, [])), (67, (37, 4, 4, 0, 0, [])), (70, (14, 98, 1, 0, 0, [])), (73, (18, 1, 0, 0, 0, [])), (74, (37, 4, 3, 2, 0, [])), (77, (37, 3, 4, 0, 0, [])), (80, (14, 92, 4, 0, 0, [])), (83, (18, 1, 0, 0, 0, [])), (84, (0, 2, 0, 0, 6, [])), (86, (51, 24, 4, 1, 0, [])), (89, (14, 96, 0, 0, 0, [])), (92, (0, 1, 0, 0, 1, [])), (93, (13, 97, 0, 0, 0, [])), (96, (0, 1, 0, 0, 0, [])), (97, (55, 0, 0, 0, 0, [])), (98, (18, 1, 0, 0, 0, [])), (99, (37, 4, 4, 0, 0, [])), (102, (0, 1, 0, 0, 3, [])), (103, (15, 112, 0, 0, 0, [])), (106, (18, 1, 0, 0, 0, [])), (107, (0, 1, 0, 0, 1, [])), (108, (51, 24, 4, 1, 0, [])), (111, (55, 0, 0, 0, 0, [])), (112, (18, 1, 0, 0, 0, [])), (113, (51, 25, 4, 0, 0, [])), (116, (3, 3, 0, 0, 1, [])), (119, (13, 49, 0, 0, 0, [])), (122, (18, 1, 0, 0, 0, [])), (123, (0, 1, 0, 0, 1, [])), (124, (51, 24, 4, 1, 0, [])), (127, (55, 0, 0, 0, 0, []))]
set_option maxRecDepth 20000 in
theorem ceX4_reads {l : Launch} {X : Nat × (Nat → Int32)} {d : Nat} : tbX4_reads l X d = ctb l X d U0 cdX4_reads := cec (cp18) <| cec (cp1) <| cec (cp0 io_9_900) <| cec (cp52 u0_279) <| cec (cp38) <| cec (cp18) <| cec (cp18) <| cec (cp41) <| cec (cp18) <| cec (cp37) <| cec (cp51 u0_12) <| cec (cp18) <| cec (cp0 io_0_0) <| cec (cp38) <| cec (cp18) <| cec (cp0 io_0_0) <| cec (cp38) <| cec (cp18) <| cec (cp0 io_0_0) <| cec (cp38) <| cec (cp18) <| cec (cp0 io_0_0) <| cec (cp38) <| cec (cp18) <| cec (cp51 u0_25) <| cec (cp0 io_0_0) <| cec (cp2) <| cec (cp1) <| cec (cp18) <| cec (cp37) <| cec (cp15_4) <| cec (cp18) <| cec (cp51 u0_30) <| cec (cp14_1) <| cec (cp0 io_0_0) <| cec (cp55) <| cec (cp18) <| cec (cp37) <| cec (cp14_1) <| cec (cp18) <| cec (cp37) <| cec (cp37) <| cec (cp14_4) <| cec (cp18) <| cec (cp0 io_7_6) <| cec (cp51 u0_24) <| cec (cp14_0) <| cec (cp0 io_1_1) <| cec (cp13) <| cec (cp0 io_0_0) <| cec (cp55) <| cec (cp18) <| cec (cp37) <| cec (cp0 io_11_3) <| cec (cp15_0) <| cec (cp18) <| cec (cp0 io_1_1) <| cec (cp51 u0_24) <| cec (cp55) <| cec (cp18) <| cec (cp51 u0_25) <| cec (cp3 io_1_1) <| cec (cp13) <| cec (cp18) <| cec (cp0 io_1_1) <| cec (cp51 u0_24) <| cec (cp55) <| cen
noncomputable def cdX4_fails : List (Nat × Cd) := [(0, (18, 1, 0, 0, 0, [])), (1, (1, 1, 1, 0, 0, [])), (2, (38, 4, 13, 0, 0, [])), (5, (18, 1, 0, 0, 0, [])), (6, (18, 1, 0, 0, 0, [])), (7, (37, 4, 5, 0, 0, [])), (10, (38, 4, 14, 0, 0, [])), (13, (0, 1, 0, 0, 0, [])), (14, (55, 0, 0, 0, 0, []))]
set_option maxRecDepth 20000 in
theorem ceX4_fails {l : Launch} {X : Nat × (Nat → Int32)} {d : Nat} : tbX4_fails l X d = ctb l X d U0 cdX4_fails := cec (cp18) <| cec (cp1) <| cec (cp38) <| cec (cp18) <| cec (cp18) <| cec (cp37) <| cec (cp38) <| cec (cp0 io_0_0) <| cec (cp55) <| cen
noncomputable def cdX4_take : List (Nat × Cd) := [(0, (18, 1, 0, 0, 0, [])), (1, (18, 1, 0, 0, 0, [])), (2, (37, 4, 6, 0, 0, [])), (5, (38, 4, 5, 0, 0, [])), (8, (18, 1, 0, 0, 0, [])), (9, (37, 4, 5, 0, 0, [])), (12, (18, 1, 0, 0, 0, [])), (13, (37, 4, 2, 0, 0, [])), (16, (15, 46, 3, 0, 0, [])), (19, (18, 1, 0, 0, 0, [])), (20, (37, 4, 0, 2, 0, [])), (23, (18, 1, 0, 0, 0, [])), (24, (37, 4, 5, 0, 0, [])), (27, (43, 0, 0, 0, 0, [])), (28, (0, 2, 0, 0, 32, [])), (30, (15, 46, 1, 0, 0, [])), (33, (18, 1, 0, 0, 0, [])), (34, (34, 0, 0, 0, 0, [])), (35, (37, 4, 5, 0, 0, [])), (38, (0, 1, 0, 0, 1, [])), (39, (4, 0, 0, 0, 0, [])), (40, (38, 4, 5, 0, 0, [])), (43, (13, 8, 0, 0, 0, [])), (46, (18, 1, 0, 0, 0, [])), (47, (18, 1, 0, 0, 0, [])), (48, (37, 4, 5, 0, 0, [])), (51, (38, 4, 6, 0, 0, [])), (54, (18, 1, 0, 0, 0, [])), (55, (37, 4, 5, 0, 0, [])), (58, (18, 1, 0, 0, 0, [])), (59, (37, 4, 2, 0, 0, [])), (62, (15, 73, 2, 0, 0, [])), (65, (18, 1, 0, 0, 0, [])), (66, (0, 1, 0, 0, 0, [])), (67, (38, 4, 4, 0, 0, [])), (70, (13, 176, 0, 0, 0, [])), (73, (18, 1, 0, 0, 0, [])), (74, (37, 4, 0, 2, 0, [])), (77, (18, 1, 0, 0, 0, [])), (78, (37, 4, 5, 0, 0, [])), (81, (43, 0, 0, 0, 0, [])), (82, (0, 2, 0, 0, 97, [])), (84, (15, 108, 2, 0, 0, [])), (87, (18, 1, 0, 0, 0, [])), (88, (37, 4, 0, 2, 0, [])), (91, (18, 1, 0, 0, 0, [])), (92, (37, 4, 5, 0, 0, [])), (95, (43, 0, 0, 0, 0, [])), (96, (0, 2, 0, 0, 122, [])), (98, (15, 108, 4, 0, 0, [])), (101, (18, 1, 0, 0, 0, [])), (102, (51, 26, 4, 0, 0, [])), (105, (13, 176, 0, 0, 0, [])), (108, (18, 1, 0, 0, 0, [])), (109, (37, 4, 0, 2, 0, [])), (112, (18, 1, 0, 0, 0, [])), (113, (37, 4, 5, 0, 0, [])), (116, (43, 0, 0, 0, 0, [])), (117, (0, 2, 0, 0, 48, [])), (119, (15, 143, 2, 0, 0, [])), (122, (18, 1, 0, 0, 0, [])), (123, (37, 4, 0, 2, 0, [])), (126, (18, 1, 0, 0, 0, [])), (127, (37, 4, 5, 0, 0, [])), (130, (43, 0, 0, 0, 0, [])), (131, (0, 2, 0, 0, 57, [])), (133, (15, 143, 4, 0, 0, [])), (136, (18, 1, 0, 0, 0, [])), (137, (51, 27, 4, 0, 0, [])), (140, (13, 176, 0, 0, 0, [])), (143, (18, 1, 0, 0, 0, [])), (144, (18, 1, 0, 0, 0, [])), (145, (37, 4, 5, 0, 0, [])), (148, (0, 1, 0, 0, 1, [])), (149, (4, 0, 0, 0, 0, [])), (150, (38, 4, 6, 0, 0, [])), (153, (18, 1, 0, 0, 0, [])), (154, (18, 1, 0, 0, 0, [])), (155, (37, 4, 0, 2, 0, [])), (158, (18, 1, 0, 0, 0, [])), (159, (37, 4, 5, 0, 0, [])), (162, (43, 0, 0, 0, 0, [])), (163, (0, 2, 0, 0, 59, [])), (165, (15, 172, 1, 0, 0, [])), (168, (0, 1, 0, 0, 3, [])), (169, (13, 173, 0, 0, 0, [])), (172, (0, 1, 0, 0, 4, [])), (173, (38, 4, 4, 0, 0, [])), (176, (57, 0, 0, 0, 0, []))]
set_option maxRecDepth 20000 in
theorem ceX4_take {l : Launch} {X : Nat × (Nat → Int32)} {d : Nat} : tbX4_take l X d = ctb l X d U0 cdX4_take := cec (cp18) <| cec (cp18) <| cec (cp37) <| cec (cp38) <| cec (cp18) <| cec (cp37) <| cec (cp18) <| cec (cp37) <| cec (cp15_3) <| cec (cp18) <| cec (cp37) <| cec (cp18) <| cec (cp37) <| cec (cp43) <| cec (cp0 io_12_32) <| cec (cp15_1) <| cec (cp18) <| cec (cp34) <| cec (cp37) <| cec (cp0 io_1_1) <| cec (cp4) <| cec (cp38) <| cec (cp13) <| cec (cp18) <| cec (cp18) <| cec (cp37) <| cec (cp38) <| cec (cp18) <| cec (cp37) <| cec (cp18) <| cec (cp37) <| cec (cp15_2) <| cec (cp18) <| cec (cp0 io_0_0) <| cec (cp38) <| cec (cp13) <| cec (cp18) <| cec (cp37) <| cec (cp18) <| cec (cp37) <| cec (cp43) <| cec (cp0 io_13_97) <| cec (cp15_2) <| cec (cp18) <| cec (cp37) <| cec (cp18) <| cec (cp37) <| cec (cp43) <| cec (cp0 io_14_122) <| cec (cp15_4) <| cec (cp18) <| cec (cp51 u0_26) <| cec (cp13) <| cec (cp18) <| cec (cp37) <| cec (cp18) <| cec (cp37) <| cec (cp43) <| cec (cp0 io_15_48) <| cec (cp15_2) <| cec (cp18) <| cec (cp37) <| cec (cp18) <| cec (cp37) <| cec (cp43) <| cec (cp0 io_16_57) <| cec (cp15_4) <| cec (cp18) <| cec (cp51 u0_27) <| cec (cp13) <| cec (cp18) <| cec (cp18) <| cec (cp37) <| cec (cp0 io_1_1) <| cec (cp4) <| cec (cp38) <| cec (cp18) <| cec (cp18) <| cec (cp37) <| cec (cp18) <| cec (cp37) <| cec (cp43) <| cec (cp0 io_17_59) <| cec (cp15_1) <| cec (cp0 io_11_3) <| cec (cp13) <| cec (cp0 io_18_4) <| cec (cp38) <| cec (cp57) <| cen
noncomputable def cdX4_takeWord : List (Nat × Cd) := [(0, (18, 1, 0, 0, 0, [])), (1, (33, 1, 0, 0, 0, [])), (2, (40, 4, 8, 0, 0, [])), (5, (18, 1, 0, 0, 0, [])), (6, (37, 4, 6, 0, 0, [])), (9, (18, 1, 0, 0, 0, [])), (10, (37, 4, 2, 0, 0, [])), (13, (15, 85, 3, 0, 0, [])), (16, (18, 1, 0, 0, 0, [])), (17, (37, 4, 0, 2, 0, [])), (20, (18, 1, 0, 0, 0, [])), (21, (37, 4, 6, 0, 0, [])), (24, (43, 0, 0, 0, 0, [])), (25, (0, 2, 0, 0, 97, [])), (27, (15, 85, 2, 0, 0, [])), (30, (18, 1, 0, 0, 0, [])), (31, (37, 4, 0, 2, 0, [])), (34, (18, 1, 0, 0, 0, [])), (35, (37, 4, 6, 0, 0, [])), (38, (43, 0, 0, 0, 0, [])), (39, (0, 2, 0, 0, 122, [])), (41, (15, 85, 4, 0, 0, [])), (44, (18, 1, 0, 0, 0, [])), (45, (18, 1, 0, 0, 0, [])), (46, (37, 4, 8, 1, 0, [])), (49, (33, 3, 0, 0, 32, [])), (52, (28, 0, 0, 0, 0, [])), (53, (18, 1, 0, 0, 0, [])), (54, (37, 4, 0, 2, 0, [])), (57, (18, 1, 0, 0, 0, [])), (58, (37, 4, 6, 0, 0, [])), (61, (43, 0, 0, 0, 0, [])), (62, (0, 2, 0, 0, 97, [])), (64, (5, 0, 0, 0, 0, [])), (65, (0, 1, 0, 0, 1, [])), (66, (4, 0, 0, 0, 0, [])), (67, (31, 0, 0, 0, 0, [])), (68, (26, 0, 0, 0, 0, [])), (69, (40, 4, 8, 0, 0, [])), (72, (18, 1, 0, 0, 0, [])), (73, (34, 0, 0, 0, 0, [])), (74, (37, 4, 6, 0, 0, [])), (77, (0, 1, 0, 0, 1, [])), (78, (4, 0, 0, 0, 0, [])), (79, (38, 4, 6, 0, 0, [])), (82, (13, 5, 0, 0, 0, [])), (85, (18, 1, 0, 0, 0, [])), (86, (18, 1, 0, 0, 0, [])), (87, (37, 4, 6, 0, 0, [])), (90, (18, 1, 0, 0, 0, [])), (91, (37, 4, 5, 0, 0, [])), (94, (5, 0, 0, 0, 0, [])), (95, (0, 2, 0, 0, 8, [])), (97, (15, 104, 4, 0, 0, [])), (100, (0, 1, 0, 0, 1, [])), (101, (13, 105, 0, 0, 0, [])), (104, (0, 1, 0, 0, 4, [])), (105, (38, 4, 4, 0, 0, [])), (108, (57, 0, 0, 0, 0, []))]
set_option maxRecDepth 20000 in
theorem ceX4_takeWord {l : Launch} {X : Nat × (Nat → Int32)} {d : Nat} : tbX4_takeWord l X d = ctb l X d U0 cdX4_takeWord := cec (cp18) <| cec (cp33 iol_0_0) <| cec (cp40) <| cec (cp18) <| cec (cp37) <| cec (cp18) <| cec (cp37) <| cec (cp15_3) <| cec (cp18) <| cec (cp37) <| cec (cp18) <| cec (cp37) <| cec (cp43) <| cec (cp0 io_13_97) <| cec (cp15_2) <| cec (cp18) <| cec (cp37) <| cec (cp18) <| cec (cp37) <| cec (cp43) <| cec (cp0 io_14_122) <| cec (cp15_4) <| cec (cp18) <| cec (cp18) <| cec (cp37) <| cec (cp33 iol_1_32) <| cec (cp28) <| cec (cp18) <| cec (cp37) <| cec (cp18) <| cec (cp37) <| cec (cp43) <| cec (cp0 io_13_97) <| cec (cp5) <| cec (cp0 io_1_1) <| cec (cp4) <| cec (cp31) <| cec (cp26) <| cec (cp40) <| cec (cp18) <| cec (cp34) <| cec (cp37) <| cec (cp0 io_1_1) <| cec (cp4) <| cec (cp38) <| cec (cp13) <| cec (cp18) <| cec (cp18) <| cec (cp37) <| cec (cp18) <| cec (cp37) <| cec (cp5) <| cec (cp0 io_19_8) <| cec (cp15_4) <| cec (cp0 io_1_1) <| cec (cp13) <| cec (cp0 io_18_4) <| cec (cp38) <| cec (cp57) <| cen
noncomputable def cdX4_takeWhole : List (Nat × Cd) := [(0, (18, 1, 0, 0, 0, [])), (1, (0, 1, 0, 0, 0, [])), (2, (38, 4, 7, 0, 0, [])), (5, (18, 1, 0, 0, 0, [])), (6, (37, 4, 6, 0, 0, [])), (9, (18, 1, 0, 0, 0, [])), (10, (37, 4, 2, 0, 0, [])), (13, (15, 81, 3, 0, 0, [])), (16, (18, 1, 0, 0, 0, [])), (17, (37, 4, 0, 2, 0, [])), (20, (18, 1, 0, 0, 0, [])), (21, (37, 4, 6, 0, 0, [])), (24, (43, 0, 0, 0, 0, [])), (25, (0, 2, 0, 0, 48, [])), (27, (15, 81, 2, 0, 0, [])), (30, (18, 1, 0, 0, 0, [])), (31, (37, 4, 0, 2, 0, [])), (34, (18, 1, 0, 0, 0, [])), (35, (37, 4, 6, 0, 0, [])), (38, (43, 0, 0, 0, 0, [])), (39, (0, 2, 0, 0, 57, [])), (41, (15, 81, 4, 0, 0, [])), (44, (18, 1, 0, 0, 0, [])), (45, (18, 1, 0, 0, 0, [])), (46, (37, 4, 7, 0, 0, [])), (49, (0, 2, 0, 0, 10, [])), (51, (6, 0, 0, 0, 0, [])), (52, (18, 1, 0, 0, 0, [])), (53, (37, 4, 0, 2, 0, [])), (56, (18, 1, 0, 0, 0, [])), (57, (37, 4, 6, 0, 0, [])), (60, (43, 0, 0, 0, 0, [])), (61, (0, 2, 0, 0, 48, [])), (63, (5, 0, 0, 0, 0, [])), (64, (4, 0, 0, 0, 0, [])), (65, (38, 4, 7, 0, 0, [])), (68, (18, 1, 0, 0, 0, [])), (69, (34, 0, 0, 0, 0, [])), (70, (37, 4, 6, 0, 0, [])), (73, (0, 1, 0, 0, 1, [])), (74, (4, 0, 0, 0, 0, [])), (75, (38, 4, 6, 0, 0, [])), (78, (13, 5, 0, 0, 0, [])), (81, (18, 1, 0, 0, 0, [])), (82, (18, 1, 0, 0, 0, [])), (83, (37, 4, 6, 0, 0, [])), (86, (18, 1, 0, 0, 0, [])), (87, (37, 4, 5, 0, 0, [])), (90, (5, 0, 0, 0, 0, [])), (91, (0, 1, 0, 0, 3, [])), (92, (15, 99, 4, 0, 0, [])), (95, (0, 1, 0, 0, 2, [])), (96, (13, 100, 0, 0, 0, [])), (99, (0, 1, 0, 0, 4, [])), (100, (38, 4, 4, 0, 0, [])), (103, (57, 0, 0, 0, 0, []))]
set_option maxRecDepth 20000 in
theorem ceX4_takeWhole {l : Launch} {X : Nat × (Nat → Int32)} {d : Nat} : tbX4_takeWhole l X d = ctb l X d U0 cdX4_takeWhole := cec (cp18) <| cec (cp0 io_0_0) <| cec (cp38) <| cec (cp18) <| cec (cp37) <| cec (cp18) <| cec (cp37) <| cec (cp15_3) <| cec (cp18) <| cec (cp37) <| cec (cp18) <| cec (cp37) <| cec (cp43) <| cec (cp0 io_15_48) <| cec (cp15_2) <| cec (cp18) <| cec (cp37) <| cec (cp18) <| cec (cp37) <| cec (cp43) <| cec (cp0 io_16_57) <| cec (cp15_4) <| cec (cp18) <| cec (cp18) <| cec (cp37) <| cec (cp0 io_20_10) <| cec (cp6) <| cec (cp18) <| cec (cp37) <| cec (cp18) <| cec (cp37) <| cec (cp43) <| cec (cp0 io_15_48) <| cec (cp5) <| cec (cp4) <| cec (cp38) <| cec (cp18) <| cec (cp34) <| cec (cp37) <| cec (cp0 io_1_1) <| cec (cp4) <| cec (cp38) <| cec (cp13) <| cec (cp18) <| cec (cp18) <| cec (cp37) <| cec (cp18) <| cec (cp37) <| cec (cp5) <| cec (cp0 io_11_3) <| cec (cp15_4) <| cec (cp0 io_2_2) <| cec (cp13) <| cec (cp0 io_18_4) <| cec (cp38) <| cec (cp57) <| cen
noncomputable def cdX4_beginsLine : List (Nat × Cd) := [(0, (18, 1, 0, 0, 0, [])), (1, (49, 2, 0, 0, 0, [])), (3, (51, 28, 4, 1, 0, [])), (6, (14, 63, 1, 0, 0, [])), (9, (18, 1, 0, 0, 0, [])), (10, (49, 2, 1, 0, 0, [])), (12, (51, 28, 4, 1, 0, [])), (15, (14, 63, 1, 0, 0, [])), (18, (18, 1, 0, 0, 0, [])), (19, (49, 2, 2, 0, 0, [])), (21, (51, 28, 4, 1, 0, [])), (24, (14, 63, 1, 0, 0, [])), (27, (18, 1, 0, 0, 0, [])), (28, (49, 2, 3, 0, 0, [])), (30, (51, 28, 4, 1, 0, [])), (33, (14, 63, 1, 0, 0, [])), (36, (18, 1, 0, 0, 0, [])), (37, (49, 2, 4, 0, 0, [])), (39, (51, 28, 4, 1, 0, [])), (42, (14, 63, 1, 0, 0, [])), (45, (18, 1, 0, 0, 0, [])), (46, (49, 2, 5, 0, 0, [])), (48, (51, 28, 4, 1, 0, [])), (51, (14, 63, 1, 0, 0, [])), (54, (18, 1, 0, 0, 0, [])), (55, (49, 2, 6, 0, 0, [])), (57, (51, 28, 4, 1, 0, [])), (60, (14, 67, 0, 0, 0, [])), (63, (0, 1, 0, 0, 1, [])), (64, (13, 68, 0, 0, 0, [])), (67, (0, 1, 0, 0, 0, [])), (68, (55, 0, 0, 0, 0, []))]
set_option maxRecDepth 20000 in
theorem ceX4_beginsLine {l : Launch} {X : Nat × (Nat → Int32)} {d : Nat} : tbX4_beginsLine l X d = ctb l X d U0 cdX4_beginsLine := cec (cp18) <| cec (cp49) <| cec (cp51 u0_28) <| cec (cp14_1) <| cec (cp18) <| cec (cp49) <| cec (cp51 u0_28) <| cec (cp14_1) <| cec (cp18) <| cec (cp49) <| cec (cp51 u0_28) <| cec (cp14_1) <| cec (cp18) <| cec (cp49) <| cec (cp51 u0_28) <| cec (cp14_1) <| cec (cp18) <| cec (cp49) <| cec (cp51 u0_28) <| cec (cp14_1) <| cec (cp18) <| cec (cp49) <| cec (cp51 u0_28) <| cec (cp14_1) <| cec (cp18) <| cec (cp49) <| cec (cp51 u0_28) <| cec (cp14_0) <| cec (cp0 io_1_1) <| cec (cp13) <| cec (cp0 io_0_0) <| cec (cp55) <| cen
noncomputable def cdX4_readsLine : List (Nat × Cd) := [(0, (18, 1, 0, 0, 0, [])), (1, (51, 29, 4, 0, 0, [])), (4, (14, 13, 1, 0, 0, [])), (7, (18, 1, 0, 0, 0, [])), (8, (0, 1, 0, 0, 1, [])), (9, (51, 24, 4, 1, 0, [])), (12, (55, 0, 0, 0, 0, [])), (13, (18, 1, 0, 0, 0, [])), (14, (49, 2, 0, 0, 0, [])), (16, (51, 28, 4, 1, 0, [])), (19, (14, 45, 0, 0, 0, [])), (22, (18, 1, 0, 0, 0, [])), (23, (37, 4, 3, 2, 0, [])), (26, (37, 3, 0, 0, 0, [])), (29, (14, 40, 5, 0, 0, [])), (32, (18, 1, 0, 0, 0, [])), (33, (0, 1, 0, 0, 3, [])), (34, (51, 24, 4, 1, 0, [])), (37, (13, 44, 0, 0, 0, [])), (40, (18, 1, 0, 0, 0, [])), (41, (51, 31, 4, 0, 0, [])), (44, (55, 0, 0, 0, 0, [])), (45, (18, 1, 0, 0, 0, [])), (46, (37, 4, 3, 2, 0, [])), (49, (37, 3, 0, 0, 0, [])), (52, (14, 62, 1, 0, 0, [])), (55, (18, 1, 0, 0, 0, [])), (56, (0, 2, 0, 0, 6, [])), (58, (51, 24, 4, 1, 0, [])), (61, (55, 0, 0, 0, 0, [])), (62, (18, 1, 0, 0, 0, [])), (63, (49, 2, 1, 0, 0, [])), (65, (51, 28, 4, 1, 0, [])), (68, (14, 76, 0, 0, 0, [])), (71, (18, 1, 0, 0, 0, [])), (72, (51, 32, 4, 0, 0, [])), (75, (55, 0, 0, 0, 0, [])), (76, (18, 1, 0, 0, 0, [])), (77, (49, 2, 2, 0, 0, [])), (79, (51, 28, 4, 1, 0, [])), (82, (14, 90, 0, 0, 0, [])), (85, (18, 1, 0, 0, 0, [])), (86, (51, 33, 4, 0, 0, [])), (89, (55, 0, 0, 0, 0, [])), (90, (18, 1, 0, 0, 0, [])), (91, (49, 2, 3, 0, 0, [])), (93, (51, 28, 4, 1, 0, [])), (96, (14, 104, 0, 0, 0, [])), (99, (18, 1, 0, 0, 0, [])), (100, (51, 35, 4, 0, 0, [])), (103, (55, 0, 0, 0, 0, [])), (104, (18, 1, 0, 0, 0, [])), (105, (49, 2, 4, 0, 0, [])), (107, (51, 28, 4, 1, 0, [])), (110, (14, 118, 0, 0, 0, [])), (113, (18, 1, 0, 0, 0, [])), (114, (51, 36, 4, 0, 0, [])), (117, (55, 0, 0, 0, 0, [])), (118, (18, 1, 0, 0, 0, [])), (119, (49, 2, 5, 0, 0, [])), (121, (51, 28, 4, 1, 0, [])), (124, (14, 134, 0, 0, 0, [])), (127, (18, 1, 0, 0, 0, [])), (128, (51, 37, 4, 0, 0, [])), (131, (13, 138, 0, 0, 0, [])), (134, (18, 1, 0, 0, 0, [])), (135, (51, 38, 4, 0, 0, [])), (138, (55, 0, 0, 0, 0, []))]
set_option maxRecDepth 20000 in
theorem ceX4_readsLine {l : Launch} {X : Nat × (Nat → Int32)} {d : Nat} : tbX4_readsLine l X d = ctb l X d U0 cdX4_readsLine := cec (cp18) <| cec (cp51 u0_29) <| cec (cp14_1) <| cec (cp18) <| cec (cp0 io_1_1) <| cec (cp51 u0_24) <| cec (cp55) <| cec (cp18) <| cec (cp49) <| cec (cp51 u0_28) <| cec (cp14_0) <| cec (cp18) <| cec (cp37) <| cec (cp37) <| cec (cp14_5) <| cec (cp18) <| cec (cp0 io_11_3) <| cec (cp51 u0_24) <| cec (cp13) <| cec (cp18) <| cec (cp51 u0_31) <| cec (cp55) <| cec (cp18) <| cec (cp37) <| cec (cp37) <| cec (cp14_1) <| cec (cp18) <| cec (cp0 io_7_6) <| cec (cp51 u0_24) <| cec (cp55) <| cec (cp18) <| cec (cp49) <| cec (cp51 u0_28) <| cec (cp14_0) <| cec (cp18) <| cec (cp51 u0_32) <| cec (cp55) <| cec (cp18) <| cec (cp49) <| cec (cp51 u0_28) <| cec (cp14_0) <| cec (cp18) <| cec (cp51 u0_33) <| cec (cp55) <| cec (cp18) <| cec (cp49) <| cec (cp51 u0_28) <| cec (cp14_0) <| cec (cp18) <| cec (cp51 u0_35) <| cec (cp55) <| cec (cp18) <| cec (cp49) <| cec (cp51 u0_28) <| cec (cp14_0) <| cec (cp18) <| cec (cp51 u0_36) <| cec (cp55) <| cec (cp18) <| cec (cp49) <| cec (cp51 u0_28) <| cec (cp14_0) <| cec (cp18) <| cec (cp51 u0_37) <| cec (cp13) <| cec (cp18) <| cec (cp51 u0_38) <| cec (cp55) <| cen
noncomputable def cdX4_readsClose : List (Nat × Cd) := [(0, (18, 1, 0, 0, 0, [])), (1, (51, 25, 4, 0, 0, [])), (4, (18, 1, 0, 0, 0, [])), (5, (49, 2, 7, 0, 0, [])), (7, (0, 1, 0, 0, 2, [])), (8, (0, 1, 0, 0, 5, [])), (9, (51, 39, 4, 3, 0, [])), (12, (14, 17, 1, 0, 0, [])), (15, (0, 1, 0, 0, 0, [])), (16, (55, 0, 0, 0, 0, [])), (17, (18, 1, 0, 0, 0, [])), (18, (37, 4, 7, 0, 0, [])), (21, (2, 1, 1, 0, 0, [])), (22, (18, 1, 0, 0, 0, [])), (23, (51, 25, 4, 0, 0, [])), (26, (18, 1, 0, 0, 0, [])), (27, (49, 2, 8, 0, 0, [])), (29, (0, 1, 0, 0, 2, [])), (30, (0, 1, 0, 0, 4, [])), (31, (51, 39, 4, 3, 0, [])), (34, (14, 39, 1, 0, 0, [])), (37, (0, 1, 0, 0, 0, [])), (38, (55, 0, 0, 0, 0, [])), (39, (18, 1, 0, 0, 0, [])), (40, (37, 4, 7, 0, 0, [])), (43, (2, 1, 2, 0, 0, [])), (44, (18, 1, 0, 0, 0, [])), (45, (51, 25, 4, 0, 0, [])), (48, (18, 1, 0, 0, 0, [])), (49, (49, 2, 9, 0, 0, [])), (51, (0, 1, 0, 0, 0, [])), (52, (0, 2, 0, 0, 100, [])), (54, (51, 39, 4, 3, 0, [])), (57, (14, 62, 1, 0, 0, [])), (60, (0, 1, 0, 0, 0, [])), (61, (55, 0, 0, 0, 0, [])), (62, (18, 1, 0, 0, 0, [])), (63, (37, 4, 3, 2, 0, [])), (66, (1, 1, 1, 0, 0, [])), (67, (38, 3, 0, 0, 0, [])), (70, (18, 1, 0, 0, 0, [])), (71, (37, 4, 3, 2, 0, [])), (74, (1, 1, 2, 0, 0, [])), (75, (38, 3, 1, 0, 0, [])), (78, (18, 1, 0, 0, 0, [])), (79, (37, 4, 3, 2, 0, [])), (82, (18, 1, 0, 0, 0, [])), (83, (37, 4, 7, 0, 0, [])), (86, (38, 3, 2, 0, 0, [])), (89, (18, 1, 0, 0, 0, [])), (90, (51, 25, 4, 0, 0, [])), (93, (0, 1, 0, 0, 1, [])), (94, (55, 0, 0, 0, 0, []))]
set_option maxRecDepth 20000 in
theorem ceX4_readsClose {l : Launch} {X : Nat × (Nat → Int32)} {d : Nat} : tbX4_readsClose l X d = ctb l X d U0 cdX4_readsClose := cec (cp18) <| cec (cp51 u0_25) <| cec (cp18) <| cec (cp49) <| cec (cp0 io_2_2) <| cec (cp0 io_5_5) <| cec (cp51 u0_39) <| cec (cp14_1) <| cec (cp0 io_0_0) <| cec (cp55) <| cec (cp18) <| cec (cp37) <| cec (cp2) <| cec (cp18) <| cec (cp51 u0_25) <| cec (cp18) <| cec (cp49) <| cec (cp0 io_2_2) <| cec (cp0 io_18_4) <| cec (cp51 u0_39) <| cec (cp14_1) <| cec (cp0 io_0_0) <| cec (cp55) <| cec (cp18) <| cec (cp37) <| cec (cp2) <| cec (cp18) <| cec (cp51 u0_25) <| cec (cp18) <| cec (cp49) <| cec (cp0 io_0_0) <| cec (cp0 io_21_100) <| cec (cp51 u0_39) <| cec (cp14_1) <| cec (cp0 io_0_0) <| cec (cp55) <| cec (cp18) <| cec (cp37) <| cec (cp1) <| cec (cp38) <| cec (cp18) <| cec (cp37) <| cec (cp1) <| cec (cp38) <| cec (cp18) <| cec (cp37) <| cec (cp18) <| cec (cp37) <| cec (cp38) <| cec (cp18) <| cec (cp51 u0_25) <| cec (cp0 io_1_1) <| cec (cp55) <| cen
noncomputable def cdX4_readsWall : List (Nat × Cd) := [(0, (18, 1, 0, 0, 0, [])), (1, (37, 4, 3, 2, 0, [])), (4, (51, 15, 3, 0, 0, [])), (7, (0, 1, 0, 0, 5, [])), (8, (15, 17, 2, 0, 0, [])), (11, (18, 1, 0, 0, 0, [])), (12, (0, 1, 0, 0, 5, [])), (13, (51, 24, 4, 1, 0, [])), (16, (55, 0, 0, 0, 0, [])), (17, (18, 1, 0, 0, 0, [])), (18, (37, 4, 3, 2, 0, [])), (21, (37, 3, 14, 0, 0, [])), (24, (14, 34, 5, 0, 0, [])), (27, (18, 1, 0, 0, 0, [])), (28, (0, 2, 0, 0, 7, [])), (30, (51, 24, 4, 1, 0, [])), (33, (55, 0, 0, 0, 0, [])), (34, (18, 1, 0, 0, 0, [])), (35, (51, 25, 4, 0, 0, [])), (38, (18, 1, 0, 0, 0, [])), (39, (0, 1, 0, 0, 0, [])), (40, (18, 1, 0, 0, 0, [])), (41, (37, 4, 3, 2, 0, [])), (44, (51, 13, 3, 0, 0, [])), (47, (0, 1, 0, 0, 1, [])), (48, (5, 0, 0, 0, 0, [])), (49, (51, 40, 4, 2, 0, [])), (52, (14, 57, 1, 0, 0, [])), (55, (0, 1, 0, 0, 0, [])), (56, (55, 0, 0, 0, 0, [])), (57, (18, 1, 0, 0, 0, [])), (58, (37, 4, 3, 2, 0, [])), (61, (18, 1, 0, 0, 0, [])), (62, (37, 4, 7, 0, 0, [])), (65, (51, 14, 3, 1, 0, [])), (68, (14, 77, 0, 0, 0, [])), (71, (18, 1, 0, 0, 0, [])), (72, (0, 1, 0, 0, 3, [])), (73, (51, 24, 4, 1, 0, [])), (76, (55, 0, 0, 0, 0, [])), (77, (18, 1, 0, 0, 0, [])), (78, (37, 4, 3, 2, 0, [])), (81, (34, 0, 0, 0, 0, [])), (82, (37, 3, 3, 0, 0, [])), (85, (0, 1, 0, 0, 1, [])), (86, (18, 1, 0, 0, 0, [])), (87, (37, 4, 7, 0, 0, [])), (90, (10, 0, 0, 0, 0, [])), (91, (8, 0, 0, 0, 0, [])), (92, (38, 3, 3, 0, 0, [])), (95, (18, 1, 0, 0, 0, [])), (96, (51, 25, 4, 0, 0, [])), (99, (0, 1, 0, 0, 1, [])), (100, (55, 0, 0, 0, 0, []))]
set_option maxRecDepth 20000 in
theorem ceX4_readsWall {l : Launch} {X : Nat × (Nat → Int32)} {d : Nat} : tbX4_readsWall l X d = ctb l X d U0 cdX4_readsWall := cec (cp18) <| cec (cp37) <| cec (cp51 u0_15) <| cec (cp0 io_5_5) <| cec (cp15_2) <| cec (cp18) <| cec (cp0 io_5_5) <| cec (cp51 u0_24) <| cec (cp55) <| cec (cp18) <| cec (cp37) <| cec (cp37) <| cec (cp14_5) <| cec (cp18) <| cec (cp0 io_22_7) <| cec (cp51 u0_24) <| cec (cp55) <| cec (cp18) <| cec (cp51 u0_25) <| cec (cp18) <| cec (cp0 io_0_0) <| cec (cp18) <| cec (cp37) <| cec (cp51 u0_13) <| cec (cp0 io_1_1) <| cec (cp5) <| cec (cp51 u0_40) <| cec (cp14_1) <| cec (cp0 io_0_0) <| cec (cp55) <| cec (cp18) <| cec (cp37) <| cec (cp18) <| cec (cp37) <| cec (cp51 u0_14) <| cec (cp14_0) <| cec (cp18) <| cec (cp0 io_11_3) <| cec (cp51 u0_24) <| cec (cp55) <| cec (cp18) <| cec (cp37) <| cec (cp34) <| cec (cp37) <| cec (cp0 io_1_1) <| cec (cp18) <| cec (cp37) <| cec (cp10) <| cec (cp8) <| cec (cp38) <| cec (cp18) <| cec (cp51 u0_25) <| cec (cp0 io_1_1) <| cec (cp55) <| cen
noncomputable def cdX4_readsFace : List (Nat × Cd) := [(0, (18, 1, 0, 0, 0, [])), (1, (37, 4, 3, 2, 0, [])), (4, (37, 3, 4, 0, 0, [])), (7, (2, 1, 1, 0, 0, [])), (8, (1, 1, 1, 0, 0, [])), (9, (0, 2, 0, 0, 6, [])), (11, (15, 20, 2, 0, 0, [])), (14, (18, 1, 0, 0, 0, [])), (15, (0, 1, 0, 0, 5, [])), (16, (51, 24, 4, 1, 0, [])), (19, (55, 0, 0, 0, 0, [])), (20, (18, 1, 0, 0, 0, [])), (21, (51, 25, 4, 0, 0, [])), (24, (18, 1, 0, 0, 0, [])), (25, (0, 1, 0, 0, 1, [])), (26, (1, 1, 1, 0, 0, [])), (27, (51, 41, 4, 2, 0, [])), (30, (14, 35, 1, 0, 0, [])), (33, (0, 1, 0, 0, 0, [])), (34, (55, 0, 0, 0, 0, [])), (35, (18, 1, 0, 0, 0, [])), (36, (51, 34, 4, 0, 0, [])), (39, (2, 1, 2, 0, 0, [])), (40, (1, 1, 2, 0, 0, [])), (41, (0, 2, 0, 0, (-2), [])), (43, (15, 52, 1, 0, 0, [])), (46, (18, 1, 0, 0, 0, [])), (47, (0, 1, 0, 0, 1, [])), (48, (51, 24, 4, 1, 0, [])), (51, (55, 0, 0, 0, 0, [])), (52, (18, 1, 0, 0, 0, [])), (53, (37, 4, 3, 2, 0, [])), (56, (37, 3, 5, 2, 0, [])), (59, (1, 1, 1, 0, 0, [])), (60, (1, 1, 2, 0, 0, [])), (61, (46, 0, 0, 0, 0, [])), (62, (18, 1, 0, 0, 0, [])), (63, (51, 25, 4, 0, 0, [])), (66, (18, 1, 0, 0, 0, [])), (67, (49, 2, 10, 0, 0, [])), (69, (0, 1, 0, 0, 1, [])), (70, (0, 2, 0, 0, 99, [])), (72, (51, 39, 4, 3, 0, [])), (75, (14, 80, 1, 0, 0, [])), (78, (0, 1, 0, 0, 0, [])), (79, (55, 0, 0, 0, 0, [])), (80, (18, 1, 0, 0, 0, [])), (81, (37, 4, 3, 2, 0, [])), (84, (37, 3, 6, 2, 0, [])), (87, (1, 1, 1, 0, 0, [])), (88, (18, 1, 0, 0, 0, [])), (89, (37, 4, 7, 0, 0, [])), (92, (46, 0, 0, 0, 0, [])), (93, (18, 1, 0, 0, 0, [])), (94, (51, 25, 4, 0, 0, [])), (97, (18, 1, 0, 0, 0, [])), (98, (49, 2, 11, 0, 0, [])), (100, (0, 1, 0, 0, 0, [])), (101, (0, 2, 0, 0, 9, [])), (103, (51, 39, 4, 3, 0, [])), (106, (14, 111, 1, 0, 0, [])), (109, (0, 1, 0, 0, 0, [])), (110, (55, 0, 0, 0, 0, [])), (111, (18, 1, 0, 0, 0, [])), (112, (37, 4, 3, 2, 0, [])), (115, (37, 3, 7, 2, 0, [])), (118, (1, 1, 1, 0, 0, [])), (119, (18, 1, 0, 0, 0, [])), (120, (37, 4, 7, 0, 0, [])), (123, (46, 0, 0, 0, 0, [])), (124, (18, 1, 0, 0, 0, [])), (125, (51, 25, 4, 0, 0, [])), (128, (18, 1, 0, 0, 0, [])), (129, (49, 2, 12, 0, 0, [])), (131, (0, 1, 0, 0, 0, [])), (132, (18, 1, 0, 0, 0, [])), (133, (37, 4, 3, 2, 0, [])), (136, (51, 13, 3, 0, 0, [])), (139, (0, 1, 0, 0, 1, [])), (140, (5, 0, 0, 0, 0, [])), (141, (51, 39, 4, 3, 0, [])), (144, (14, 149, 1, 0, 0, [])), (147, (0, 1, 0, 0, 0, [])), (148, (55, 0, 0, 0, 0, [])), (149, (18, 1, 0, 0, 0, [])), (150, (37, 4, 3, 2, 0, [])), (153, (18, 1, 0, 0, 0, [])), (154, (37, 4, 7, 0, 0, [])), (157, (51, 17, 3, 1, 0, [])), (160, (0, 2, 0, 0, (-2), [])), (162, (15, 171, 0, 0, 0, [])), (165, (18, 1, 0, 0, 0, [])), (166, (0, 1, 0, 0, 3, [])), (167, (51, 24, 4, 1, 0, [])), (170, (55, 0, 0, 0, 0, [])), (171, (18, 1, 0, 0, 0, [])), (172, (37, 4, 3, 2, 0, [])), (175, (37, 3, 8, 2, 0, [])), (178, (1, 1, 1, 0, 0, [])), (179, (18, 1, 0, 0, 0, [])), (180, (37, 4, 7, 0, 0, [])), (183, (46, 0, 0, 0, 0, [])), (184, (18, 1, 0, 0, 0, [])), (185, (37, 4, 3, 2, 0, [])), (188, (34, 0, 0, 0, 0, [])), (189, (37, 3, 4, 0, 0, [])), (192, (0, 1, 0, 0, 1, [])), (193, (4, 0, 0, 0, 0, [])), (194, (38, 3, 4, 0, 0, [])), (197, (18, 1, 0, 0, 0, [])), (198, (51, 25, 4, 0, 0, [])), (201, (0, 1, 0, 0, 1, [])), (202, (55, 0, 0, 0, 0, []))]
set_option maxRecDepth 20000 in
theorem ceX4_readsFace {l : Launch} {X : Nat × (Nat → Int32)} {d : Nat} : tbX4_readsFace l X d = ctb l X d U0 cdX4_readsFace := cec (cp18) <| cec (cp37) <| cec (cp37) <| cec (cp2) <| cec (cp1) <| cec (cp0 io_7_6) <| cec (cp15_2) <| cec (cp18) <| cec (cp0 io_5_5) <| cec (cp51 u0_24) <| cec (cp55) <| cec (cp18) <| cec (cp51 u0_25) <| cec (cp18) <| cec (cp0 io_1_1) <| cec (cp1) <| cec (cp51 u0_41) <| cec (cp14_1) <| cec (cp0 io_0_0) <| cec (cp55) <| cec (cp18) <| cec (cp51 u0_34) <| cec (cp2) <| cec (cp1) <| cec (cp0 io_3_m2) <| cec (cp15_1) <| cec (cp18) <| cec (cp0 io_1_1) <| cec (cp51 u0_24) <| cec (cp55) <| cec (cp18) <| cec (cp37) <| cec (cp37) <| cec (cp1) <| cec (cp1) <| cec (cp46) <| cec (cp18) <| cec (cp51 u0_25) <| cec (cp18) <| cec (cp49) <| cec (cp0 io_1_1) <| cec (cp0 io_23_99) <| cec (cp51 u0_39) <| cec (cp14_1) <| cec (cp0 io_0_0) <| cec (cp55) <| cec (cp18) <| cec (cp37) <| cec (cp37) <| cec (cp1) <| cec (cp18) <| cec (cp37) <| cec (cp46) <| cec (cp18) <| cec (cp51 u0_25) <| cec (cp18) <| cec (cp49) <| cec (cp0 io_0_0) <| cec (cp0 io_24_9) <| cec (cp51 u0_39) <| cec (cp14_1) <| cec (cp0 io_0_0) <| cec (cp55) <| cec (cp18) <| cec (cp37) <| cec (cp37) <| cec (cp1) <| cec (cp18) <| cec (cp37) <| cec (cp46) <| cec (cp18) <| cec (cp51 u0_25) <| cec (cp18) <| cec (cp49) <| cec (cp0 io_0_0) <| cec (cp18) <| cec (cp37) <| cec (cp51 u0_13) <| cec (cp0 io_1_1) <| cec (cp5) <| cec (cp51 u0_39) <| cec (cp14_1) <| cec (cp0 io_0_0) <| cec (cp55) <| cec (cp18) <| cec (cp37) <| cec (cp18) <| cec (cp37) <| cec (cp51 u0_17) <| cec (cp0 io_3_m2) <| cec (cp15_0) <| cec (cp18) <| cec (cp0 io_11_3) <| cec (cp51 u0_24) <| cec (cp55) <| cec (cp18) <| cec (cp37) <| cec (cp37) <| cec (cp1) <| cec (cp18) <| cec (cp37) <| cec (cp46) <| cec (cp18) <| cec (cp37) <| cec (cp34) <| cec (cp37) <| cec (cp0 io_1_1) <| cec (cp4) <| cec (cp38) <| cec (cp18) <| cec (cp51 u0_25) <| cec (cp0 io_1_1) <| cec (cp55) <| cen
noncomputable def cdX4_kindHere : List (Nat × Cd) := [(0, (18, 1, 0, 0, 0, [])), (1, (49, 2, 13, 0, 0, [])), (3, (51, 28, 4, 1, 0, [])), (6, (14, 11, 0, 0, 0, [])), (9, (0, 1, 0, 0, 0, [])), (10, (54, 0, 0, 0, 0, [])), (11, (18, 1, 0, 0, 0, [])), (12, (49, 2, 14, 0, 0, [])), (14, (51, 28, 4, 1, 0, [])), (17, (14, 22, 0, 0, 0, [])), (20, (0, 1, 0, 0, 1, [])), (21, (54, 0, 0, 0, 0, [])), (22, (18, 1, 0, 0, 0, [])), (23, (49, 2, 15, 0, 0, [])), (25, (51, 28, 4, 1, 0, [])), (28, (14, 35, 0, 0, 0, [])), (31, (0, 1, 0, 0, 2, [])), (32, (13, 37, 0, 0, 0, [])), (35, (0, 2, 0, 0, (-2), [])), (37, (54, 0, 0, 0, 0, []))]
set_option maxRecDepth 20000 in
theorem ceX4_kindHere {l : Launch} {X : Nat × (Nat → Int32)} {d : Nat} : tbX4_kindHere l X d = ctb l X d U0 cdX4_kindHere := cec (cp18) <| cec (cp49) <| cec (cp51 u0_28) <| cec (cp14_0) <| cec (cp0 io_0_0) <| cec (cp54) <| cec (cp18) <| cec (cp49) <| cec (cp51 u0_28) <| cec (cp14_0) <| cec (cp0 io_1_1) <| cec (cp54) <| cec (cp18) <| cec (cp49) <| cec (cp51 u0_28) <| cec (cp14_0) <| cec (cp0 io_2_2) <| cec (cp13) <| cec (cp0 io_3_m2) <| cec (cp54) <| cen
noncomputable def cdX4_readsCanon : List (Nat × Cd) := [(0, (18, 1, 0, 0, 0, [])), (1, (37, 4, 3, 2, 0, [])), (4, (37, 3, 10, 0, 0, [])), (7, (2, 1, 1, 0, 0, [])), (8, (1, 1, 1, 0, 0, [])), (9, (0, 1, 0, 0, 5, [])), (10, (15, 19, 2, 0, 0, [])), (13, (18, 1, 0, 0, 0, [])), (14, (0, 1, 0, 0, 5, [])), (15, (51, 24, 4, 1, 0, [])), (18, (55, 0, 0, 0, 0, [])), (19, (18, 1, 0, 0, 0, [])), (20, (51, 25, 4, 0, 0, [])), (23, (18, 1, 0, 0, 0, [])), (24, (0, 1, 0, 0, 2, [])), (25, (1, 1, 1, 0, 0, [])), (26, (51, 41, 4, 2, 0, [])), (29, (14, 34, 1, 0, 0, [])), (32, (0, 1, 0, 0, 0, [])), (33, (55, 0, 0, 0, 0, [])), (34, (18, 1, 0, 0, 0, [])), (35, (0, 1, 0, 0, 1, [])), (36, (51, 42, 4, 1, 0, [])), (39, (2, 1, 2, 0, 0, [])), (40, (1, 1, 2, 0, 0, [])), (41, (0, 2, 0, 0, (-2), [])), (43, (15, 48, 1, 0, 0, [])), (46, (0, 1, 0, 0, 0, [])), (47, (55, 0, 0, 0, 0, [])), (48, (18, 1, 0, 0, 0, [])), (49, (37, 4, 3, 2, 0, [])), (52, (1, 1, 2, 0, 0, [])), (53, (51, 18, 3, 1, 0, [])), (56, (0, 2, 0, 0, (-2), [])), (58, (15, 67, 0, 0, 0, [])), (61, (18, 1, 0, 0, 0, [])), (62, (0, 1, 0, 0, 3, [])), (63, (51, 24, 4, 1, 0, [])), (66, (55, 0, 0, 0, 0, [])), (67, (18, 1, 0, 0, 0, [])), (68, (37, 4, 3, 2, 0, [])), (71, (37, 3, 11, 2, 0, [])), (74, (1, 1, 1, 0, 0, [])), (75, (1, 1, 2, 0, 0, [])), (76, (46, 0, 0, 0, 0, [])), (77, (18, 1, 0, 0, 0, [])), (78, (51, 25, 4, 0, 0, [])), (81, (18, 1, 0, 0, 0, [])), (82, (49, 2, 16, 0, 0, [])), (84, (0, 1, 0, 0, 1, [])), (85, (0, 2, 0, 0, 30, [])), (87, (51, 39, 4, 3, 0, [])), (90, (14, 95, 1, 0, 0, [])), (93, (0, 1, 0, 0, 0, [])), (94, (55, 0, 0, 0, 0, [])), (95, (18, 1, 0, 0, 0, [])), (96, (37, 4, 3, 2, 0, [])), (99, (37, 3, 12, 2, 0, [])), (102, (1, 1, 1, 0, 0, [])), (103, (18, 1, 0, 0, 0, [])), (104, (37, 4, 7, 0, 0, [])), (107, (46, 0, 0, 0, 0, [])), (108, (18, 1, 0, 0, 0, [])), (109, (51, 25, 4, 0, 0, [])), (112, (18, 1, 0, 0, 0, [])), (113, (49, 2, 17, 0, 0, [])), (115, (0, 1, 0, 0, 1, [])), (116, (0, 2, 0, 0, 9, [])), (118, (51, 39, 4, 3, 0, [])), (121, (14, 126, 1, 0, 0, [])), (124, (0, 1, 0, 0, 0, [])), (125, (55, 0, 0, 0, 0, [])), (126, (18, 1, 0, 0, 0, [])), (127, (37, 4, 3, 2, 0, [])), (130, (37, 3, 13, 2, 0, [])), (133, (1, 1, 1, 0, 0, [])), (134, (18, 1, 0, 0, 0, [])), (135, (37, 4, 7, 0, 0, [])), (138, (46, 0, 0, 0, 0, [])), (139, (18, 1, 0, 0, 0, [])), (140, (37, 4, 3, 2, 0, [])), (143, (34, 0, 0, 0, 0, [])), (144, (37, 3, 10, 0, 0, [])), (147, (0, 1, 0, 0, 1, [])), (148, (4, 0, 0, 0, 0, [])), (149, (38, 3, 10, 0, 0, [])), (152, (18, 1, 0, 0, 0, [])), (153, (51, 25, 4, 0, 0, [])), (156, (0, 1, 0, 0, 1, [])), (157, (55, 0, 0, 0, 0, []))]
set_option maxRecDepth 20000 in
theorem ceX4_readsCanon {l : Launch} {X : Nat × (Nat → Int32)} {d : Nat} : tbX4_readsCanon l X d = ctb l X d U0 cdX4_readsCanon := cec (cp18) <| cec (cp37) <| cec (cp37) <| cec (cp2) <| cec (cp1) <| cec (cp0 io_5_5) <| cec (cp15_2) <| cec (cp18) <| cec (cp0 io_5_5) <| cec (cp51 u0_24) <| cec (cp55) <| cec (cp18) <| cec (cp51 u0_25) <| cec (cp18) <| cec (cp0 io_2_2) <| cec (cp1) <| cec (cp51 u0_41) <| cec (cp14_1) <| cec (cp0 io_0_0) <| cec (cp55) <| cec (cp18) <| cec (cp0 io_1_1) <| cec (cp51 u0_42) <| cec (cp2) <| cec (cp1) <| cec (cp0 io_3_m2) <| cec (cp15_1) <| cec (cp0 io_0_0) <| cec (cp55) <| cec (cp18) <| cec (cp37) <| cec (cp1) <| cec (cp51 u0_18) <| cec (cp0 io_3_m2) <| cec (cp15_0) <| cec (cp18) <| cec (cp0 io_11_3) <| cec (cp51 u0_24) <| cec (cp55) <| cec (cp18) <| cec (cp37) <| cec (cp37) <| cec (cp1) <| cec (cp1) <| cec (cp46) <| cec (cp18) <| cec (cp51 u0_25) <| cec (cp18) <| cec (cp49) <| cec (cp0 io_1_1) <| cec (cp0 io_25_30) <| cec (cp51 u0_39) <| cec (cp14_1) <| cec (cp0 io_0_0) <| cec (cp55) <| cec (cp18) <| cec (cp37) <| cec (cp37) <| cec (cp1) <| cec (cp18) <| cec (cp37) <| cec (cp46) <| cec (cp18) <| cec (cp51 u0_25) <| cec (cp18) <| cec (cp49) <| cec (cp0 io_1_1) <| cec (cp0 io_24_9) <| cec (cp51 u0_39) <| cec (cp14_1) <| cec (cp0 io_0_0) <| cec (cp55) <| cec (cp18) <| cec (cp37) <| cec (cp37) <| cec (cp1) <| cec (cp18) <| cec (cp37) <| cec (cp46) <| cec (cp18) <| cec (cp37) <| cec (cp34) <| cec (cp37) <| cec (cp0 io_1_1) <| cec (cp4) <| cec (cp38) <| cec (cp18) <| cec (cp51 u0_25) <| cec (cp0 io_1_1) <| cec (cp55) <| cen
noncomputable def cdX4_readsWalker : List (Nat × Cd) := [(0, (18, 1, 0, 0, 0, [])), (1, (37, 4, 3, 2, 0, [])), (4, (37, 3, 14, 0, 0, [])), (7, (2, 1, 1, 0, 0, [])), (8, (1, 1, 1, 0, 0, [])), (9, (0, 1, 0, 0, 4, [])), (10, (15, 19, 2, 0, 0, [])), (13, (18, 1, 0, 0, 0, [])), (14, (0, 1, 0, 0, 5, [])), (15, (51, 24, 4, 1, 0, [])), (18, (55, 0, 0, 0, 0, [])), (19, (18, 1, 0, 0, 0, [])), (20, (51, 25, 4, 0, 0, [])), (23, (18, 1, 0, 0, 0, [])), (24, (0, 1, 0, 0, 3, [])), (25, (1, 1, 1, 0, 0, [])), (26, (51, 41, 4, 2, 0, [])), (29, (14, 51, 0, 0, 0, [])), (32, (18, 1, 0, 0, 0, [])), (33, (49, 2, 18, 0, 0, [])), (35, (0, 1, 0, 0, 0, [])), (36, (18, 1, 0, 0, 0, [])), (37, (37, 4, 3, 2, 0, [])), (40, (51, 13, 3, 0, 0, [])), (43, (0, 1, 0, 0, 1, [])), (44, (5, 0, 0, 0, 0, [])), (45, (51, 39, 4, 3, 0, [])), (48, (14, 53, 1, 0, 0, [])), (51, (0, 1, 0, 0, 0, [])), (52, (55, 0, 0, 0, 0, [])), (53, (18, 1, 0, 0, 0, [])), (54, (37, 4, 3, 2, 0, [])), (57, (18, 1, 0, 0, 0, [])), (58, (37, 4, 7, 0, 0, [])), (61, (51, 14, 3, 1, 0, [])), (64, (14, 74, 0, 0, 0, [])), (67, (18, 1, 0, 0, 0, [])), (68, (0, 2, 0, 0, 7, [])), (70, (51, 24, 4, 1, 0, [])), (73, (55, 0, 0, 0, 0, [])), (74, (18, 1, 0, 0, 0, [])), (75, (37, 4, 3, 2, 0, [])), (78, (37, 3, 15, 2, 0, [])), (81, (1, 1, 1, 0, 0, [])), (82, (18, 1, 0, 0, 0, [])), (83, (37, 4, 7, 0, 0, [])), (86, (46, 0, 0, 0, 0, [])), (87, (18, 1, 0, 0, 0, [])), (88, (51, 25, 4, 0, 0, [])), (91, (18, 1, 0, 0, 0, [])), (92, (49, 2, 19, 0, 0, [])), (94, (0, 1, 0, 0, 0, [])), (95, (18, 1, 0, 0, 0, [])), (96, (37, 4, 3, 2, 0, [])), (99, (51, 13, 3, 0, 0, [])), (102, (0, 1, 0, 0, 1, [])), (103, (5, 0, 0, 0, 0, [])), (104, (51, 39, 4, 3, 0, [])), (107, (14, 112, 1, 0, 0, [])), (110, (0, 1, 0, 0, 0, [])), (111, (55, 0, 0, 0, 0, [])), (112, (18, 1, 0, 0, 0, [])), (113, (37, 4, 3, 2, 0, [])), (116, (18, 1, 0, 0, 0, [])), (117, (37, 4, 7, 0, 0, [])), (120, (51, 14, 3, 1, 0, [])), (123, (14, 133, 0, 0, 0, [])), (126, (18, 1, 0, 0, 0, [])), (127, (0, 2, 0, 0, 7, [])), (129, (51, 24, 4, 1, 0, [])), (132, (55, 0, 0, 0, 0, [])), (133, (18, 1, 0, 0, 0, [])), (134, (37, 4, 3, 2, 0, [])), (137, (37, 3, 16, 2, 0, [])), (140, (1, 1, 1, 0, 0, [])), (141, (18, 1, 0, 0, 0, [])), (142, (37, 4, 7, 0, 0, [])), (145, (46, 0, 0, 0, 0, [])), (146, (18, 1, 0, 0, 0, [])), (147, (37, 4, 3, 2, 0, [])), (150, (34, 0, 0, 0, 0, [])), (151, (37, 3, 14, 0, 0, [])), (154, (0, 1, 0, 0, 1, [])), (155, (4, 0, 0, 0, 0, [])), (156, (38, 3, 14, 0, 0, [])), (159, (18, 1, 0, 0, 0, [])), (160, (51, 25, 4, 0, 0, [])), (163, (0, 1, 0, 0, 1, [])), (164, (55, 0, 0, 0, 0, []))]
set_option maxRecDepth 20000 in
theorem ceX4_readsWalker {l : Launch} {X : Nat × (Nat → Int32)} {d : Nat} : tbX4_readsWalker l X d = ctb l X d U0 cdX4_readsWalker := cec (cp18) <| cec (cp37) <| cec (cp37) <| cec (cp2) <| cec (cp1) <| cec (cp0 io_18_4) <| cec (cp15_2) <| cec (cp18) <| cec (cp0 io_5_5) <| cec (cp51 u0_24) <| cec (cp55) <| cec (cp18) <| cec (cp51 u0_25) <| cec (cp18) <| cec (cp0 io_11_3) <| cec (cp1) <| cec (cp51 u0_41) <| cec (cp14_0) <| cec (cp18) <| cec (cp49) <| cec (cp0 io_0_0) <| cec (cp18) <| cec (cp37) <| cec (cp51 u0_13) <| cec (cp0 io_1_1) <| cec (cp5) <| cec (cp51 u0_39) <| cec (cp14_1) <| cec (cp0 io_0_0) <| cec (cp55) <| cec (cp18) <| cec (cp37) <| cec (cp18) <| cec (cp37) <| cec (cp51 u0_14) <| cec (cp14_0) <| cec (cp18) <| cec (cp0 io_22_7) <| cec (cp51 u0_24) <| cec (cp55) <| cec (cp18) <| cec (cp37) <| cec (cp37) <| cec (cp1) <| cec (cp18) <| cec (cp37) <| cec (cp46) <| cec (cp18) <| cec (cp51 u0_25) <| cec (cp18) <| cec (cp49) <| cec (cp0 io_0_0) <| cec (cp18) <| cec (cp37) <| cec (cp51 u0_13) <| cec (cp0 io_1_1) <| cec (cp5) <| cec (cp51 u0_39) <| cec (cp14_1) <| cec (cp0 io_0_0) <| cec (cp55) <| cec (cp18) <| cec (cp37) <| cec (cp18) <| cec (cp37) <| cec (cp51 u0_14) <| cec (cp14_0) <| cec (cp18) <| cec (cp0 io_22_7) <| cec (cp51 u0_24) <| cec (cp55) <| cec (cp18) <| cec (cp37) <| cec (cp37) <| cec (cp1) <| cec (cp18) <| cec (cp37) <| cec (cp46) <| cec (cp18) <| cec (cp37) <| cec (cp34) <| cec (cp37) <| cec (cp0 io_1_1) <| cec (cp4) <| cec (cp38) <| cec (cp18) <| cec (cp51 u0_25) <| cec (cp0 io_1_1) <| cec (cp55) <| cen
noncomputable def cdX4_readsUnsure : List (Nat × Cd) := [(0, (18, 1, 0, 0, 0, [])), (1, (37, 4, 3, 2, 0, [])), (4, (37, 3, 17, 0, 0, [])), (7, (2, 1, 1, 0, 0, [])), (8, (1, 1, 1, 0, 0, [])), (9, (0, 1, 0, 0, 4, [])), (10, (15, 19, 2, 0, 0, [])), (13, (18, 1, 0, 0, 0, [])), (14, (0, 1, 0, 0, 5, [])), (15, (51, 24, 4, 1, 0, [])), (18, (55, 0, 0, 0, 0, [])), (19, (18, 1, 0, 0, 0, [])), (20, (51, 25, 4, 0, 0, [])), (23, (18, 1, 0, 0, 0, [])), (24, (0, 1, 0, 0, 2, [])), (25, (51, 42, 4, 1, 0, [])), (28, (2, 1, 2, 0, 0, [])), (29, (1, 1, 2, 0, 0, [])), (30, (0, 2, 0, 0, (-2), [])), (32, (15, 37, 1, 0, 0, [])), (35, (0, 1, 0, 0, 0, [])), (36, (55, 0, 0, 0, 0, [])), (37, (18, 1, 0, 0, 0, [])), (38, (37, 4, 3, 2, 0, [])), (41, (1, 1, 2, 0, 0, [])), (42, (51, 19, 3, 1, 0, [])), (45, (0, 2, 0, 0, (-2), [])), (47, (15, 56, 0, 0, 0, [])), (50, (18, 1, 0, 0, 0, [])), (51, (0, 1, 0, 0, 3, [])), (52, (51, 24, 4, 1, 0, [])), (55, (55, 0, 0, 0, 0, [])), (56, (18, 1, 0, 0, 0, [])), (57, (51, 25, 4, 0, 0, [])), (60, (18, 1, 0, 0, 0, [])), (61, (0, 1, 0, 0, 1, [])), (62, (0, 2, 0, 0, 30, [])), (64, (51, 40, 4, 2, 0, [])), (67, (14, 72, 1, 0, 0, [])), (70, (0, 1, 0, 0, 0, [])), (71, (55, 0, 0, 0, 0, [])), (72, (18, 1, 0, 0, 0, [])), (73, (37, 4, 3, 2, 0, [])), (76, (37, 3, 18, 2, 0, [])), (79, (1, 1, 1, 0, 0, [])), (80, (1, 1, 2, 0, 0, [])), (81, (46, 0, 0, 0, 0, [])), (82, (18, 1, 0, 0, 0, [])), (83, (37, 4, 3, 2, 0, [])), (86, (37, 3, 19, 2, 0, [])), (89, (1, 1, 1, 0, 0, [])), (90, (18, 1, 0, 0, 0, [])), (91, (37, 4, 7, 0, 0, [])), (94, (46, 0, 0, 0, 0, [])), (95, (18, 1, 0, 0, 0, [])), (96, (37, 4, 3, 2, 0, [])), (99, (34, 0, 0, 0, 0, [])), (100, (37, 3, 17, 0, 0, [])), (103, (0, 1, 0, 0, 1, [])), (104, (4, 0, 0, 0, 0, [])), (105, (38, 3, 17, 0, 0, [])), (108, (18, 1, 0, 0, 0, [])), (109, (51, 25, 4, 0, 0, [])), (112, (0, 1, 0, 0, 1, [])), (113, (55, 0, 0, 0, 0, []))]
set_option maxRecDepth 20000 in
theorem ceX4_readsUnsure {l : Launch} {X : Nat × (Nat → Int32)} {d : Nat} : tbX4_readsUnsure l X d = ctb l X d U0 cdX4_readsUnsure := cec (cp18) <| cec (cp37) <| cec (cp37) <| cec (cp2) <| cec (cp1) <| cec (cp0 io_18_4) <| cec (cp15_2) <| cec (cp18) <| cec (cp0 io_5_5) <| cec (cp51 u0_24) <| cec (cp55) <| cec (cp18) <| cec (cp51 u0_25) <| cec (cp18) <| cec (cp0 io_2_2) <| cec (cp51 u0_42) <| cec (cp2) <| cec (cp1) <| cec (cp0 io_3_m2) <| cec (cp15_1) <| cec (cp0 io_0_0) <| cec (cp55) <| cec (cp18) <| cec (cp37) <| cec (cp1) <| cec (cp51 u0_19) <| cec (cp0 io_3_m2) <| cec (cp15_0) <| cec (cp18) <| cec (cp0 io_11_3) <| cec (cp51 u0_24) <| cec (cp55) <| cec (cp18) <| cec (cp51 u0_25) <| cec (cp18) <| cec (cp0 io_1_1) <| cec (cp0 io_25_30) <| cec (cp51 u0_40) <| cec (cp14_1) <| cec (cp0 io_0_0) <| cec (cp55) <| cec (cp18) <| cec (cp37) <| cec (cp37) <| cec (cp1) <| cec (cp1) <| cec (cp46) <| cec (cp18) <| cec (cp37) <| cec (cp37) <| cec (cp1) <| cec (cp18) <| cec (cp37) <| cec (cp46) <| cec (cp18) <| cec (cp37) <| cec (cp34) <| cec (cp37) <| cec (cp0 io_1_1) <| cec (cp4) <| cec (cp38) <| cec (cp18) <| cec (cp51 u0_25) <| cec (cp0 io_1_1) <| cec (cp55) <| cen
noncomputable def cdX4_readsDropped : List (Nat × Cd) := [(0, (18, 1, 0, 0, 0, [])), (1, (51, 25, 4, 0, 0, [])), (4, (18, 1, 0, 0, 0, [])), (5, (0, 1, 0, 0, 1, [])), (6, (51, 42, 4, 1, 0, [])), (9, (2, 1, 1, 0, 0, [])), (10, (1, 1, 1, 0, 0, [])), (11, (0, 2, 0, 0, (-2), [])), (13, (15, 18, 1, 0, 0, [])), (16, (0, 1, 0, 0, 0, [])), (17, (55, 0, 0, 0, 0, [])), (18, (18, 1, 0, 0, 0, [])), (19, (37, 4, 3, 2, 0, [])), (22, (37, 3, 9, 2, 0, [])), (25, (1, 1, 1, 0, 0, [])), (26, (42, 0, 0, 0, 0, [])), (27, (14, 36, 0, 0, 0, [])), (30, (18, 1, 0, 0, 0, [])), (31, (0, 1, 0, 0, 3, [])), (32, (51, 24, 4, 1, 0, [])), (35, (55, 0, 0, 0, 0, [])), (36, (18, 1, 0, 0, 0, [])), (37, (51, 25, 4, 0, 0, [])), (40, (18, 1, 0, 0, 0, [])), (41, (49, 2, 20, 0, 0, [])), (43, (0, 1, 0, 0, 1, [])), (44, (0, 2, 0, 0, 40, [])), (46, (51, 39, 4, 3, 0, [])), (49, (14, 54, 1, 0, 0, [])), (52, (0, 1, 0, 0, 0, [])), (53, (55, 0, 0, 0, 0, [])), (54, (18, 1, 0, 0, 0, [])), (55, (37, 4, 3, 2, 0, [])), (58, (37, 3, 9, 2, 0, [])), (61, (1, 1, 1, 0, 0, [])), (62, (18, 1, 0, 0, 0, [])), (63, (37, 4, 7, 0, 0, [])), (66, (46, 0, 0, 0, 0, [])), (67, (18, 1, 0, 0, 0, [])), (68, (51, 25, 4, 0, 0, [])), (71, (0, 1, 0, 0, 1, [])), (72, (55, 0, 0, 0, 0, []))]
set_option maxRecDepth 20000 in
theorem ceX4_readsDropped {l : Launch} {X : Nat × (Nat → Int32)} {d : Nat} : tbX4_readsDropped l X d = ctb l X d U0 cdX4_readsDropped := cec (cp18) <| cec (cp51 u0_25) <| cec (cp18) <| cec (cp0 io_1_1) <| cec (cp51 u0_42) <| cec (cp2) <| cec (cp1) <| cec (cp0 io_3_m2) <| cec (cp15_1) <| cec (cp0 io_0_0) <| cec (cp55) <| cec (cp18) <| cec (cp37) <| cec (cp37) <| cec (cp1) <| cec (cp42) <| cec (cp14_0) <| cec (cp18) <| cec (cp0 io_11_3) <| cec (cp51 u0_24) <| cec (cp55) <| cec (cp18) <| cec (cp51 u0_25) <| cec (cp18) <| cec (cp49) <| cec (cp0 io_1_1) <| cec (cp0 io_26_40) <| cec (cp51 u0_39) <| cec (cp14_1) <| cec (cp0 io_0_0) <| cec (cp55) <| cec (cp18) <| cec (cp37) <| cec (cp37) <| cec (cp1) <| cec (cp18) <| cec (cp37) <| cec (cp46) <| cec (cp18) <| cec (cp51 u0_25) <| cec (cp0 io_1_1) <| cec (cp55) <| cen
noncomputable def cdX4_labelled : List (Nat × Cd) := [(0, (18, 1, 0, 0, 0, [])), (1, (18, 1, 1, 0, 0, [])), (2, (51, 28, 4, 1, 0, [])), (5, (14, 14, 1, 0, 0, [])), (8, (18, 1, 0, 0, 0, [])), (9, (0, 1, 0, 0, 1, [])), (10, (51, 24, 4, 1, 0, [])), (13, (55, 0, 0, 0, 0, [])), (14, (18, 1, 0, 0, 0, [])), (15, (51, 25, 4, 0, 0, [])), (18, (18, 1, 0, 0, 0, [])), (19, (1, 1, 2, 0, 0, [])), (20, (1, 1, 3, 0, 0, [])), (21, (51, 40, 4, 2, 0, [])), (24, (55, 0, 0, 0, 0, []))]
set_option maxRecDepth 20000 in
theorem ceX4_labelled {l : Launch} {X : Nat × (Nat → Int32)} {d : Nat} : tbX4_labelled l X d = ctb l X d U0 cdX4_labelled := cec (cp18) <| cec (cp18) <| cec (cp51 u0_28) <| cec (cp14_1) <| cec (cp18) <| cec (cp0 io_1_1) <| cec (cp51 u0_24) <| cec (cp55) <| cec (cp18) <| cec (cp51 u0_25) <| cec (cp18) <| cec (cp1) <| cec (cp1) <| cec (cp51 u0_40) <| cec (cp55) <| cen
noncomputable def cdX4_bounded : List (Nat × Cd) := [(0, (18, 1, 0, 0, 0, [])), (1, (37, 4, 4, 0, 0, [])), (4, (0, 1, 0, 0, 2, [])), (5, (15, 14, 0, 0, 0, [])), (8, (18, 1, 0, 0, 0, [])), (9, (0, 1, 0, 0, 1, [])), (10, (51, 24, 4, 1, 0, [])), (13, (55, 0, 0, 0, 0, [])), (14, (18, 1, 0, 0, 0, [])), (15, (37, 4, 7, 0, 0, [])), (18, (1, 1, 1, 0, 0, [])), (19, (1, 1, 2, 0, 0, [])), (20, (52, 107, 0, 3, 0, [])), (23, (14, 34, 1, 0, 0, [])), (26, (18, 1, 0, 0, 0, [])), (27, (0, 1, 0, 0, 4, [])), (28, (51, 24, 4, 1, 0, [])), (31, (14, 38, 0, 0, 0, [])), (34, (0, 1, 0, 0, 1, [])), (35, (13, 39, 0, 0, 0, [])), (38, (0, 1, 0, 0, 0, [])), (39, (55, 0, 0, 0, 0, []))]
set_option maxRecDepth 20000 in
theorem ceX4_bounded {l : Launch} {X : Nat × (Nat → Int32)} {d : Nat} : tbX4_bounded l X d = ctb l X d U0 cdX4_bounded := cec (cp18) <| cec (cp37) <| cec (cp0 io_2_2) <| cec (cp15_0) <| cec (cp18) <| cec (cp0 io_1_1) <| cec (cp51 u0_24) <| cec (cp55) <| cec (cp18) <| cec (cp37) <| cec (cp1) <| cec (cp1) <| cec (cp52 u0_107) <| cec (cp14_1) <| cec (cp18) <| cec (cp0 io_18_4) <| cec (cp51 u0_24) <| cec (cp14_0) <| cec (cp0 io_1_1) <| cec (cp13) <| cec (cp0 io_0_0) <| cec (cp55) <| cen
noncomputable def cdX4_tells : List (Nat × Cd) := [(0, (18, 1, 0, 0, 0, [])), (1, (37, 4, 4, 0, 0, [])), (4, (0, 1, 0, 0, 1, [])), (5, (15, 24, 1, 0, 0, [])), (8, (18, 1, 0, 0, 0, [])), (9, (51, 29, 4, 0, 0, [])), (12, (14, 24, 1, 0, 0, [])), (15, (18, 1, 0, 0, 0, [])), (16, (37, 4, 12, 0, 0, [])), (19, (0, 2, 0, 0, 15, [])), (21, (15, 30, 2, 0, 0, [])), (24, (18, 1, 0, 0, 0, [])), (25, (0, 1, 0, 0, 1, [])), (26, (51, 24, 4, 1, 0, [])), (29, (55, 0, 0, 0, 0, [])), (30, (18, 1, 0, 0, 0, [])), (31, (51, 43, 4, 0, 0, [])), (34, (0, 2, 0, 0, (-2), [])), (36, (15, 45, 0, 0, 0, [])), (39, (18, 1, 0, 0, 0, [])), (40, (0, 1, 0, 0, 3, [])), (41, (51, 24, 4, 1, 0, [])), (44, (55, 0, 0, 0, 0, [])), (45, (18, 1, 0, 0, 0, [])), (46, (37, 4, 9, 2, 0, [])), (49, (18, 1, 0, 0, 0, [])), (50, (37, 4, 12, 0, 0, [])), (53, (18, 1, 0, 0, 0, [])), (54, (37, 4, 8, 1, 0, [])), (57, (48, 0, 0, 0, 0, [])), (58, (18, 1, 0, 0, 0, [])), (59, (37, 4, 10, 2, 0, [])), (62, (18, 1, 0, 0, 0, [])), (63, (37, 4, 12, 0, 0, [])), (66, (1, 1, 1, 0, 0, [])), (67, (46, 0, 0, 0, 0, [])), (68, (18, 1, 0, 0, 0, [])), (69, (37, 4, 11, 2, 0, [])), (72, (18, 1, 0, 0, 0, [])), (73, (37, 4, 12, 0, 0, [])), (76, (1, 1, 2, 0, 0, [])), (77, (46, 0, 0, 0, 0, [])), (78, (18, 1, 0, 0, 0, [])), (79, (34, 0, 0, 0, 0, [])), (80, (37, 4, 12, 0, 0, [])), (83, (0, 1, 0, 0, 1, [])), (84, (4, 0, 0, 0, 0, [])), (85, (38, 4, 12, 0, 0, [])), (88, (18, 1, 0, 0, 0, [])), (89, (51, 25, 4, 0, 0, [])), (92, (0, 1, 0, 0, 1, [])), (93, (55, 0, 0, 0, 0, []))]
set_option maxRecDepth 20000 in
theorem ceX4_tells {l : Launch} {X : Nat × (Nat → Int32)} {d : Nat} : tbX4_tells l X d = ctb l X d U0 cdX4_tells := cec (cp18) <| cec (cp37) <| cec (cp0 io_1_1) <| cec (cp15_1) <| cec (cp18) <| cec (cp51 u0_29) <| cec (cp14_1) <| cec (cp18) <| cec (cp37) <| cec (cp0 io_27_15) <| cec (cp15_2) <| cec (cp18) <| cec (cp0 io_1_1) <| cec (cp51 u0_24) <| cec (cp55) <| cec (cp18) <| cec (cp51 u0_43) <| cec (cp0 io_3_m2) <| cec (cp15_0) <| cec (cp18) <| cec (cp0 io_11_3) <| cec (cp51 u0_24) <| cec (cp55) <| cec (cp18) <| cec (cp37) <| cec (cp18) <| cec (cp37) <| cec (cp18) <| cec (cp37) <| cec (cp48) <| cec (cp18) <| cec (cp37) <| cec (cp18) <| cec (cp37) <| cec (cp1) <| cec (cp46) <| cec (cp18) <| cec (cp37) <| cec (cp18) <| cec (cp37) <| cec (cp1) <| cec (cp46) <| cec (cp18) <| cec (cp34) <| cec (cp37) <| cec (cp0 io_1_1) <| cec (cp4) <| cec (cp38) <| cec (cp18) <| cec (cp51 u0_25) <| cec (cp0 io_1_1) <| cec (cp55) <| cen
noncomputable def cdX4_named : List (Nat × Cd) := [(0, (18, 1, 0, 0, 0, [])), (1, (37, 4, 4, 0, 0, [])), (4, (0, 1, 0, 0, 1, [])), (5, (15, 15, 1, 0, 0, [])), (8, (18, 1, 0, 0, 0, [])), (9, (51, 29, 4, 0, 0, [])), (12, (14, 24, 0, 0, 0, [])), (15, (18, 1, 0, 0, 0, [])), (16, (0, 1, 0, 0, 1, [])), (17, (51, 24, 4, 1, 0, [])), (20, (36, 0, 0, 0, 0, [])), (21, (0, 2, 0, 0, (-2), [])), (23, (54, 0, 0, 0, 0, [])), (24, (18, 1, 0, 0, 0, [])), (25, (51, 43, 4, 0, 0, [])), (28, (2, 1, 2, 0, 0, [])), (29, (1, 1, 2, 0, 0, [])), (30, (0, 2, 0, 0, (-2), [])), (32, (15, 45, 0, 0, 0, [])), (35, (18, 1, 0, 0, 0, [])), (36, (37, 4, 10, 2, 0, [])), (39, (1, 1, 2, 0, 0, [])), (40, (42, 0, 0, 0, 0, [])), (41, (1, 1, 1, 0, 0, [])), (42, (15, 54, 0, 0, 0, [])), (45, (18, 1, 0, 0, 0, [])), (46, (0, 1, 0, 0, 2, [])), (47, (51, 24, 4, 1, 0, [])), (50, (36, 0, 0, 0, 0, [])), (51, (0, 2, 0, 0, (-2), [])), (53, (54, 0, 0, 0, 0, [])), (54, (18, 1, 0, 0, 0, [])), (55, (37, 4, 11, 2, 0, [])), (58, (1, 1, 2, 0, 0, [])), (59, (42, 0, 0, 0, 0, [])), (60, (54, 0, 0, 0, 0, []))]
set_option maxRecDepth 20000 in
theorem ceX4_named {l : Launch} {X : Nat × (Nat → Int32)} {d : Nat} : tbX4_named l X d = ctb l X d U0 cdX4_named := cec (cp18) <| cec (cp37) <| cec (cp0 io_1_1) <| cec (cp15_1) <| cec (cp18) <| cec (cp51 u0_29) <| cec (cp14_0) <| cec (cp18) <| cec (cp0 io_1_1) <| cec (cp51 u0_24) <| cec (cp36) <| cec (cp0 io_3_m2) <| cec (cp54) <| cec (cp18) <| cec (cp51 u0_43) <| cec (cp2) <| cec (cp1) <| cec (cp0 io_3_m2) <| cec (cp15_0) <| cec (cp18) <| cec (cp37) <| cec (cp1) <| cec (cp42) <| cec (cp1) <| cec (cp15_0) <| cec (cp18) <| cec (cp0 io_2_2) <| cec (cp51 u0_24) <| cec (cp36) <| cec (cp0 io_3_m2) <| cec (cp54) <| cec (cp18) <| cec (cp37) <| cec (cp1) <| cec (cp42) <| cec (cp54) <| cen
noncomputable def cdX4_nameAt : List (Nat × Cd) := [(0, (0, 1, 0, 0, 0, [])), (1, (2, 1, 1, 0, 0, [])), (2, (1, 1, 1, 0, 0, [])), (3, (18, 1, 0, 0, 0, [])), (4, (37, 4, 12, 0, 0, [])), (7, (15, 32, 3, 0, 0, [])), (10, (18, 1, 0, 0, 0, [])), (11, (37, 4, 9, 2, 0, [])), (14, (1, 1, 1, 0, 0, [])), (15, (44, 0, 0, 0, 0, [])), (16, (18, 1, 0, 0, 0, [])), (17, (37, 4, 8, 1, 0, [])), (20, (32, 0, 0, 0, 0, [])), (21, (14, 26, 1, 0, 0, [])), (24, (1, 1, 1, 0, 0, [])), (25, (54, 0, 0, 0, 0, [])), (26, (3, 1, 0, 0, 1, [])), (29, (13, 2, 0, 0, 0, [])), (32, (0, 2, 0, 0, (-2), [])), (34, (54, 0, 0, 0, 0, []))]
set_option maxRecDepth 20000 in
theorem ceX4_nameAt {l : Launch} {X : Nat × (Nat → Int32)} {d : Nat} : tbX4_nameAt l X d = ctb l X d U0 cdX4_nameAt := cec (cp0 io_0_0) <| cec (cp2) <| cec (cp1) <| cec (cp18) <| cec (cp37) <| cec (cp15_3) <| cec (cp18) <| cec (cp37) <| cec (cp1) <| cec (cp44) <| cec (cp18) <| cec (cp37) <| cec (cp32) <| cec (cp14_1) <| cec (cp1) <| cec (cp54) <| cec (cp3 io_1_1) <| cec (cp13) <| cec (cp0 io_3_m2) <| cec (cp54) <| cen
noncomputable def cdX5_beside : List (Nat × Cd) := [(0, (0, 1, 0, 0, 0, [])), (1, (2, 1, 3, 0, 0, [])), (2, (0, 1, 0, 0, 0, [])), (3, (2, 2, 4, 0, 0, [])), (5, (1, 2, 4, 0, 0, [])), (7, (18, 1, 1, 0, 0, [])), (8, (37, 3, 1, 0, 0, [])), (11, (15, 32, 3, 0, 0, [])), (14, (1, 1, 3, 0, 0, [])), (15, (0, 1, 0, 0, 1, [])), (16, (1, 2, 4, 0, 0, [])), (18, (18, 1, 1, 0, 0, [])), (19, (37, 3, 0, 0, 0, [])), (22, (6, 0, 0, 0, 0, [])), (23, (10, 0, 0, 0, 0, [])), (24, (8, 0, 0, 0, 0, [])), (25, (2, 1, 3, 0, 0, [])), (26, (3, 4, 0, 0, 1, [])), (29, (13, 5, 0, 0, 0, [])), (32, (1, 1, 3, 0, 0, [])), (33, (18, 1, 1, 0, 0, [])), (34, (37, 3, 0, 0, 0, [])), (37, (0, 1, 0, 0, 1, [])), (38, (5, 0, 0, 0, 0, [])), (39, (10, 0, 0, 0, 0, [])), (40, (2, 2, 4, 0, 0, [])), (42, (1, 1, 2, 0, 0, [])), (43, (18, 1, 1, 0, 0, [])), (44, (37, 3, 0, 0, 0, [])), (47, (12, 0, 0, 0, 0, [])), (48, (1, 1, 2, 0, 0, [])), (49, (18, 1, 1, 0, 0, [])), (50, (37, 3, 0, 0, 0, [])), (53, (10, 0, 0, 0, 0, [])), (54, (8, 0, 0, 0, 0, [])), (55, (1, 1, 2, 0, 0, [])), (56, (1, 2, 4, 0, 0, [])), (58, (0, 1, 0, 0, (-1), [])), (59, (9, 0, 0, 0, 0, [])), (60, (7, 0, 0, 0, 0, [])), (61, (0, 1, 0, 0, 1, [])), (62, (10, 0, 0, 0, 0, [])), (63, (8, 0, 0, 0, 0, [])), (64, (1, 1, 2, 0, 0, [])), (65, (1, 1, 3, 0, 0, [])), (66, (0, 1, 0, 0, (-1), [])), (67, (9, 0, 0, 0, 0, [])), (68, (7, 0, 0, 0, 0, [])), (69, (0, 1, 0, 0, 1, [])), (70, (12, 0, 0, 0, 0, [])), (71, (8, 0, 0, 0, 0, [])), (72, (54, 0, 0, 0, 0, []))]
set_option maxRecDepth 20000 in
theorem ceX5_beside {l : Launch} {X : Nat × (Nat → Int32)} {d : Nat} : tbX5_beside l X d = ctb l X d U0 cdX5_beside := cec (cp0 io_0_0) <| cec (cp2) <| cec (cp0 io_0_0) <| cec (cp2) <| cec (cp1) <| cec (cp18) <| cec (cp37) <| cec (cp15_3) <| cec (cp1) <| cec (cp0 io_1_1) <| cec (cp1) <| cec (cp18) <| cec (cp37) <| cec (cp6) <| cec (cp10) <| cec (cp8) <| cec (cp2) <| cec (cp3 io_1_1) <| cec (cp13) <| cec (cp1) <| cec (cp18) <| cec (cp37) <| cec (cp0 io_1_1) <| cec (cp5) <| cec (cp10) <| cec (cp2) <| cec (cp1) <| cec (cp18) <| cec (cp37) <| cec (cp12) <| cec (cp1) <| cec (cp18) <| cec (cp37) <| cec (cp10) <| cec (cp8) <| cec (cp1) <| cec (cp1) <| cec (cp0 io_6_m1) <| cec (cp9) <| cec (cp7) <| cec (cp0 io_1_1) <| cec (cp10) <| cec (cp8) <| cec (cp1) <| cec (cp1) <| cec (cp0 io_6_m1) <| cec (cp9) <| cec (cp7) <| cec (cp0 io_1_1) <| cec (cp12) <| cec (cp8) <| cec (cp54) <| cen
noncomputable def cdX5_fewest : List (Nat × Cd) := [(0, (0, 1, 0, 0, 1, [])), (1, (1, 1, 3, 0, 0, [])), (2, (10, 0, 0, 0, 0, [])), (3, (1, 1, 2, 0, 0, [])), (4, (7, 0, 0, 0, 0, [])), (5, (2, 2, 5, 0, 0, [])), (7, (0, 1, 0, 0, 1, [])), (8, (1, 2, 4, 0, 0, [])), (10, (10, 0, 0, 0, 0, [])), (11, (1, 1, 2, 0, 0, [])), (12, (7, 0, 0, 0, 0, [])), (13, (2, 2, 6, 0, 0, [])), (15, (0, 1, 0, 0, 0, [])), (16, (2, 2, 7, 0, 0, [])), (18, (1, 2, 7, 0, 0, [])), (20, (0, 2, 0, 0, 20, [])), (22, (15, 70, 3, 0, 0, [])), (25, (1, 2, 5, 0, 0, [])), (27, (1, 2, 6, 0, 0, [])), (29, (7, 0, 0, 0, 0, [])), (30, (14, 36, 0, 0, 0, [])), (33, (1, 2, 7, 0, 0, [])), (35, (54, 0, 0, 0, 0, [])), (36, (1, 2, 5, 0, 0, [])), (38, (18, 1, 0, 0, 0, [])), (39, (18, 1, 1, 0, 0, [])), (40, (1, 2, 5, 0, 0, [])), (42, (51, 44, 5, 2, 0, [])), (45, (1, 1, 2, 0, 0, [])), (46, (7, 0, 0, 0, 0, [])), (47, (8, 0, 0, 0, 0, [])), (48, (2, 2, 8, 0, 0, [])), (50, (1, 2, 8, 0, 0, [])), (52, (1, 2, 5, 0, 0, [])), (54, (15, 60, 1, 0, 0, [])), (57, (0, 2, 0, 0, (-2), [])), (59, (54, 0, 0, 0, 0, [])), (60, (1, 2, 8, 0, 0, [])), (62, (2, 2, 5, 0, 0, [])), (64, (3, 7, 0, 0, 1, [])), (67, (13, 18, 0, 0, 0, [])), (70, (0, 2, 0, 0, (-2), [])), (72, (54, 0, 0, 0, 0, []))]
set_option maxRecDepth 20000 in
theorem ceX5_fewest {l : Launch} {X : Nat × (Nat → Int32)} {d : Nat} : tbX5_fewest l X d = ctb l X d U0 cdX5_fewest := cec (cp0 io_1_1) <| cec (cp1) <| cec (cp10) <| cec (cp1) <| cec (cp7) <| cec (cp2) <| cec (cp0 io_1_1) <| cec (cp1) <| cec (cp10) <| cec (cp1) <| cec (cp7) <| cec (cp2) <| cec (cp0 io_0_0) <| cec (cp2) <| cec (cp1) <| cec (cp0 io_28_20) <| cec (cp15_3) <| cec (cp1) <| cec (cp1) <| cec (cp7) <| cec (cp14_0) <| cec (cp1) <| cec (cp54) <| cec (cp1) <| cec (cp18) <| cec (cp18) <| cec (cp1) <| cec (cp51 u0_44) <| cec (cp1) <| cec (cp7) <| cec (cp8) <| cec (cp2) <| cec (cp1) <| cec (cp1) <| cec (cp15_1) <| cec (cp0 io_3_m2) <| cec (cp54) <| cec (cp1) <| cec (cp2) <| cec (cp3 io_1_1) <| cec (cp13) <| cec (cp0 io_3_m2) <| cec (cp54) <| cen
noncomputable def cdX5_measure : List (Nat × Cd) := [(0, (18, 1, 0, 0, 0, [])), (1, (1, 1, 2, 0, 0, [])), (2, (38, 5, 1, 0, 0, [])), (5, (0, 1, 0, 0, 0, [])), (6, (2, 2, 4, 0, 0, [])), (8, (1, 2, 4, 0, 0, [])), (10, (0, 2, 0, 0, 20, [])), (12, (15, 30, 3, 0, 0, [])), (15, (18, 1, 0, 0, 0, [])), (16, (37, 5, 0, 2, 0, [])), (19, (1, 2, 4, 0, 0, [])), (21, (0, 2, 0, 0, 1048576, [])), (23, (46, 0, 0, 0, 0, [])), (24, (3, 4, 0, 0, 1, [])), (27, (13, 8, 0, 0, 0, [])), (30, (18, 1, 0, 0, 0, [])), (31, (37, 5, 0, 2, 0, [])), (34, (1, 1, 3, 0, 0, [])), (35, (18, 1, 0, 0, 0, [])), (36, (1, 1, 3, 0, 0, [])), (37, (51, 50, 5, 1, 0, [])), (40, (46, 0, 0, 0, 0, [])), (41, (0, 1, 0, 0, 1, [])), (42, (2, 2, 4, 0, 0, [])), (44, (0, 1, 0, 0, 0, [])), (45, (2, 2, 5, 0, 0, [])), (47, (1, 2, 5, 0, 0, [])), (49, (0, 2, 0, 0, 20, [])), (51, (15, 128, 3, 0, 0, [])), (54, (1, 2, 4, 0, 0, [])), (56, (14, 128, 0, 0, 0, [])), (59, (0, 1, 0, 0, 0, [])), (60, (2, 2, 4, 0, 0, [])), (62, (0, 1, 0, 0, 0, [])), (63, (2, 2, 6, 0, 0, [])), (65, (1, 2, 6, 0, 0, [])), (67, (18, 1, 1, 0, 0, [])), (68, (51, 13, 3, 0, 0, [])), (71, (15, 122, 3, 0, 0, [])), (74, (18, 1, 0, 0, 0, [])), (75, (18, 1, 1, 0, 0, [])), (76, (1, 2, 6, 0, 0, [])), (78, (51, 49, 5, 2, 0, [])), (81, (2, 2, 7, 0, 0, [])), (83, (18, 1, 1, 0, 0, [])), (84, (1, 2, 6, 0, 0, [])), (86, (51, 14, 3, 1, 0, [])), (89, (14, 116, 1, 0, 0, [])), (92, (1, 2, 7, 0, 0, [])), (94, (18, 1, 0, 0, 0, [])), (95, (37, 5, 0, 2, 0, [])), (98, (1, 2, 6, 0, 0, [])), (100, (42, 0, 0, 0, 0, [])), (101, (15, 116, 3, 0, 0, [])), (104, (18, 1, 0, 0, 0, [])), (105, (37, 5, 0, 2, 0, [])), (108, (1, 2, 6, 0, 0, [])), (110, (1, 2, 7, 0, 0, [])), (112, (46, 0, 0, 0, 0, [])), (113, (0, 1, 0, 0, 1, [])), (114, (2, 2, 4, 0, 0, [])), (116, (3, 6, 0, 0, 1, [])), (119, (13, 65, 0, 0, 0, [])), (122, (3, 5, 0, 0, 1, [])), (125, (13, 47, 0, 0, 0, [])), (128, (57, 0, 0, 0, 0, []))]
set_option maxRecDepth 20000 in
theorem ceX5_measure {l : Launch} {X : Nat × (Nat → Int32)} {d : Nat} : tbX5_measure l X d = ctb l X d U0 cdX5_measure := cec (cp18) <| cec (cp1) <| cec (cp38) <| cec (cp0 io_0_0) <| cec (cp2) <| cec (cp1) <| cec (cp0 io_28_20) <| cec (cp15_3) <| cec (cp18) <| cec (cp37) <| cec (cp1) <| cec (cp0 io_29_1048576) <| cec (cp46) <| cec (cp3 io_1_1) <| cec (cp13) <| cec (cp18) <| cec (cp37) <| cec (cp1) <| cec (cp18) <| cec (cp1) <| cec (cp51 u0_50) <| cec (cp46) <| cec (cp0 io_1_1) <| cec (cp2) <| cec (cp0 io_0_0) <| cec (cp2) <| cec (cp1) <| cec (cp0 io_28_20) <| cec (cp15_3) <| cec (cp1) <| cec (cp14_0) <| cec (cp0 io_0_0) <| cec (cp2) <| cec (cp0 io_0_0) <| cec (cp2) <| cec (cp1) <| cec (cp18) <| cec (cp51 u0_13) <| cec (cp15_3) <| cec (cp18) <| cec (cp18) <| cec (cp1) <| cec (cp51 u0_49) <| cec (cp2) <| cec (cp18) <| cec (cp1) <| cec (cp51 u0_14) <| cec (cp14_1) <| cec (cp1) <| cec (cp18) <| cec (cp37) <| cec (cp1) <| cec (cp42) <| cec (cp15_3) <| cec (cp18) <| cec (cp37) <| cec (cp1) <| cec (cp1) <| cec (cp46) <| cec (cp0 io_1_1) <| cec (cp2) <| cec (cp3 io_1_1) <| cec (cp13) <| cec (cp3 io_1_1) <| cec (cp13) <| cec (cp57) <| cen
noncomputable def cdX5_leastOnward : List (Nat × Cd) := [(0, (0, 2, 0, 0, 1048576, [])), (2, (2, 1, 3, 0, 0, [])), (3, (0, 1, 0, 0, 0, [])), (4, (2, 2, 4, 0, 0, [])), (6, (1, 2, 4, 0, 0, [])), (8, (0, 1, 0, 0, 4, [])), (9, (15, 55, 3, 0, 0, [])), (12, (18, 1, 0, 0, 0, [])), (13, (18, 1, 1, 0, 0, [])), (14, (1, 1, 2, 0, 0, [])), (15, (1, 2, 4, 0, 0, [])), (17, (51, 51, 5, 3, 0, [])), (20, (2, 2, 5, 0, 0, [])), (22, (1, 2, 5, 0, 0, [])), (24, (0, 2, 0, 0, (-2), [])), (26, (15, 49, 0, 0, 0, [])), (29, (1, 1, 3, 0, 0, [])), (30, (18, 1, 0, 0, 0, [])), (31, (37, 5, 0, 2, 0, [])), (34, (1, 2, 5, 0, 0, [])), (36, (42, 0, 0, 0, 0, [])), (37, (0, 1, 0, 0, 1, [])), (38, (4, 0, 0, 0, 0, [])), (39, (18, 1, 0, 0, 0, [])), (40, (1, 1, 2, 0, 0, [])), (41, (51, 50, 5, 1, 0, [])), (44, (4, 0, 0, 0, 0, [])), (45, (52, 279, 0, 2, 0, [])), (48, (2, 1, 3, 0, 0, [])), (49, (3, 4, 0, 0, 1, [])), (52, (13, 6, 0, 0, 0, [])), (55, (1, 1, 3, 0, 0, [])), (56, (54, 0, 0, 0, 0, []))]
set_option maxRecDepth 20000 in
theorem ceX5_leastOnward {l : Launch} {X : Nat × (Nat → Int32)} {d : Nat} : tbX5_leastOnward l X d = ctb l X d U0 cdX5_leastOnward := cec (cp0 io_29_1048576) <| cec (cp2) <| cec (cp0 io_0_0) <| cec (cp2) <| cec (cp1) <| cec (cp0 io_18_4) <| cec (cp15_3) <| cec (cp18) <| cec (cp18) <| cec (cp1) <| cec (cp1) <| cec (cp51 u0_51) <| cec (cp2) <| cec (cp1) <| cec (cp0 io_3_m2) <| cec (cp15_0) <| cec (cp1) <| cec (cp18) <| cec (cp37) <| cec (cp1) <| cec (cp42) <| cec (cp0 io_1_1) <| cec (cp4) <| cec (cp18) <| cec (cp1) <| cec (cp51 u0_50) <| cec (cp4) <| cec (cp52 u0_279) <| cec (cp2) <| cec (cp3 io_1_1) <| cec (cp13) <| cec (cp1) <| cec (cp54) <| cen
noncomputable def cdX5_weight : List (Nat × Cd) := [(0, (18, 1, 0, 0, 0, [])), (1, (37, 5, 1, 0, 0, [])), (4, (1, 1, 1, 0, 0, [])), (5, (11, 0, 0, 0, 0, [])), (6, (0, 1, 0, 0, 1, [])), (7, (7, 0, 0, 0, 0, [])), (8, (0, 2, 0, 0, 32, [])), (10, (6, 0, 0, 0, 0, [])), (11, (54, 0, 0, 0, 0, []))]
set_option maxRecDepth 20000 in
theorem ceX5_weight {l : Launch} {X : Nat × (Nat → Int32)} {d : Nat} : tbX5_weight l X d = ctb l X d U0 cdX5_weight := cec (cp18) <| cec (cp37) <| cec (cp1) <| cec (cp11) <| cec (cp0 io_1_1) <| cec (cp7) <| cec (cp0 io_12_32) <| cec (cp6) <| cec (cp54) <| cen
noncomputable def cdX5_next : List (Nat × Cd) := [(0, (1, 1, 2, 0, 0, [])), (1, (0, 1, 0, 0, 1, [])), (2, (18, 1, 1, 0, 0, [])), (3, (37, 3, 0, 0, 0, [])), (6, (52, 277, 0, 2, 0, [])), (9, (21, 0, 0, 0, 0, [])), (10, (2, 2, 4, 0, 0, [])), (12, (1, 1, 2, 0, 0, [])), (13, (1, 2, 4, 0, 0, [])), (15, (18, 1, 1, 0, 0, [])), (16, (37, 3, 0, 0, 0, [])), (19, (6, 0, 0, 0, 0, [])), (20, (5, 0, 0, 0, 0, [])), (21, (2, 2, 5, 0, 0, [])), (23, (1, 2, 4, 0, 0, [])), (25, (1, 1, 3, 0, 0, [])), (26, (0, 1, 0, 0, 2, [])), (27, (15, 34, 1, 0, 0, [])), (30, (0, 1, 0, 0, 1, [])), (31, (13, 35, 0, 0, 0, [])), (34, (0, 1, 0, 0, 0, [])), (35, (4, 0, 0, 0, 0, [])), (36, (1, 1, 3, 0, 0, [])), (37, (14, 44, 1, 0, 0, [])), (40, (0, 1, 0, 0, 1, [])), (41, (13, 45, 0, 0, 0, [])), (44, (0, 1, 0, 0, 0, [])), (45, (5, 0, 0, 0, 0, [])), (46, (2, 2, 6, 0, 0, [])), (48, (1, 2, 5, 0, 0, [])), (50, (1, 1, 3, 0, 0, [])), (51, (0, 1, 0, 0, 1, [])), (52, (15, 59, 1, 0, 0, [])), (55, (0, 1, 0, 0, 1, [])), (56, (13, 60, 0, 0, 0, [])), (59, (0, 1, 0, 0, 0, [])), (60, (4, 0, 0, 0, 0, [])), (61, (1, 1, 3, 0, 0, [])), (62, (0, 1, 0, 0, 3, [])), (63, (15, 70, 1, 0, 0, [])), (66, (0, 1, 0, 0, 1, [])), (67, (13, 71, 0, 0, 0, [])), (70, (0, 1, 0, 0, 0, [])), (71, (5, 0, 0, 0, 0, [])), (72, (2, 2, 7, 0, 0, [])), (74, (1, 2, 6, 0, 0, [])), (76, (14, 102, 2, 0, 0, [])), (79, (1, 2, 6, 0, 0, [])), (81, (18, 1, 1, 0, 0, [])), (82, (37, 3, 1, 0, 0, [])), (85, (15, 102, 3, 0, 0, [])), (88, (1, 2, 7, 0, 0, [])), (90, (14, 102, 2, 0, 0, [])), (93, (1, 2, 7, 0, 0, [])), (95, (18, 1, 1, 0, 0, [])), (96, (37, 3, 0, 0, 0, [])), (99, (15, 105, 2, 0, 0, [])), (102, (0, 2, 0, 0, (-2), [])), (104, (54, 0, 0, 0, 0, [])), (105, (1, 2, 6, 0, 0, [])), (107, (18, 1, 1, 0, 0, [])), (108, (37, 3, 0, 0, 0, [])), (111, (6, 0, 0, 0, 0, [])), (112, (1, 2, 7, 0, 0, [])), (114, (4, 0, 0, 0, 0, [])), (115, (2, 2, 8, 0, 0, [])), (117, (18, 1, 1, 0, 0, [])), (118, (1, 2, 8, 0, 0, [])), (120, (51, 14, 3, 1, 0, [])), (123, (14, 131, 0, 0, 0, [])), (126, (0, 2, 0, 0, (-2), [])), (128, (13, 133, 0, 0, 0, [])), (131, (1, 2, 8, 0, 0, [])), (133, (54, 0, 0, 0, 0, []))]
set_option maxRecDepth 20000 in
theorem ceX5_next {l : Launch} {X : Nat × (Nat → Int32)} {d : Nat} : tbX5_next l X d = ctb l X d U0 cdX5_next := cec (cp1) <| cec (cp0 io_1_1) <| cec (cp18) <| cec (cp37) <| cec (cp52 u0_277) <| cec (cp21) <| cec (cp2) <| cec (cp1) <| cec (cp1) <| cec (cp18) <| cec (cp37) <| cec (cp6) <| cec (cp5) <| cec (cp2) <| cec (cp1) <| cec (cp1) <| cec (cp0 io_2_2) <| cec (cp15_1) <| cec (cp0 io_1_1) <| cec (cp13) <| cec (cp0 io_0_0) <| cec (cp4) <| cec (cp1) <| cec (cp14_1) <| cec (cp0 io_1_1) <| cec (cp13) <| cec (cp0 io_0_0) <| cec (cp5) <| cec (cp2) <| cec (cp1) <| cec (cp1) <| cec (cp0 io_1_1) <| cec (cp15_1) <| cec (cp0 io_1_1) <| cec (cp13) <| cec (cp0 io_0_0) <| cec (cp4) <| cec (cp1) <| cec (cp0 io_11_3) <| cec (cp15_1) <| cec (cp0 io_1_1) <| cec (cp13) <| cec (cp0 io_0_0) <| cec (cp5) <| cec (cp2) <| cec (cp1) <| cec (cp14_2) <| cec (cp1) <| cec (cp18) <| cec (cp37) <| cec (cp15_3) <| cec (cp1) <| cec (cp14_2) <| cec (cp1) <| cec (cp18) <| cec (cp37) <| cec (cp15_2) <| cec (cp0 io_3_m2) <| cec (cp54) <| cec (cp1) <| cec (cp18) <| cec (cp37) <| cec (cp6) <| cec (cp1) <| cec (cp4) <| cec (cp2) <| cec (cp18) <| cec (cp1) <| cec (cp51 u0_14) <| cec (cp14_0) <| cec (cp0 io_3_m2) <| cec (cp13) <| cec (cp1) <| cec (cp54) <| cen
noncomputable def cdX6_close : List (Nat × Cd) := [(0, (1, 1, 1, 0, 0, [])), (1, (14, 15, 2, 0, 0, [])), (4, (1, 1, 1, 0, 0, [])), (5, (18, 1, 0, 0, 0, [])), (6, (37, 6, 0, 2, 0, [])), (9, (37, 4, 1, 0, 0, [])), (12, (15, 21, 5, 0, 0, [])), (15, (18, 1, 0, 0, 0, [])), (16, (0, 1, 0, 0, 2, [])), (17, (51, 106, 6, 1, 0, [])), (20, (54, 0, 0, 0, 0, [])), (21, (18, 1, 0, 0, 0, [])), (22, (37, 6, 0, 2, 0, [])), (25, (0, 1, 0, 0, 0, [])), (26, (38, 4, 1, 0, 0, [])), (29, (18, 1, 0, 0, 0, [])), (30, (37, 6, 0, 2, 0, [])), (33, (1, 1, 1, 0, 0, [])), (34, (18, 1, 0, 0, 0, [])), (35, (37, 6, 2, 2, 0, [])), (38, (51, 23, 4, 2, 0, [])), (41, (14, 50, 1, 0, 0, [])), (44, (18, 1, 0, 0, 0, [])), (45, (0, 1, 0, 0, 4, [])), (46, (51, 106, 6, 1, 0, [])), (49, (54, 0, 0, 0, 0, [])), (50, (18, 1, 0, 0, 0, [])), (51, (37, 6, 1, 2, 0, [])), (54, (20, 1, 2, 0, 0, [])), (55, (18, 1, 0, 0, 0, [])), (56, (18, 1, 0, 0, 0, [])), (57, (37, 6, 2, 2, 0, [])), (60, (41, 6, 1, 0, 0, [])), (63, (18, 1, 0, 0, 0, [])), (64, (18, 1, 2, 0, 0, [])), (65, (41, 6, 2, 0, 0, [])), (68, (18, 1, 0, 0, 0, [])), (69, (37, 6, 3, 2, 0, [])), (72, (18, 1, 0, 0, 0, [])), (73, (37, 6, 1, 2, 0, [])), (76, (51, 9, 2, 1, 0, [])), (79, (18, 1, 0, 0, 0, [])), (80, (0, 1, 0, 0, 0, [])), (81, (38, 6, 6, 0, 0, [])), (84, (18, 1, 0, 0, 0, [])), (85, (0, 1, 0, 0, 0, [])), (86, (38, 6, 8, 0, 0, [])), (89, (18, 1, 0, 0, 0, [])), (90, (18, 1, 0, 0, 0, [])), (91, (37, 6, 1, 2, 0, [])), (94, (37, 3, 4, 0, 0, [])), (97, (51, 105, 6, 1, 0, [])), (100, (54, 0, 0, 0, 0, []))]
set_option maxRecDepth 20000 in
theorem ceX6_close {l : Launch} {X : Nat × (Nat → Int32)} {d : Nat} : tbX6_close l X d = ctb l X d U0 cdX6_close := cec (cp1) <| cec (cp14_2) <| cec (cp1) <| cec (cp18) <| cec (cp37) <| cec (cp37) <| cec (cp15_5) <| cec (cp18) <| cec (cp0 io_2_2) <| cec (cp51 u0_106) <| cec (cp54) <| cec (cp18) <| cec (cp37) <| cec (cp0 io_0_0) <| cec (cp38) <| cec (cp18) <| cec (cp37) <| cec (cp1) <| cec (cp18) <| cec (cp37) <| cec (cp51 u0_23) <| cec (cp14_1) <| cec (cp18) <| cec (cp0 io_18_4) <| cec (cp51 u0_106) <| cec (cp54) <| cec (cp18) <| cec (cp37) <| cec (cp20) <| cec (cp18) <| cec (cp18) <| cec (cp37) <| cec (cp41) <| cec (cp18) <| cec (cp18) <| cec (cp41) <| cec (cp18) <| cec (cp37) <| cec (cp18) <| cec (cp37) <| cec (cp51 u0_9) <| cec (cp18) <| cec (cp0 io_0_0) <| cec (cp38) <| cec (cp18) <| cec (cp0 io_0_0) <| cec (cp38) <| cec (cp18) <| cec (cp18) <| cec (cp37) <| cec (cp37) <| cec (cp51 u0_105) <| cec (cp54) <| cen
noncomputable def cdX6_fault : List (Nat × Cd) := [(0, (18, 1, 0, 0, 0, [])), (1, (37, 6, 0, 2, 0, [])), (4, (37, 4, 13, 0, 0, [])), (7, (54, 0, 0, 0, 0, []))]
set_option maxRecDepth 20000 in
theorem ceX6_fault {l : Launch} {X : Nat × (Nat → Int32)} {d : Nat} : tbX6_fault l X d = ctb l X d U0 cdX6_fault := cec (cp18) <| cec (cp37) <| cec (cp37) <| cec (cp54) <| cen
noncomputable def cdX6_where : List (Nat × Cd) := [(0, (18, 1, 0, 0, 0, [])), (1, (37, 6, 13, 0, 0, [])), (4, (0, 1, 0, 0, 4, [])), (5, (15, 18, 1, 0, 0, [])), (8, (18, 1, 0, 0, 0, [])), (9, (37, 6, 0, 2, 0, [])), (12, (37, 4, 14, 0, 0, [])), (15, (13, 19, 0, 0, 0, [])), (18, (0, 1, 0, 0, (-1), [])), (19, (54, 0, 0, 0, 0, []))]
set_option maxRecDepth 20000 in
theorem ceX6_where {l : Launch} {X : Nat × (Nat → Int32)} {d : Nat} : tbX6_where l X d = ctb l X d U0 cdX6_where := cec (cp18) <| cec (cp37) <| cec (cp0 io_18_4) <| cec (cp15_1) <| cec (cp18) <| cec (cp37) <| cec (cp37) <| cec (cp13) <| cec (cp0 io_6_m1) <| cec (cp54) <| cen
noncomputable def cdX6_face : List (Nat × Cd) := [(0, (18, 1, 0, 0, 0, [])), (1, (1, 1, 1, 0, 0, [])), (2, (51, 109, 6, 1, 0, [])), (5, (14, 14, 1, 0, 0, [])), (8, (18, 1, 0, 0, 0, [])), (9, (0, 1, 0, 0, 1, [])), (10, (51, 106, 6, 1, 0, [])), (13, (54, 0, 0, 0, 0, [])), (14, (1, 1, 2, 0, 0, [])), (15, (16, 157, 0, 0, 0, [56, 70, 84, 98, 119, 133, 143])), (56, (18, 1, 0, 0, 0, [])), (57, (18, 1, 0, 0, 0, [])), (58, (37, 6, 1, 2, 0, [])), (61, (37, 3, 5, 2, 0, [])), (64, (1, 1, 1, 0, 0, [])), (65, (42, 0, 0, 0, 0, [])), (66, (51, 105, 6, 1, 0, [])), (69, (54, 0, 0, 0, 0, [])), (70, (18, 1, 0, 0, 0, [])), (71, (18, 1, 0, 0, 0, [])), (72, (37, 6, 3, 2, 0, [])), (75, (37, 2, 0, 2, 0, [])), (78, (1, 1, 1, 0, 0, [])), (79, (42, 0, 0, 0, 0, [])), (80, (51, 105, 6, 1, 0, [])), (83, (54, 0, 0, 0, 0, [])), (84, (18, 1, 0, 0, 0, [])), (85, (18, 1, 0, 0, 0, [])), (86, (37, 6, 3, 2, 0, [])), (89, (37, 2, 1, 2, 0, [])), (92, (1, 1, 1, 0, 0, [])), (93, (42, 0, 0, 0, 0, [])), (94, (51, 105, 6, 1, 0, [])), (97, (54, 0, 0, 0, 0, [])), (98, (18, 1, 0, 0, 0, [])), (99, (18, 1, 0, 0, 0, [])), (100, (37, 6, 3, 2, 0, [])), (103, (1, 1, 1, 0, 0, [])), (104, (51, 11, 2, 1, 0, [])), (107, (14, 114, 0, 0, 0, [])), (110, (0, 1, 0, 0, 1, [])), (111, (13, 115, 0, 0, 0, [])), (114, (0, 1, 0, 0, 0, [])), (115, (51, 105, 6, 1, 0, [])), (118, (54, 0, 0, 0, 0, [])), (119, (18, 1, 0, 0, 0, [])), (120, (18, 1, 0, 0, 0, [])), (121, (37, 6, 3, 2, 0, [])), (124, (37, 2, 2, 2, 0, [])), (127, (1, 1, 1, 0, 0, [])), (128, (42, 0, 0, 0, 0, [])), (129, (51, 105, 6, 1, 0, [])), (132, (54, 0, 0, 0, 0, [])), (133, (18, 1, 0, 0, 0, [])), (134, (18, 1, 0, 0, 0, [])), (135, (1, 1, 1, 0, 0, [])), (136, (51, 114, 6, 1, 0, [])), (139, (51, 105, 6, 1, 0, [])), (142, (54, 0, 0, 0, 0, [])), (143, (18, 1, 0, 0, 0, [])), (144, (18, 1, 0, 0, 0, [])), (145, (37, 6, 1, 2, 0, [])), (148, (37, 3, 8, 2, 0, [])), (151, (1, 1, 1, 0, 0, [])), (152, (42, 0, 0, 0, 0, [])), (153, (51, 105, 6, 1, 0, [])), (156, (54, 0, 0, 0, 0, [])), (157, (18, 1, 0, 0, 0, [])), (158, (0, 1, 0, 0, 1, [])), (159, (51, 106, 6, 1, 0, [])), (162, (54, 0, 0, 0, 0, []))]
set_option maxRecDepth 20000 in
theorem ceX6_face {l : Launch} {X : Nat × (Nat → Int32)} {d : Nat} : tbX6_face l X d = ctb l X d U0 cdX6_face := cec (cp18) <| cec (cp1) <| cec (cp51 u0_109) <| cec (cp14_1) <| cec (cp18) <| cec (cp0 io_1_1) <| cec (cp51 u0_106) <| cec (cp54) <| cec (cp1) <| cec (cp16) <| cec (cp18) <| cec (cp18) <| cec (cp37) <| cec (cp37) <| cec (cp1) <| cec (cp42) <| cec (cp51 u0_105) <| cec (cp54) <| cec (cp18) <| cec (cp18) <| cec (cp37) <| cec (cp37) <| cec (cp1) <| cec (cp42) <| cec (cp51 u0_105) <| cec (cp54) <| cec (cp18) <| cec (cp18) <| cec (cp37) <| cec (cp37) <| cec (cp1) <| cec (cp42) <| cec (cp51 u0_105) <| cec (cp54) <| cec (cp18) <| cec (cp18) <| cec (cp37) <| cec (cp1) <| cec (cp51 u0_11) <| cec (cp14_0) <| cec (cp0 io_1_1) <| cec (cp13) <| cec (cp0 io_0_0) <| cec (cp51 u0_105) <| cec (cp54) <| cec (cp18) <| cec (cp18) <| cec (cp37) <| cec (cp37) <| cec (cp1) <| cec (cp42) <| cec (cp51 u0_105) <| cec (cp54) <| cec (cp18) <| cec (cp18) <| cec (cp1) <| cec (cp51 u0_114) <| cec (cp51 u0_105) <| cec (cp54) <| cec (cp18) <| cec (cp18) <| cec (cp37) <| cec (cp37) <| cec (cp1) <| cec (cp42) <| cec (cp51 u0_105) <| cec (cp54) <| cec (cp18) <| cec (cp0 io_1_1) <| cec (cp51 u0_106) <| cec (cp54) <| cen
noncomputable def cdX6_canon : List (Nat × Cd) := [(0, (18, 1, 0, 0, 0, [])), (1, (1, 1, 1, 0, 0, [])), (2, (51, 110, 6, 1, 0, [])), (5, (14, 14, 1, 0, 0, [])), (8, (18, 1, 0, 0, 0, [])), (9, (0, 1, 0, 0, 1, [])), (10, (51, 106, 6, 1, 0, [])), (13, (54, 0, 0, 0, 0, [])), (14, (1, 1, 2, 0, 0, [])), (15, (16, 82, 0, 0, 0, [40, 54, 68])), (40, (18, 1, 0, 0, 0, [])), (41, (18, 1, 0, 0, 0, [])), (42, (37, 6, 3, 2, 0, [])), (45, (37, 2, 3, 2, 0, [])), (48, (1, 1, 1, 0, 0, [])), (49, (42, 0, 0, 0, 0, [])), (50, (51, 105, 6, 1, 0, [])), (53, (54, 0, 0, 0, 0, [])), (54, (18, 1, 0, 0, 0, [])), (55, (18, 1, 0, 0, 0, [])), (56, (37, 6, 1, 2, 0, [])), (59, (37, 3, 12, 2, 0, [])), (62, (1, 1, 1, 0, 0, [])), (63, (42, 0, 0, 0, 0, [])), (64, (51, 105, 6, 1, 0, [])), (67, (54, 0, 0, 0, 0, [])), (68, (18, 1, 0, 0, 0, [])), (69, (18, 1, 0, 0, 0, [])), (70, (37, 6, 1, 2, 0, [])), (73, (37, 3, 13, 2, 0, [])), (76, (1, 1, 1, 0, 0, [])), (77, (42, 0, 0, 0, 0, [])), (78, (51, 105, 6, 1, 0, [])), (81, (54, 0, 0, 0, 0, [])), (82, (18, 1, 0, 0, 0, [])), (83, (0, 1, 0, 0, 1, [])), (84, (51, 106, 6, 1, 0, [])), (87, (54, 0, 0, 0, 0, []))]
set_option maxRecDepth 20000 in
theorem ceX6_canon {l : Launch} {X : Nat × (Nat → Int32)} {d : Nat} : tbX6_canon l X d = ctb l X d U0 cdX6_canon := cec (cp18) <| cec (cp1) <| cec (cp51 u0_110) <| cec (cp14_1) <| cec (cp18) <| cec (cp0 io_1_1) <| cec (cp51 u0_106) <| cec (cp54) <| cec (cp1) <| cec (cp16) <| cec (cp18) <| cec (cp18) <| cec (cp37) <| cec (cp37) <| cec (cp1) <| cec (cp42) <| cec (cp51 u0_105) <| cec (cp54) <| cec (cp18) <| cec (cp18) <| cec (cp37) <| cec (cp37) <| cec (cp1) <| cec (cp42) <| cec (cp51 u0_105) <| cec (cp54) <| cec (cp18) <| cec (cp18) <| cec (cp37) <| cec (cp37) <| cec (cp1) <| cec (cp42) <| cec (cp51 u0_105) <| cec (cp54) <| cec (cp18) <| cec (cp0 io_1_1) <| cec (cp51 u0_106) <| cec (cp54) <| cen
noncomputable def cdX6_cell : List (Nat × Cd) := [(0, (18, 1, 0, 0, 0, [])), (1, (1, 1, 1, 0, 0, [])), (2, (51, 111, 6, 1, 0, [])), (5, (14, 14, 1, 0, 0, [])), (8, (18, 1, 0, 0, 0, [])), (9, (0, 1, 0, 0, 1, [])), (10, (51, 106, 6, 1, 0, [])), (13, (54, 0, 0, 0, 0, [])), (14, (1, 1, 2, 0, 0, [])), (15, (16, 136, 0, 0, 0, [44, 65, 78, 94])), (44, (18, 1, 0, 0, 0, [])), (45, (18, 1, 0, 0, 0, [])), (46, (37, 6, 1, 2, 0, [])), (49, (1, 1, 1, 0, 0, [])), (50, (51, 14, 3, 1, 0, [])), (53, (14, 60, 0, 0, 0, [])), (56, (0, 1, 0, 0, 1, [])), (57, (13, 61, 0, 0, 0, [])), (60, (0, 1, 0, 0, 0, [])), (61, (51, 105, 6, 1, 0, [])), (64, (54, 0, 0, 0, 0, [])), (65, (18, 1, 0, 0, 0, [])), (66, (18, 1, 0, 0, 0, [])), (67, (37, 6, 1, 2, 0, [])), (70, (1, 1, 1, 0, 0, [])), (71, (51, 17, 3, 1, 0, [])), (74, (51, 105, 6, 1, 0, [])), (77, (54, 0, 0, 0, 0, [])), (78, (18, 1, 0, 0, 0, [])), (79, (18, 1, 0, 0, 0, [])), (80, (37, 6, 3, 2, 0, [])), (83, (37, 2, 5, 0, 0, [])), (86, (1, 1, 1, 0, 0, [])), (87, (11, 0, 0, 0, 0, [])), (88, (0, 1, 0, 0, 1, [])), (89, (7, 0, 0, 0, 0, [])), (90, (51, 105, 6, 1, 0, [])), (93, (54, 0, 0, 0, 0, [])), (94, (18, 1, 0, 0, 0, [])), (95, (18, 1, 0, 0, 0, [])), (96, (37, 6, 1, 2, 0, [])), (99, (1, 1, 1, 0, 0, [])), (100, (51, 14, 3, 1, 0, [])), (103, (14, 110, 0, 0, 0, [])), (106, (0, 1, 0, 0, 0, [])), (107, (13, 132, 0, 0, 0, [])), (110, (18, 1, 0, 0, 0, [])), (111, (37, 6, 10, 2, 0, [])), (114, (18, 1, 0, 0, 0, [])), (115, (37, 6, 1, 2, 0, [])), (118, (0, 1, 0, 0, 1, [])), (119, (1, 1, 1, 0, 0, [])), (120, (10, 0, 0, 0, 0, [])), (121, (51, 44, 5, 2, 0, [])), (124, (18, 1, 0, 0, 0, [])), (125, (37, 6, 1, 2, 0, [])), (128, (51, 16, 3, 0, 0, [])), (131, (7, 0, 0, 0, 0, [])), (132, (51, 105, 6, 1, 0, [])), (135, (54, 0, 0, 0, 0, [])), (136, (18, 1, 0, 0, 0, [])), (137, (0, 1, 0, 0, 1, [])), (138, (51, 106, 6, 1, 0, [])), (141, (54, 0, 0, 0, 0, []))]
set_option maxRecDepth 20000 in
theorem ceX6_cell {l : Launch} {X : Nat × (Nat → Int32)} {d : Nat} : tbX6_cell l X d = ctb l X d U0 cdX6_cell := cec (cp18) <| cec (cp1) <| cec (cp51 u0_111) <| cec (cp14_1) <| cec (cp18) <| cec (cp0 io_1_1) <| cec (cp51 u0_106) <| cec (cp54) <| cec (cp1) <| cec (cp16) <| cec (cp18) <| cec (cp18) <| cec (cp37) <| cec (cp1) <| cec (cp51 u0_14) <| cec (cp14_0) <| cec (cp0 io_1_1) <| cec (cp13) <| cec (cp0 io_0_0) <| cec (cp51 u0_105) <| cec (cp54) <| cec (cp18) <| cec (cp18) <| cec (cp37) <| cec (cp1) <| cec (cp51 u0_17) <| cec (cp51 u0_105) <| cec (cp54) <| cec (cp18) <| cec (cp18) <| cec (cp37) <| cec (cp37) <| cec (cp1) <| cec (cp11) <| cec (cp0 io_1_1) <| cec (cp7) <| cec (cp51 u0_105) <| cec (cp54) <| cec (cp18) <| cec (cp18) <| cec (cp37) <| cec (cp1) <| cec (cp51 u0_14) <| cec (cp14_0) <| cec (cp0 io_0_0) <| cec (cp13) <| cec (cp18) <| cec (cp37) <| cec (cp18) <| cec (cp37) <| cec (cp0 io_1_1) <| cec (cp1) <| cec (cp10) <| cec (cp51 u0_44) <| cec (cp18) <| cec (cp37) <| cec (cp51 u0_16) <| cec (cp7) <| cec (cp51 u0_105) <| cec (cp54) <| cec (cp18) <| cec (cp0 io_1_1) <| cec (cp51 u0_106) <| cec (cp54) <| cen
noncomputable def cdX6_burden : List (Nat × Cd) := [(0, (18, 1, 0, 0, 0, [])), (1, (51, 108, 6, 0, 0, [])), (4, (14, 13, 1, 0, 0, [])), (7, (18, 1, 0, 0, 0, [])), (8, (0, 1, 0, 0, 1, [])), (9, (51, 106, 6, 1, 0, [])), (12, (54, 0, 0, 0, 0, [])), (13, (0, 1, 0, 0, 0, [])), (14, (2, 1, 1, 0, 0, [])), (15, (0, 1, 0, 0, 0, [])), (16, (2, 1, 2, 0, 0, [])), (17, (1, 1, 2, 0, 0, [])), (18, (18, 1, 0, 0, 0, [])), (19, (37, 6, 1, 2, 0, [])), (22, (37, 3, 4, 0, 0, [])), (25, (15, 46, 3, 0, 0, [])), (28, (1, 1, 1, 0, 0, [])), (29, (18, 1, 0, 0, 0, [])), (30, (37, 6, 3, 2, 0, [])), (33, (37, 2, 1, 2, 0, [])), (36, (1, 1, 2, 0, 0, [])), (37, (42, 0, 0, 0, 0, [])), (38, (4, 0, 0, 0, 0, [])), (39, (2, 1, 1, 0, 0, [])), (40, (3, 2, 0, 0, 1, [])), (43, (13, 17, 0, 0, 0, [])), (46, (18, 1, 0, 0, 0, [])), (47, (1, 1, 1, 0, 0, [])), (48, (51, 105, 6, 1, 0, [])), (51, (54, 0, 0, 0, 0, []))]
set_option maxRecDepth 20000 in
theorem ceX6_burden {l : Launch} {X : Nat × (Nat → Int32)} {d : Nat} : tbX6_burden l X d = ctb l X d U0 cdX6_burden := cec (cp18) <| cec (cp51 u0_108) <| cec (cp14_1) <| cec (cp18) <| cec (cp0 io_1_1) <| cec (cp51 u0_106) <| cec (cp54) <| cec (cp0 io_0_0) <| cec (cp2) <| cec (cp0 io_0_0) <| cec (cp2) <| cec (cp1) <| cec (cp18) <| cec (cp37) <| cec (cp37) <| cec (cp15_3) <| cec (cp1) <| cec (cp18) <| cec (cp37) <| cec (cp37) <| cec (cp1) <| cec (cp42) <| cec (cp4) <| cec (cp2) <| cec (cp3 io_1_1) <| cec (cp13) <| cec (cp18) <| cec (cp1) <| cec (cp51 u0_105) <| cec (cp54) <| cen
noncomputable def cdX6_bears : List (Nat × Cd) := [(0, (18, 1, 0, 0, 0, [])), (1, (1, 1, 1, 0, 0, [])), (2, (1, 1, 2, 0, 0, [])), (3, (51, 115, 6, 2, 0, [])), (6, (14, 11, 1, 0, 0, [])), (9, (0, 1, 0, 0, (-1), [])), (10, (54, 0, 0, 0, 0, [])), (11, (18, 1, 0, 0, 0, [])), (12, (1, 1, 1, 0, 0, [])), (13, (1, 1, 2, 0, 0, [])), (14, (51, 122, 6, 2, 0, [])), (17, (18, 1, 0, 0, 0, [])), (18, (18, 1, 0, 0, 0, [])), (19, (37, 6, 9, 2, 0, [])), (22, (37, 0, 6, 0, 0, [])), (25, (51, 105, 6, 1, 0, [])), (28, (54, 0, 0, 0, 0, []))]
set_option maxRecDepth 20000 in
theorem ceX6_bears {l : Launch} {X : Nat × (Nat → Int32)} {d : Nat} : tbX6_bears l X d = ctb l X d U0 cdX6_bears := cec (cp18) <| cec (cp1) <| cec (cp1) <| cec (cp51 u0_115) <| cec (cp14_1) <| cec (cp0 io_6_m1) <| cec (cp54) <| cec (cp18) <| cec (cp1) <| cec (cp1) <| cec (cp51 u0_122) <| cec (cp18) <| cec (cp18) <| cec (cp37) <| cec (cp37) <| cec (cp51 u0_105) <| cec (cp54) <| cen
noncomputable def cdX6_holds : List (Nat × Cd) := [(0, (18, 1, 0, 0, 0, [])), (1, (1, 1, 1, 0, 0, [])), (2, (1, 1, 2, 0, 0, [])), (3, (51, 115, 6, 2, 0, [])), (6, (14, 11, 1, 0, 0, [])), (9, (0, 1, 0, 0, (-1), [])), (10, (54, 0, 0, 0, 0, [])), (11, (18, 1, 0, 0, 0, [])), (12, (1, 1, 1, 0, 0, [])), (13, (1, 1, 2, 0, 0, [])), (14, (51, 122, 6, 2, 0, [])), (17, (18, 1, 0, 0, 0, [])), (18, (18, 1, 0, 0, 0, [])), (19, (37, 6, 9, 2, 0, [])), (22, (37, 0, 5, 0, 0, [])), (25, (51, 105, 6, 1, 0, [])), (28, (54, 0, 0, 0, 0, []))]
set_option maxRecDepth 20000 in
theorem ceX6_holds {l : Launch} {X : Nat × (Nat → Int32)} {d : Nat} : tbX6_holds l X d = ctb l X d U0 cdX6_holds := cec (cp18) <| cec (cp1) <| cec (cp1) <| cec (cp51 u0_115) <| cec (cp14_1) <| cec (cp0 io_6_m1) <| cec (cp54) <| cec (cp18) <| cec (cp1) <| cec (cp1) <| cec (cp51 u0_122) <| cec (cp18) <| cec (cp18) <| cec (cp37) <| cec (cp37) <| cec (cp51 u0_105) <| cec (cp54) <| cen
noncomputable def cdX6_drops : List (Nat × Cd) := [(0, (18, 1, 0, 0, 0, [])), (1, (1, 1, 1, 0, 0, [])), (2, (1, 1, 2, 0, 0, [])), (3, (51, 115, 6, 2, 0, [])), (6, (14, 11, 1, 0, 0, [])), (9, (0, 1, 0, 0, (-1), [])), (10, (54, 0, 0, 0, 0, [])), (11, (18, 1, 0, 0, 0, [])), (12, (1, 1, 1, 0, 0, [])), (13, (1, 1, 2, 0, 0, [])), (14, (51, 122, 6, 2, 0, [])), (17, (18, 1, 0, 0, 0, [])), (18, (18, 1, 0, 0, 0, [])), (19, (37, 6, 9, 2, 0, [])), (22, (37, 0, 7, 0, 0, [])), (25, (51, 105, 6, 1, 0, [])), (28, (54, 0, 0, 0, 0, []))]
set_option maxRecDepth 20000 in
theorem ceX6_drops {l : Launch} {X : Nat × (Nat → Int32)} {d : Nat} : tbX6_drops l X d = ctb l X d U0 cdX6_drops := cec (cp18) <| cec (cp1) <| cec (cp1) <| cec (cp51 u0_115) <| cec (cp14_1) <| cec (cp0 io_6_m1) <| cec (cp54) <| cec (cp18) <| cec (cp1) <| cec (cp1) <| cec (cp51 u0_122) <| cec (cp18) <| cec (cp18) <| cec (cp37) <| cec (cp37) <| cec (cp51 u0_105) <| cec (cp54) <| cen
noncomputable def cdX6_dropsIn : List (Nat × Cd) := [(0, (18, 1, 0, 0, 0, [])), (1, (1, 1, 1, 0, 0, [])), (2, (51, 109, 6, 1, 0, [])), (5, (14, 14, 1, 0, 0, [])), (8, (18, 1, 0, 0, 0, [])), (9, (0, 1, 0, 0, 1, [])), (10, (51, 106, 6, 1, 0, [])), (13, (54, 0, 0, 0, 0, [])), (14, (18, 1, 0, 0, 0, [])), (15, (1, 1, 1, 0, 0, [])), (16, (18, 1, 0, 0, 0, [])), (17, (1, 1, 1, 0, 0, [])), (18, (51, 114, 6, 1, 0, [])), (21, (51, 121, 6, 2, 0, [])), (24, (18, 1, 0, 0, 0, [])), (25, (18, 1, 0, 0, 0, [])), (26, (37, 6, 9, 2, 0, [])), (29, (0, 2, 0, 0, 60, [])), (31, (51, 3, 0, 1, 0, [])), (34, (51, 105, 6, 1, 0, [])), (37, (54, 0, 0, 0, 0, []))]
set_option maxRecDepth 20000 in
theorem ceX6_dropsIn {l : Launch} {X : Nat × (Nat → Int32)} {d : Nat} : tbX6_dropsIn l X d = ctb l X d U0 cdX6_dropsIn := cec (cp18) <| cec (cp1) <| cec (cp51 u0_109) <| cec (cp14_1) <| cec (cp18) <| cec (cp0 io_1_1) <| cec (cp51 u0_106) <| cec (cp54) <| cec (cp18) <| cec (cp1) <| cec (cp18) <| cec (cp1) <| cec (cp51 u0_114) <| cec (cp51 u0_121) <| cec (cp18) <| cec (cp18) <| cec (cp37) <| cec (cp0 io_30_60) <| cec (cp51 u0_3) <| cec (cp51 u0_105) <| cec (cp54) <| cen
noncomputable def cdX6_fallsIn : List (Nat × Cd) := [(0, (18, 1, 0, 0, 0, [])), (1, (1, 1, 1, 0, 0, [])), (2, (51, 109, 6, 1, 0, [])), (5, (14, 14, 1, 0, 0, [])), (8, (18, 1, 0, 0, 0, [])), (9, (0, 1, 0, 0, 1, [])), (10, (51, 106, 6, 1, 0, [])), (13, (54, 0, 0, 0, 0, [])), (14, (18, 1, 0, 0, 0, [])), (15, (1, 1, 1, 0, 0, [])), (16, (18, 1, 0, 0, 0, [])), (17, (1, 1, 1, 0, 0, [])), (18, (51, 114, 6, 1, 0, [])), (21, (51, 121, 6, 2, 0, [])), (24, (0, 1, 0, 0, 0, [])), (25, (2, 1, 2, 0, 0, [])), (26, (1, 1, 2, 0, 0, [])), (27, (0, 2, 0, 0, 60, [])), (29, (15, 63, 4, 0, 0, [])), (32, (18, 1, 0, 0, 0, [])), (33, (37, 6, 9, 2, 0, [])), (36, (37, 0, 5, 0, 0, [])), (39, (14, 48, 1, 0, 0, [])), (42, (18, 1, 0, 0, 0, [])), (43, (1, 1, 2, 0, 0, [])), (44, (51, 105, 6, 1, 0, [])), (47, (54, 0, 0, 0, 0, [])), (48, (18, 1, 0, 0, 0, [])), (49, (37, 6, 9, 2, 0, [])), (52, (0, 1, 0, 0, 0, [])), (53, (51, 1, 0, 1, 0, [])), (56, (36, 0, 0, 0, 0, [])), (57, (3, 2, 0, 0, 1, [])), (60, (13, 26, 0, 0, 0, [])), (63, (18, 1, 0, 0, 0, [])), (64, (0, 2, 0, 0, (-2), [])), (66, (51, 105, 6, 1, 0, [])), (69, (54, 0, 0, 0, 0, []))]
set_option maxRecDepth 20000 in
theorem ceX6_fallsIn {l : Launch} {X : Nat × (Nat → Int32)} {d : Nat} : tbX6_fallsIn l X d = ctb l X d U0 cdX6_fallsIn := cec (cp18) <| cec (cp1) <| cec (cp51 u0_109) <| cec (cp14_1) <| cec (cp18) <| cec (cp0 io_1_1) <| cec (cp51 u0_106) <| cec (cp54) <| cec (cp18) <| cec (cp1) <| cec (cp18) <| cec (cp1) <| cec (cp51 u0_114) <| cec (cp51 u0_121) <| cec (cp0 io_0_0) <| cec (cp2) <| cec (cp1) <| cec (cp0 io_30_60) <| cec (cp15_4) <| cec (cp18) <| cec (cp37) <| cec (cp37) <| cec (cp14_1) <| cec (cp18) <| cec (cp1) <| cec (cp51 u0_105) <| cec (cp54) <| cec (cp18) <| cec (cp37) <| cec (cp0 io_0_0) <| cec (cp51 u0_1) <| cec (cp36) <| cec (cp3 io_1_1) <| cec (cp13) <| cec (cp18) <| cec (cp0 io_3_m2) <| cec (cp51 u0_105) <| cec (cp54) <| cen
noncomputable def cdX6_wet : List (Nat × Cd) := [(0, (18, 1, 0, 0, 0, [])), (1, (1, 1, 1, 0, 0, [])), (2, (0, 1, 0, 0, 1, [])), (3, (0, 2, 0, 0, 60, [])), (5, (51, 116, 6, 3, 0, [])), (8, (14, 13, 1, 0, 0, [])), (11, (0, 1, 0, 0, (-1), [])), (12, (54, 0, 0, 0, 0, [])), (13, (18, 1, 0, 0, 0, [])), (14, (1, 1, 1, 0, 0, [])), (15, (51, 123, 6, 1, 0, [])), (18, (18, 1, 0, 0, 0, [])), (19, (18, 1, 0, 0, 0, [])), (20, (37, 6, 12, 2, 0, [])), (23, (1, 1, 1, 0, 0, [])), (24, (42, 0, 0, 0, 0, [])), (25, (51, 105, 6, 1, 0, [])), (28, (54, 0, 0, 0, 0, []))]
set_option maxRecDepth 20000 in
theorem ceX6_wet {l : Launch} {X : Nat × (Nat → Int32)} {d : Nat} : tbX6_wet l X d = ctb l X d U0 cdX6_wet := cec (cp18) <| cec (cp1) <| cec (cp0 io_1_1) <| cec (cp0 io_30_60) <| cec (cp51 u0_116) <| cec (cp14_1) <| cec (cp0 io_6_m1) <| cec (cp54) <| cec (cp18) <| cec (cp1) <| cec (cp51 u0_123) <| cec (cp18) <| cec (cp18) <| cec (cp37) <| cec (cp1) <| cec (cp42) <| cec (cp51 u0_105) <| cec (cp54) <| cen
noncomputable def cdX6_wetDays : List (Nat × Cd) := [(0, (18, 1, 0, 0, 0, [])), (1, (1, 1, 1, 0, 0, [])), (2, (51, 111, 6, 1, 0, [])), (5, (14, 14, 1, 0, 0, [])), (8, (18, 1, 0, 0, 0, [])), (9, (0, 1, 0, 0, 1, [])), (10, (51, 106, 6, 1, 0, [])), (13, (54, 0, 0, 0, 0, [])), (14, (1, 1, 2, 0, 0, [])), (15, (0, 1, 0, 0, 0, [])), (16, (0, 2, 0, 0, 60, [])), (18, (52, 107, 0, 3, 0, [])), (21, (14, 30, 1, 0, 0, [])), (24, (18, 1, 0, 0, 0, [])), (25, (0, 1, 0, 0, 2, [])), (26, (51, 106, 6, 1, 0, [])), (29, (54, 0, 0, 0, 0, [])), (30, (18, 1, 0, 0, 0, [])), (31, (18, 1, 0, 0, 0, [])), (32, (1, 1, 1, 0, 0, [])), (33, (1, 1, 2, 0, 0, [])), (34, (51, 124, 6, 2, 0, [])), (37, (51, 105, 6, 1, 0, [])), (40, (54, 0, 0, 0, 0, []))]
set_option maxRecDepth 20000 in
theorem ceX6_wetDays {l : Launch} {X : Nat × (Nat → Int32)} {d : Nat} : tbX6_wetDays l X d = ctb l X d U0 cdX6_wetDays := cec (cp18) <| cec (cp1) <| cec (cp51 u0_111) <| cec (cp14_1) <| cec (cp18) <| cec (cp0 io_1_1) <| cec (cp51 u0_106) <| cec (cp54) <| cec (cp1) <| cec (cp0 io_0_0) <| cec (cp0 io_30_60) <| cec (cp52 u0_107) <| cec (cp14_1) <| cec (cp18) <| cec (cp0 io_2_2) <| cec (cp51 u0_106) <| cec (cp54) <| cec (cp18) <| cec (cp18) <| cec (cp1) <| cec (cp1) <| cec (cp51 u0_124) <| cec (cp51 u0_105) <| cec (cp54) <| cen
noncomputable def cdX6_wettest : List (Nat × Cd) := [(0, (18, 1, 0, 0, 0, [])), (1, (51, 108, 6, 0, 0, [])), (4, (14, 13, 1, 0, 0, [])), (7, (18, 1, 0, 0, 0, [])), (8, (0, 1, 0, 0, 1, [])), (9, (51, 106, 6, 1, 0, [])), (12, (54, 0, 0, 0, 0, [])), (13, (0, 1, 0, 0, 0, [])), (14, (2, 1, 1, 0, 0, [])), (15, (18, 1, 0, 0, 0, [])), (16, (0, 1, 0, 0, 0, [])), (17, (0, 2, 0, 0, 60, [])), (19, (51, 124, 6, 2, 0, [])), (22, (2, 1, 2, 0, 0, [])), (23, (0, 1, 0, 0, 1, [])), (24, (2, 1, 3, 0, 0, [])), (25, (1, 1, 3, 0, 0, [])), (26, (18, 1, 0, 0, 0, [])), (27, (37, 6, 1, 2, 0, [])), (30, (51, 13, 3, 0, 0, [])), (33, (15, 62, 3, 0, 0, [])), (36, (18, 1, 0, 0, 0, [])), (37, (1, 1, 3, 0, 0, [])), (38, (0, 2, 0, 0, 60, [])), (40, (51, 124, 6, 2, 0, [])), (43, (2, 2, 4, 0, 0, [])), (45, (1, 2, 4, 0, 0, [])), (47, (1, 1, 2, 0, 0, [])), (48, (15, 56, 5, 0, 0, [])), (51, (1, 2, 4, 0, 0, [])), (53, (2, 1, 2, 0, 0, [])), (54, (1, 1, 3, 0, 0, [])), (55, (2, 1, 1, 0, 0, [])), (56, (3, 3, 0, 0, 1, [])), (59, (13, 25, 0, 0, 0, [])), (62, (18, 1, 0, 0, 0, [])), (63, (1, 1, 1, 0, 0, [])), (64, (51, 105, 6, 1, 0, [])), (67, (54, 0, 0, 0, 0, []))]
set_option maxRecDepth 20000 in
theorem ceX6_wettest {l : Launch} {X : Nat × (Nat → Int32)} {d : Nat} : tbX6_wettest l X d = ctb l X d U0 cdX6_wettest := cec (cp18) <| cec (cp51 u0_108) <| cec (cp14_1) <| cec (cp18) <| cec (cp0 io_1_1) <| cec (cp51 u0_106) <| cec (cp54) <| cec (cp0 io_0_0) <| cec (cp2) <| cec (cp18) <| cec (cp0 io_0_0) <| cec (cp0 io_30_60) <| cec (cp51 u0_124) <| cec (cp2) <| cec (cp0 io_1_1) <| cec (cp2) <| cec (cp1) <| cec (cp18) <| cec (cp37) <| cec (cp51 u0_13) <| cec (cp15_3) <| cec (cp18) <| cec (cp1) <| cec (cp0 io_30_60) <| cec (cp51 u0_124) <| cec (cp2) <| cec (cp1) <| cec (cp1) <| cec (cp15_5) <| cec (cp1) <| cec (cp2) <| cec (cp1) <| cec (cp2) <| cec (cp3 io_1_1) <| cec (cp13) <| cec (cp18) <| cec (cp1) <| cec (cp51 u0_105) <| cec (cp54) <| cen
noncomputable def cdX6_sunny : List (Nat × Cd) := [(0, (18, 1, 0, 0, 0, [])), (1, (51, 108, 6, 0, 0, [])), (4, (14, 13, 1, 0, 0, [])), (7, (18, 1, 0, 0, 0, [])), (8, (0, 1, 0, 0, 1, [])), (9, (51, 106, 6, 1, 0, [])), (12, (54, 0, 0, 0, 0, [])), (13, (18, 1, 0, 0, 0, [])), (14, (0, 2, 0, 0, 60, [])), (16, (51, 123, 6, 1, 0, [])), (19, (0, 1, 0, 0, 1, [])), (20, (2, 1, 1, 0, 0, [])), (21, (1, 1, 1, 0, 0, [])), (22, (0, 2, 0, 0, 60, [])), (24, (15, 48, 4, 0, 0, [])), (27, (18, 1, 0, 0, 0, [])), (28, (37, 6, 12, 2, 0, [])), (31, (1, 1, 1, 0, 0, [])), (32, (42, 0, 0, 0, 0, [])), (33, (14, 42, 1, 0, 0, [])), (36, (18, 1, 0, 0, 0, [])), (37, (1, 1, 1, 0, 0, [])), (38, (51, 105, 6, 1, 0, [])), (41, (54, 0, 0, 0, 0, [])), (42, (3, 1, 0, 0, 1, [])), (45, (13, 21, 0, 0, 0, [])), (48, (18, 1, 0, 0, 0, [])), (49, (0, 2, 0, 0, (-2), [])), (51, (51, 105, 6, 1, 0, [])), (54, (54, 0, 0, 0, 0, []))]
set_option maxRecDepth 20000 in
theorem ceX6_sunny {l : Launch} {X : Nat × (Nat → Int32)} {d : Nat} : tbX6_sunny l X d = ctb l X d U0 cdX6_sunny := cec (cp18) <| cec (cp51 u0_108) <| cec (cp14_1) <| cec (cp18) <| cec (cp0 io_1_1) <| cec (cp51 u0_106) <| cec (cp54) <| cec (cp18) <| cec (cp0 io_30_60) <| cec (cp51 u0_123) <| cec (cp0 io_1_1) <| cec (cp2) <| cec (cp1) <| cec (cp0 io_30_60) <| cec (cp15_4) <| cec (cp18) <| cec (cp37) <| cec (cp1) <| cec (cp42) <| cec (cp14_1) <| cec (cp18) <| cec (cp1) <| cec (cp51 u0_105) <| cec (cp54) <| cec (cp3 io_1_1) <| cec (cp13) <| cec (cp18) <| cec (cp0 io_3_m2) <| cec (cp51 u0_105) <| cec (cp54) <| cen
noncomputable def cdX6_heaviest : List (Nat × Cd) := [(0, (18, 1, 0, 0, 0, [])), (1, (51, 108, 6, 0, 0, [])), (4, (14, 13, 1, 0, 0, [])), (7, (18, 1, 0, 0, 0, [])), (8, (0, 1, 0, 0, 1, [])), (9, (51, 106, 6, 1, 0, [])), (12, (54, 0, 0, 0, 0, [])), (13, (0, 1, 0, 0, 0, [])), (14, (2, 1, 1, 0, 0, [])), (15, (0, 1, 0, 0, 0, [])), (16, (2, 1, 2, 0, 0, [])), (17, (1, 1, 2, 0, 0, [])), (18, (18, 1, 0, 0, 0, [])), (19, (37, 6, 1, 2, 0, [])), (22, (37, 3, 4, 0, 0, [])), (25, (15, 79, 3, 0, 0, [])), (28, (18, 1, 0, 0, 0, [])), (29, (1, 1, 2, 0, 0, [])), (30, (18, 1, 0, 0, 0, [])), (31, (1, 1, 2, 0, 0, [])), (32, (51, 114, 6, 1, 0, [])), (35, (51, 121, 6, 2, 0, [])), (38, (0, 1, 0, 0, 1, [])), (39, (2, 1, 3, 0, 0, [])), (40, (1, 1, 3, 0, 0, [])), (41, (0, 2, 0, 0, 60, [])), (43, (15, 73, 4, 0, 0, [])), (46, (18, 1, 0, 0, 0, [])), (47, (37, 6, 9, 2, 0, [])), (50, (0, 1, 0, 0, 0, [])), (51, (51, 1, 0, 1, 0, [])), (54, (36, 0, 0, 0, 0, [])), (55, (1, 1, 1, 0, 0, [])), (56, (18, 1, 0, 0, 0, [])), (57, (37, 6, 9, 2, 0, [])), (60, (37, 0, 6, 0, 0, [])), (63, (52, 277, 0, 2, 0, [])), (66, (2, 1, 1, 0, 0, [])), (67, (3, 3, 0, 0, 1, [])), (70, (13, 40, 0, 0, 0, [])), (73, (3, 2, 0, 0, 1, [])), (76, (13, 17, 0, 0, 0, [])), (79, (18, 1, 0, 0, 0, [])), (80, (1, 1, 1, 0, 0, [])), (81, (51, 105, 6, 1, 0, [])), (84, (54, 0, 0, 0, 0, []))]
set_option maxRecDepth 20000 in
theorem ceX6_heaviest {l : Launch} {X : Nat × (Nat → Int32)} {d : Nat} : tbX6_heaviest l X d = ctb l X d U0 cdX6_heaviest := cec (cp18) <| cec (cp51 u0_108) <| cec (cp14_1) <| cec (cp18) <| cec (cp0 io_1_1) <| cec (cp51 u0_106) <| cec (cp54) <| cec (cp0 io_0_0) <| cec (cp2) <| cec (cp0 io_0_0) <| cec (cp2) <| cec (cp1) <| cec (cp18) <| cec (cp37) <| cec (cp37) <| cec (cp15_3) <| cec (cp18) <| cec (cp1) <| cec (cp18) <| cec (cp1) <| cec (cp51 u0_114) <| cec (cp51 u0_121) <| cec (cp0 io_1_1) <| cec (cp2) <| cec (cp1) <| cec (cp0 io_30_60) <| cec (cp15_4) <| cec (cp18) <| cec (cp37) <| cec (cp0 io_0_0) <| cec (cp51 u0_1) <| cec (cp36) <| cec (cp1) <| cec (cp18) <| cec (cp37) <| cec (cp37) <| cec (cp52 u0_277) <| cec (cp2) <| cec (cp3 io_1_1) <| cec (cp13) <| cec (cp3 io_1_1) <| cec (cp13) <| cec (cp18) <| cec (cp1) <| cec (cp51 u0_105) <| cec (cp54) <| cen
noncomputable def cdX6_fallen : List (Nat × Cd) := [(0, (18, 1, 0, 0, 0, [])), (1, (1, 1, 1, 0, 0, [])), (2, (0, 1, 0, 0, 0, [])), (3, (0, 2, 0, 0, 60, [])), (5, (51, 116, 6, 3, 0, [])), (8, (14, 13, 1, 0, 0, [])), (11, (0, 1, 0, 0, (-1), [])), (12, (54, 0, 0, 0, 0, [])), (13, (0, 1, 0, 0, 0, [])), (14, (2, 1, 2, 0, 0, [])), (15, (0, 1, 0, 0, 0, [])), (16, (2, 1, 3, 0, 0, [])), (17, (1, 1, 3, 0, 0, [])), (18, (18, 1, 0, 0, 0, [])), (19, (37, 6, 1, 2, 0, [])), (22, (37, 3, 4, 0, 0, [])), (25, (15, 56, 3, 0, 0, [])), (28, (18, 1, 0, 0, 0, [])), (29, (1, 1, 3, 0, 0, [])), (30, (1, 1, 1, 0, 0, [])), (31, (51, 122, 6, 2, 0, [])), (34, (18, 1, 0, 0, 0, [])), (35, (37, 6, 9, 2, 0, [])), (38, (37, 0, 5, 0, 0, [])), (41, (14, 50, 1, 0, 0, [])), (44, (1, 1, 2, 0, 0, [])), (45, (0, 1, 0, 0, 1, [])), (46, (1, 1, 3, 0, 0, [])), (47, (10, 0, 0, 0, 0, [])), (48, (8, 0, 0, 0, 0, [])), (49, (2, 1, 2, 0, 0, [])), (50, (3, 3, 0, 0, 1, [])), (53, (13, 17, 0, 0, 0, [])), (56, (18, 1, 0, 0, 0, [])), (57, (1, 1, 2, 0, 0, [])), (58, (51, 105, 6, 1, 0, [])), (61, (54, 0, 0, 0, 0, []))]
set_option maxRecDepth 20000 in
theorem ceX6_fallen {l : Launch} {X : Nat × (Nat → Int32)} {d : Nat} : tbX6_fallen l X d = ctb l X d U0 cdX6_fallen := cec (cp18) <| cec (cp1) <| cec (cp0 io_0_0) <| cec (cp0 io_30_60) <| cec (cp51 u0_116) <| cec (cp14_1) <| cec (cp0 io_6_m1) <| cec (cp54) <| cec (cp0 io_0_0) <| cec (cp2) <| cec (cp0 io_0_0) <| cec (cp2) <| cec (cp1) <| cec (cp18) <| cec (cp37) <| cec (cp37) <| cec (cp15_3) <| cec (cp18) <| cec (cp1) <| cec (cp1) <| cec (cp51 u0_122) <| cec (cp18) <| cec (cp37) <| cec (cp37) <| cec (cp14_1) <| cec (cp1) <| cec (cp0 io_1_1) <| cec (cp1) <| cec (cp10) <| cec (cp8) <| cec (cp2) <| cec (cp3 io_1_1) <| cec (cp13) <| cec (cp18) <| cec (cp1) <| cec (cp51 u0_105) <| cec (cp54) <| cen
noncomputable def cdX6_dropsIf : List (Nat × Cd) := [(0, (18, 1, 0, 0, 0, [])), (1, (1, 1, 1, 0, 0, [])), (2, (51, 110, 6, 1, 0, [])), (5, (14, 16, 0, 0, 0, [])), (8, (18, 1, 0, 0, 0, [])), (9, (1, 1, 2, 0, 0, [])), (10, (51, 109, 6, 1, 0, [])), (13, (14, 22, 1, 0, 0, [])), (16, (18, 1, 0, 0, 0, [])), (17, (0, 1, 0, 0, 1, [])), (18, (51, 106, 6, 1, 0, [])), (21, (54, 0, 0, 0, 0, [])), (22, (1, 1, 3, 0, 0, [])), (23, (0, 1, 0, 0, 1, [])), (24, (0, 2, 0, 0, 30, [])), (26, (52, 107, 0, 3, 0, [])), (29, (14, 38, 1, 0, 0, [])), (32, (18, 1, 0, 0, 0, [])), (33, (0, 1, 0, 0, 2, [])), (34, (51, 106, 6, 1, 0, [])), (37, (54, 0, 0, 0, 0, [])), (38, (18, 1, 0, 0, 0, [])), (39, (1, 1, 1, 0, 0, [])), (40, (1, 1, 2, 0, 0, [])), (41, (51, 128, 6, 2, 0, [])), (44, (14, 53, 1, 0, 0, [])), (47, (18, 1, 0, 0, 0, [])), (48, (0, 1, 0, 0, 5, [])), (49, (51, 106, 6, 1, 0, [])), (52, (54, 0, 0, 0, 0, [])), (53, (18, 1, 0, 0, 0, [])), (54, (18, 1, 0, 0, 0, [])), (55, (1, 1, 1, 0, 0, [])), (56, (1, 1, 2, 0, 0, [])), (57, (1, 1, 3, 0, 0, [])), (58, (51, 130, 6, 3, 0, [])), (61, (0, 3, 0, 0, 1024, [])), (64, (22, 0, 0, 0, 0, [])), (65, (51, 105, 6, 1, 0, [])), (68, (54, 0, 0, 0, 0, []))]
set_option maxRecDepth 20000 in
theorem ceX6_dropsIf {l : Launch} {X : Nat × (Nat → Int32)} {d : Nat} : tbX6_dropsIf l X d = ctb l X d U0 cdX6_dropsIf := cec (cp18) <| cec (cp1) <| cec (cp51 u0_110) <| cec (cp14_0) <| cec (cp18) <| cec (cp1) <| cec (cp51 u0_109) <| cec (cp14_1) <| cec (cp18) <| cec (cp0 io_1_1) <| cec (cp51 u0_106) <| cec (cp54) <| cec (cp1) <| cec (cp0 io_1_1) <| cec (cp0 io_25_30) <| cec (cp52 u0_107) <| cec (cp14_1) <| cec (cp18) <| cec (cp0 io_2_2) <| cec (cp51 u0_106) <| cec (cp54) <| cec (cp18) <| cec (cp1) <| cec (cp1) <| cec (cp51 u0_128) <| cec (cp14_1) <| cec (cp18) <| cec (cp0 io_5_5) <| cec (cp51 u0_106) <| cec (cp54) <| cec (cp18) <| cec (cp18) <| cec (cp1) <| cec (cp1) <| cec (cp1) <| cec (cp51 u0_130) <| cec (cp0 io_31_1024) <| cec (cp22) <| cec (cp51 u0_105) <| cec (cp54) <| cen
noncomputable def cdX6_faceFor : List (Nat × Cd) := [(0, (18, 1, 0, 0, 0, [])), (1, (1, 1, 1, 0, 0, [])), (2, (51, 110, 6, 1, 0, [])), (5, (14, 14, 1, 0, 0, [])), (8, (18, 1, 0, 0, 0, [])), (9, (0, 1, 0, 0, 1, [])), (10, (51, 106, 6, 1, 0, [])), (13, (54, 0, 0, 0, 0, [])), (14, (1, 1, 2, 0, 0, [])), (15, (0, 1, 0, 0, 1, [])), (16, (0, 2, 0, 0, 30, [])), (18, (52, 107, 0, 3, 0, [])), (21, (14, 30, 1, 0, 0, [])), (24, (18, 1, 0, 0, 0, [])), (25, (0, 1, 0, 0, 2, [])), (26, (51, 106, 6, 1, 0, [])), (29, (54, 0, 0, 0, 0, [])), (30, (0, 2, 0, 0, (-2), [])), (32, (2, 1, 3, 0, 0, [])), (33, (0, 1, 0, 0, 0, [])), (34, (2, 2, 4, 0, 0, [])), (36, (0, 1, 0, 0, 0, [])), (37, (2, 2, 5, 0, 0, [])), (39, (1, 2, 5, 0, 0, [])), (41, (18, 1, 0, 0, 0, [])), (42, (37, 6, 1, 2, 0, [])), (45, (37, 3, 4, 0, 0, [])), (48, (15, 100, 3, 0, 0, [])), (51, (18, 1, 0, 0, 0, [])), (52, (1, 1, 1, 0, 0, [])), (53, (1, 2, 5, 0, 0, [])), (55, (51, 128, 6, 2, 0, [])), (58, (14, 64, 1, 0, 0, [])), (61, (13, 94, 0, 0, 0, [])), (64, (18, 1, 0, 0, 0, [])), (65, (1, 1, 1, 0, 0, [])), (66, (1, 2, 5, 0, 0, [])), (68, (1, 1, 2, 0, 0, [])), (69, (51, 130, 6, 3, 0, [])), (72, (2, 2, 6, 0, 0, [])), (74, (1, 1, 3, 0, 0, [])), (75, (0, 2, 0, 0, (-2), [])), (77, (15, 87, 0, 0, 0, [])), (80, (1, 2, 6, 0, 0, [])), (82, (1, 2, 4, 0, 0, [])), (84, (15, 94, 3, 0, 0, [])), (87, (1, 2, 6, 0, 0, [])), (89, (2, 2, 4, 0, 0, [])), (91, (1, 2, 5, 0, 0, [])), (93, (2, 1, 3, 0, 0, [])), (94, (3, 5, 0, 0, 1, [])), (97, (13, 39, 0, 0, 0, [])), (100, (18, 1, 0, 0, 0, [])), (101, (1, 1, 3, 0, 0, [])), (102, (51, 105, 6, 1, 0, [])), (105, (54, 0, 0, 0, 0, []))]
set_option maxRecDepth 20000 in
theorem ceX6_faceFor {l : Launch} {X : Nat × (Nat → Int32)} {d : Nat} : tbX6_faceFor l X d = ctb l X d U0 cdX6_faceFor := cec (cp18) <| cec (cp1) <| cec (cp51 u0_110) <| cec (cp14_1) <| cec (cp18) <| cec (cp0 io_1_1) <| cec (cp51 u0_106) <| cec (cp54) <| cec (cp1) <| cec (cp0 io_1_1) <| cec (cp0 io_25_30) <| cec (cp52 u0_107) <| cec (cp14_1) <| cec (cp18) <| cec (cp0 io_2_2) <| cec (cp51 u0_106) <| cec (cp54) <| cec (cp0 io_3_m2) <| cec (cp2) <| cec (cp0 io_0_0) <| cec (cp2) <| cec (cp0 io_0_0) <| cec (cp2) <| cec (cp1) <| cec (cp18) <| cec (cp37) <| cec (cp37) <| cec (cp15_3) <| cec (cp18) <| cec (cp1) <| cec (cp1) <| cec (cp51 u0_128) <| cec (cp14_1) <| cec (cp13) <| cec (cp18) <| cec (cp1) <| cec (cp1) <| cec (cp1) <| cec (cp51 u0_130) <| cec (cp2) <| cec (cp1) <| cec (cp0 io_3_m2) <| cec (cp15_0) <| cec (cp1) <| cec (cp1) <| cec (cp15_3) <| cec (cp1) <| cec (cp2) <| cec (cp1) <| cec (cp2) <| cec (cp3 io_1_1) <| cec (cp13) <| cec (cp18) <| cec (cp1) <| cec (cp51 u0_105) <| cec (cp54) <| cen
noncomputable def cdX6_match : List (Nat × Cd) := [(0, (18, 1, 0, 0, 0, [])), (1, (1, 1, 1, 0, 0, [])), (2, (0, 1, 0, 0, 1, [])), (3, (0, 2, 0, 0, 30, [])), (5, (51, 116, 6, 3, 0, [])), (8, (14, 13, 1, 0, 0, [])), (11, (0, 1, 0, 0, (-1), [])), (12, (54, 0, 0, 0, 0, [])), (13, (18, 1, 0, 0, 0, [])), (14, (51, 131, 6, 0, 0, [])), (17, (14, 27, 0, 0, 0, [])), (20, (18, 1, 0, 0, 0, [])), (21, (0, 2, 0, 0, (-2), [])), (23, (51, 105, 6, 1, 0, [])), (26, (54, 0, 0, 0, 0, [])), (27, (18, 1, 0, 0, 0, [])), (28, (1, 1, 1, 0, 0, [])), (29, (51, 132, 6, 1, 0, [])), (32, (18, 1, 0, 0, 0, [])), (33, (18, 1, 0, 0, 0, [])), (34, (37, 6, 11, 2, 0, [])), (37, (37, 1, 8, 0, 0, [])), (40, (0, 3, 0, 0, 1024, [])), (43, (21, 0, 0, 0, 0, [])), (44, (51, 105, 6, 1, 0, [])), (47, (54, 0, 0, 0, 0, []))]
set_option maxRecDepth 20000 in
theorem ceX6_match {l : Launch} {X : Nat × (Nat → Int32)} {d : Nat} : tbX6_match l X d = ctb l X d U0 cdX6_match := cec (cp18) <| cec (cp1) <| cec (cp0 io_1_1) <| cec (cp0 io_25_30) <| cec (cp51 u0_116) <| cec (cp14_1) <| cec (cp0 io_6_m1) <| cec (cp54) <| cec (cp18) <| cec (cp51 u0_131) <| cec (cp14_0) <| cec (cp18) <| cec (cp0 io_3_m2) <| cec (cp51 u0_105) <| cec (cp54) <| cec (cp18) <| cec (cp1) <| cec (cp51 u0_132) <| cec (cp18) <| cec (cp18) <| cec (cp37) <| cec (cp37) <| cec (cp0 io_31_1024) <| cec (cp21) <| cec (cp51 u0_105) <| cec (cp54) <| cen
noncomputable def cdX6_matchDrops : List (Nat × Cd) := [(0, (18, 1, 0, 0, 0, [])), (1, (1, 1, 1, 0, 0, [])), (2, (0, 1, 0, 0, 1, [])), (3, (0, 2, 0, 0, 30, [])), (5, (51, 116, 6, 3, 0, [])), (8, (14, 13, 1, 0, 0, [])), (11, (0, 1, 0, 0, (-1), [])), (12, (54, 0, 0, 0, 0, [])), (13, (18, 1, 0, 0, 0, [])), (14, (51, 131, 6, 0, 0, [])), (17, (14, 27, 0, 0, 0, [])), (20, (18, 1, 0, 0, 0, [])), (21, (0, 2, 0, 0, (-2), [])), (23, (51, 105, 6, 1, 0, [])), (26, (54, 0, 0, 0, 0, [])), (27, (18, 1, 0, 0, 0, [])), (28, (1, 1, 1, 0, 0, [])), (29, (51, 132, 6, 1, 0, [])), (32, (18, 1, 0, 0, 0, [])), (33, (18, 1, 0, 0, 0, [])), (34, (37, 6, 11, 2, 0, [])), (37, (37, 1, 8, 0, 0, [])), (40, (0, 3, 0, 0, 1024, [])), (43, (22, 0, 0, 0, 0, [])), (44, (51, 105, 6, 1, 0, [])), (47, (54, 0, 0, 0, 0, []))]
set_option maxRecDepth 20000 in
theorem ceX6_matchDrops {l : Launch} {X : Nat × (Nat → Int32)} {d : Nat} : tbX6_matchDrops l X d = ctb l X d U0 cdX6_matchDrops := cec (cp18) <| cec (cp1) <| cec (cp0 io_1_1) <| cec (cp0 io_25_30) <| cec (cp51 u0_116) <| cec (cp14_1) <| cec (cp0 io_6_m1) <| cec (cp54) <| cec (cp18) <| cec (cp51 u0_131) <| cec (cp14_0) <| cec (cp18) <| cec (cp0 io_3_m2) <| cec (cp51 u0_105) <| cec (cp54) <| cec (cp18) <| cec (cp1) <| cec (cp51 u0_132) <| cec (cp18) <| cec (cp18) <| cec (cp37) <| cec (cp37) <| cec (cp0 io_31_1024) <| cec (cp22) <| cec (cp51 u0_105) <| cec (cp54) <| cen
noncomputable def cdX6_matchAt : List (Nat × Cd) := [(0, (18, 1, 0, 0, 0, [])), (1, (1, 1, 1, 0, 0, [])), (2, (51, 110, 6, 1, 0, [])), (5, (14, 15, 0, 0, 0, [])), (8, (18, 1, 0, 0, 0, [])), (9, (51, 131, 6, 0, 0, [])), (12, (14, 21, 0, 0, 0, [])), (15, (18, 1, 0, 0, 0, [])), (16, (0, 1, 0, 0, 1, [])), (17, (51, 106, 6, 1, 0, [])), (20, (54, 0, 0, 0, 0, [])), (21, (1, 1, 2, 0, 0, [])), (22, (0, 1, 0, 0, 1, [])), (23, (0, 2, 0, 0, 30, [])), (25, (52, 107, 0, 3, 0, [])), (28, (14, 37, 1, 0, 0, [])), (31, (18, 1, 0, 0, 0, [])), (32, (0, 1, 0, 0, 2, [])), (33, (51, 106, 6, 1, 0, [])), (36, (54, 0, 0, 0, 0, [])), (37, (18, 1, 0, 0, 0, [])), (38, (1, 1, 2, 0, 0, [])), (39, (51, 132, 6, 1, 0, [])), (42, (18, 1, 0, 0, 0, [])), (43, (18, 1, 0, 0, 0, [])), (44, (37, 6, 11, 2, 0, [])), (47, (37, 1, 3, 2, 0, [])), (50, (1, 1, 1, 0, 0, [])), (51, (42, 0, 0, 0, 0, [])), (52, (51, 105, 6, 1, 0, [])), (55, (54, 0, 0, 0, 0, []))]
set_option maxRecDepth 20000 in
theorem ceX6_matchAt {l : Launch} {X : Nat × (Nat → Int32)} {d : Nat} : tbX6_matchAt l X d = ctb l X d U0 cdX6_matchAt := cec (cp18) <| cec (cp1) <| cec (cp51 u0_110) <| cec (cp14_0) <| cec (cp18) <| cec (cp51 u0_131) <| cec (cp14_0) <| cec (cp18) <| cec (cp0 io_1_1) <| cec (cp51 u0_106) <| cec (cp54) <| cec (cp1) <| cec (cp0 io_1_1) <| cec (cp0 io_25_30) <| cec (cp52 u0_107) <| cec (cp14_1) <| cec (cp18) <| cec (cp0 io_2_2) <| cec (cp51 u0_106) <| cec (cp54) <| cec (cp18) <| cec (cp1) <| cec (cp51 u0_132) <| cec (cp18) <| cec (cp18) <| cec (cp37) <| cec (cp37) <| cec (cp1) <| cec (cp42) <| cec (cp51 u0_105) <| cec (cp54) <| cen
noncomputable def cdX6_steps : List (Nat × Cd) := [(0, (18, 1, 0, 0, 0, [])), (1, (1, 1, 1, 0, 0, [])), (2, (51, 111, 6, 1, 0, [])), (5, (14, 16, 0, 0, 0, [])), (8, (18, 1, 0, 0, 0, [])), (9, (1, 1, 2, 0, 0, [])), (10, (51, 111, 6, 1, 0, [])), (13, (14, 22, 1, 0, 0, [])), (16, (18, 1, 0, 0, 0, [])), (17, (0, 1, 0, 0, 1, [])), (18, (51, 106, 6, 1, 0, [])), (21, (54, 0, 0, 0, 0, [])), (22, (18, 1, 0, 0, 0, [])), (23, (18, 1, 0, 0, 0, [])), (24, (37, 6, 10, 2, 0, [])), (27, (18, 1, 0, 0, 0, [])), (28, (37, 6, 1, 2, 0, [])), (31, (18, 1, 0, 0, 0, [])), (32, (37, 6, 1, 2, 0, [])), (35, (51, 16, 3, 0, 0, [])), (38, (1, 1, 1, 0, 0, [])), (39, (1, 1, 2, 0, 0, [])), (40, (51, 45, 5, 4, 0, [])), (43, (51, 105, 6, 1, 0, [])), (46, (54, 0, 0, 0, 0, []))]
set_option maxRecDepth 20000 in
theorem ceX6_steps {l : Launch} {X : Nat × (Nat → Int32)} {d : Nat} : tbX6_steps l X d = ctb l X d U0 cdX6_steps := cec (cp18) <| cec (cp1) <| cec (cp51 u0_111) <| cec (cp14_0) <| cec (cp18) <| cec (cp1) <| cec (cp51 u0_111) <| cec (cp14_1) <| cec (cp18) <| cec (cp0 io_1_1) <| cec (cp51 u0_106) <| cec (cp54) <| cec (cp18) <| cec (cp18) <| cec (cp37) <| cec (cp18) <| cec (cp37) <| cec (cp18) <| cec (cp37) <| cec (cp51 u0_16) <| cec (cp1) <| cec (cp1) <| cec (cp51 u0_45) <| cec (cp51 u0_105) <| cec (cp54) <| cen
noncomputable def cdX6_wets : List (Nat × Cd) := [(0, (18, 1, 0, 0, 0, [])), (1, (1, 1, 1, 0, 0, [])), (2, (1, 1, 2, 0, 0, [])), (3, (51, 117, 6, 2, 0, [])), (6, (14, 11, 1, 0, 0, [])), (9, (0, 1, 0, 0, (-1), [])), (10, (54, 0, 0, 0, 0, [])), (11, (18, 1, 0, 0, 0, [])), (12, (1, 1, 1, 0, 0, [])), (13, (1, 1, 2, 0, 0, [])), (14, (51, 133, 6, 2, 0, [])), (17, (2, 1, 3, 0, 0, [])), (18, (18, 1, 0, 0, 0, [])), (19, (1, 1, 3, 0, 0, [])), (20, (0, 2, 0, 0, 1048576, [])), (22, (15, 30, 2, 0, 0, [])), (25, (0, 2, 0, 0, (-2), [])), (27, (13, 34, 0, 0, 0, [])), (30, (1, 1, 3, 0, 0, [])), (31, (0, 2, 0, 0, 32, [])), (33, (21, 0, 0, 0, 0, [])), (34, (51, 105, 6, 1, 0, [])), (37, (54, 0, 0, 0, 0, []))]
set_option maxRecDepth 20000 in
theorem ceX6_wets {l : Launch} {X : Nat × (Nat → Int32)} {d : Nat} : tbX6_wets l X d = ctb l X d U0 cdX6_wets := cec (cp18) <| cec (cp1) <| cec (cp1) <| cec (cp51 u0_117) <| cec (cp14_1) <| cec (cp0 io_6_m1) <| cec (cp54) <| cec (cp18) <| cec (cp1) <| cec (cp1) <| cec (cp51 u0_133) <| cec (cp2) <| cec (cp18) <| cec (cp1) <| cec (cp0 io_29_1048576) <| cec (cp15_2) <| cec (cp0 io_3_m2) <| cec (cp13) <| cec (cp1) <| cec (cp0 io_12_32) <| cec (cp21) <| cec (cp51 u0_105) <| cec (cp54) <| cen
noncomputable def cdX6_way : List (Nat × Cd) := [(0, (18, 1, 0, 0, 0, [])), (1, (1, 1, 1, 0, 0, [])), (2, (1, 1, 2, 0, 0, [])), (3, (51, 117, 6, 2, 0, [])), (6, (14, 11, 1, 0, 0, [])), (9, (0, 1, 0, 0, (-1), [])), (10, (54, 0, 0, 0, 0, [])), (11, (18, 1, 0, 0, 0, [])), (12, (1, 1, 1, 0, 0, [])), (13, (1, 1, 2, 0, 0, [])), (14, (51, 133, 6, 2, 0, [])), (17, (2, 1, 3, 0, 0, [])), (18, (18, 1, 0, 0, 0, [])), (19, (1, 1, 3, 0, 0, [])), (20, (0, 2, 0, 0, 1048576, [])), (22, (15, 30, 2, 0, 0, [])), (25, (0, 2, 0, 0, (-2), [])), (27, (13, 34, 0, 0, 0, [])), (30, (1, 1, 3, 0, 0, [])), (31, (0, 2, 0, 0, 32, [])), (33, (22, 0, 0, 0, 0, [])), (34, (51, 105, 6, 1, 0, [])), (37, (54, 0, 0, 0, 0, []))]
set_option maxRecDepth 20000 in
theorem ceX6_way {l : Launch} {X : Nat × (Nat → Int32)} {d : Nat} : tbX6_way l X d = ctb l X d U0 cdX6_way := cec (cp18) <| cec (cp1) <| cec (cp1) <| cec (cp51 u0_117) <| cec (cp14_1) <| cec (cp0 io_6_m1) <| cec (cp54) <| cec (cp18) <| cec (cp1) <| cec (cp1) <| cec (cp51 u0_133) <| cec (cp2) <| cec (cp18) <| cec (cp1) <| cec (cp0 io_29_1048576) <| cec (cp15_2) <| cec (cp0 io_3_m2) <| cec (cp13) <| cec (cp1) <| cec (cp0 io_12_32) <| cec (cp22) <| cec (cp51 u0_105) <| cec (cp54) <| cen
noncomputable def cdX6_wayAt : List (Nat × Cd) := [(0, (18, 1, 0, 0, 0, [])), (1, (1, 1, 1, 0, 0, [])), (2, (1, 1, 2, 0, 0, [])), (3, (51, 117, 6, 2, 0, [])), (6, (14, 11, 1, 0, 0, [])), (9, (0, 1, 0, 0, (-1), [])), (10, (54, 0, 0, 0, 0, [])), (11, (18, 1, 0, 0, 0, [])), (12, (1, 1, 1, 0, 0, [])), (13, (1, 1, 2, 0, 0, [])), (14, (51, 133, 6, 2, 0, [])), (17, (2, 2, 4, 0, 0, [])), (19, (1, 2, 4, 0, 0, [])), (21, (0, 2, 0, 0, 1048576, [])), (23, (15, 39, 3, 0, 0, [])), (26, (1, 1, 3, 0, 0, [])), (27, (14, 39, 2, 0, 0, [])), (30, (1, 1, 3, 0, 0, [])), (31, (1, 2, 4, 0, 0, [])), (33, (0, 2, 0, 0, 32, [])), (35, (22, 0, 0, 0, 0, [])), (36, (15, 45, 2, 0, 0, [])), (39, (18, 1, 0, 0, 0, [])), (40, (0, 1, 0, 0, 1, [])), (41, (51, 106, 6, 1, 0, [])), (44, (54, 0, 0, 0, 0, [])), (45, (18, 1, 0, 0, 0, [])), (46, (18, 1, 0, 0, 0, [])), (47, (37, 6, 10, 2, 0, [])), (50, (18, 1, 0, 0, 0, [])), (51, (37, 6, 1, 2, 0, [])), (54, (18, 1, 0, 0, 0, [])), (55, (37, 6, 1, 2, 0, [])), (58, (37, 3, 15, 2, 0, [])), (61, (1, 1, 1, 0, 0, [])), (62, (42, 0, 0, 0, 0, [])), (63, (1, 1, 3, 0, 0, [])), (64, (51, 47, 5, 3, 0, [])), (67, (51, 105, 6, 1, 0, [])), (70, (54, 0, 0, 0, 0, []))]
set_option maxRecDepth 20000 in
theorem ceX6_wayAt {l : Launch} {X : Nat × (Nat → Int32)} {d : Nat} : tbX6_wayAt l X d = ctb l X d U0 cdX6_wayAt := cec (cp18) <| cec (cp1) <| cec (cp1) <| cec (cp51 u0_117) <| cec (cp14_1) <| cec (cp0 io_6_m1) <| cec (cp54) <| cec (cp18) <| cec (cp1) <| cec (cp1) <| cec (cp51 u0_133) <| cec (cp2) <| cec (cp1) <| cec (cp0 io_29_1048576) <| cec (cp15_3) <| cec (cp1) <| cec (cp14_2) <| cec (cp1) <| cec (cp1) <| cec (cp0 io_12_32) <| cec (cp22) <| cec (cp15_2) <| cec (cp18) <| cec (cp0 io_1_1) <| cec (cp51 u0_106) <| cec (cp54) <| cec (cp18) <| cec (cp18) <| cec (cp37) <| cec (cp18) <| cec (cp37) <| cec (cp18) <| cec (cp37) <| cec (cp37) <| cec (cp1) <| cec (cp42) <| cec (cp1) <| cec (cp51 u0_47) <| cec (cp51 u0_105) <| cec (cp54) <| cen
noncomputable def cdX6_dryDay : List (Nat × Cd) := [(0, (18, 1, 0, 0, 0, [])), (1, (1, 1, 1, 0, 0, [])), (2, (51, 112, 6, 1, 0, [])), (5, (14, 14, 1, 0, 0, [])), (8, (18, 1, 0, 0, 0, [])), (9, (0, 1, 0, 0, 1, [])), (10, (51, 106, 6, 1, 0, [])), (13, (54, 0, 0, 0, 0, [])), (14, (18, 1, 0, 0, 0, [])), (15, (0, 2, 0, 0, 60, [])), (17, (51, 123, 6, 1, 0, [])), (20, (0, 1, 0, 0, 1, [])), (21, (2, 1, 2, 0, 0, [])), (22, (1, 1, 2, 0, 0, [])), (23, (0, 2, 0, 0, 60, [])), (25, (15, 92, 4, 0, 0, [])), (28, (18, 1, 0, 0, 0, [])), (29, (37, 6, 1, 2, 0, [])), (32, (51, 16, 3, 0, 0, [])), (35, (18, 1, 0, 0, 0, [])), (36, (37, 6, 12, 2, 0, [])), (39, (1, 1, 2, 0, 0, [])), (40, (42, 0, 0, 0, 0, [])), (41, (0, 1, 0, 0, (-1), [])), (42, (9, 0, 0, 0, 0, [])), (43, (7, 0, 0, 0, 0, [])), (44, (2, 1, 3, 0, 0, [])), (45, (18, 1, 0, 0, 0, [])), (46, (37, 6, 10, 2, 0, [])), (49, (18, 1, 0, 0, 0, [])), (50, (37, 6, 1, 2, 0, [])), (53, (1, 1, 3, 0, 0, [])), (54, (18, 1, 0, 0, 0, [])), (55, (37, 6, 1, 2, 0, [])), (58, (37, 3, 15, 2, 0, [])), (61, (1, 1, 1, 0, 0, [])), (62, (42, 0, 0, 0, 0, [])), (63, (18, 1, 0, 0, 0, [])), (64, (37, 6, 1, 2, 0, [])), (67, (37, 3, 16, 2, 0, [])), (70, (1, 1, 1, 0, 0, [])), (71, (42, 0, 0, 0, 0, [])), (72, (51, 45, 5, 4, 0, [])), (75, (0, 2, 0, 0, (-2), [])), (77, (15, 86, 0, 0, 0, [])), (80, (18, 1, 0, 0, 0, [])), (81, (1, 1, 2, 0, 0, [])), (82, (51, 105, 6, 1, 0, [])), (85, (54, 0, 0, 0, 0, [])), (86, (3, 2, 0, 0, 1, [])), (89, (13, 22, 0, 0, 0, [])), (92, (18, 1, 0, 0, 0, [])), (93, (0, 2, 0, 0, (-2), [])), (95, (51, 105, 6, 1, 0, [])), (98, (54, 0, 0, 0, 0, []))]
set_option maxRecDepth 20000 in
theorem ceX6_dryDay {l : Launch} {X : Nat × (Nat → Int32)} {d : Nat} : tbX6_dryDay l X d = ctb l X d U0 cdX6_dryDay := cec (cp18) <| cec (cp1) <| cec (cp51 u0_112) <| cec (cp14_1) <| cec (cp18) <| cec (cp0 io_1_1) <| cec (cp51 u0_106) <| cec (cp54) <| cec (cp18) <| cec (cp0 io_30_60) <| cec (cp51 u0_123) <| cec (cp0 io_1_1) <| cec (cp2) <| cec (cp1) <| cec (cp0 io_30_60) <| cec (cp15_4) <| cec (cp18) <| cec (cp37) <| cec (cp51 u0_16) <| cec (cp18) <| cec (cp37) <| cec (cp1) <| cec (cp42) <| cec (cp0 io_6_m1) <| cec (cp9) <| cec (cp7) <| cec (cp2) <| cec (cp18) <| cec (cp37) <| cec (cp18) <| cec (cp37) <| cec (cp1) <| cec (cp18) <| cec (cp37) <| cec (cp37) <| cec (cp1) <| cec (cp42) <| cec (cp18) <| cec (cp37) <| cec (cp37) <| cec (cp1) <| cec (cp42) <| cec (cp51 u0_45) <| cec (cp0 io_3_m2) <| cec (cp15_0) <| cec (cp18) <| cec (cp1) <| cec (cp51 u0_105) <| cec (cp54) <| cec (cp3 io_1_1) <| cec (cp13) <| cec (cp18) <| cec (cp0 io_3_m2) <| cec (cp51 u0_105) <| cec (cp54) <| cen
noncomputable def cdX6_gate : List (Nat × Cd) := [(0, (18, 1, 0, 0, 0, [])), (1, (51, 108, 6, 0, 0, [])), (4, (14, 13, 1, 0, 0, [])), (7, (18, 1, 0, 0, 0, [])), (8, (0, 1, 0, 0, 1, [])), (9, (51, 106, 6, 1, 0, [])), (12, (54, 0, 0, 0, 0, [])), (13, (0, 2, 0, 0, (-2), [])), (15, (2, 1, 1, 0, 0, [])), (16, (0, 1, 0, 0, 0, [])), (17, (2, 1, 2, 0, 0, [])), (18, (0, 1, 0, 0, 0, [])), (19, (2, 1, 3, 0, 0, [])), (20, (1, 1, 3, 0, 0, [])), (21, (18, 1, 0, 0, 0, [])), (22, (37, 6, 1, 2, 0, [])), (25, (51, 13, 3, 0, 0, [])), (28, (15, 85, 3, 0, 0, [])), (31, (18, 1, 0, 0, 0, [])), (32, (37, 6, 1, 2, 0, [])), (35, (1, 1, 3, 0, 0, [])), (36, (51, 14, 3, 1, 0, [])), (39, (14, 45, 1, 0, 0, [])), (42, (13, 79, 0, 0, 0, [])), (45, (18, 1, 0, 0, 0, [])), (46, (18, 1, 0, 0, 0, [])), (47, (37, 6, 1, 2, 0, [])), (50, (51, 16, 3, 0, 0, [])), (53, (0, 1, 0, 0, 1, [])), (54, (1, 1, 3, 0, 0, [])), (55, (10, 0, 0, 0, 0, [])), (56, (8, 0, 0, 0, 0, [])), (57, (51, 134, 6, 1, 0, [])), (60, (2, 2, 4, 0, 0, [])), (62, (1, 1, 1, 0, 0, [])), (63, (0, 2, 0, 0, (-2), [])), (65, (15, 74, 0, 0, 0, [])), (68, (1, 2, 4, 0, 0, [])), (70, (1, 1, 2, 0, 0, [])), (71, (15, 79, 3, 0, 0, [])), (74, (1, 2, 4, 0, 0, [])), (76, (2, 1, 2, 0, 0, [])), (77, (1, 1, 3, 0, 0, [])), (78, (2, 1, 1, 0, 0, [])), (79, (3, 3, 0, 0, 1, [])), (82, (13, 20, 0, 0, 0, [])), (85, (18, 1, 0, 0, 0, [])), (86, (1, 1, 1, 0, 0, [])), (87, (51, 105, 6, 1, 0, [])), (90, (54, 0, 0, 0, 0, []))]
set_option maxRecDepth 20000 in
theorem ceX6_gate {l : Launch} {X : Nat × (Nat → Int32)} {d : Nat} : tbX6_gate l X d = ctb l X d U0 cdX6_gate := cec (cp18) <| cec (cp51 u0_108) <| cec (cp14_1) <| cec (cp18) <| cec (cp0 io_1_1) <| cec (cp51 u0_106) <| cec (cp54) <| cec (cp0 io_3_m2) <| cec (cp2) <| cec (cp0 io_0_0) <| cec (cp2) <| cec (cp0 io_0_0) <| cec (cp2) <| cec (cp1) <| cec (cp18) <| cec (cp37) <| cec (cp51 u0_13) <| cec (cp15_3) <| cec (cp18) <| cec (cp37) <| cec (cp1) <| cec (cp51 u0_14) <| cec (cp14_1) <| cec (cp13) <| cec (cp18) <| cec (cp18) <| cec (cp37) <| cec (cp51 u0_16) <| cec (cp0 io_1_1) <| cec (cp1) <| cec (cp10) <| cec (cp8) <| cec (cp51 u0_134) <| cec (cp2) <| cec (cp1) <| cec (cp0 io_3_m2) <| cec (cp15_0) <| cec (cp1) <| cec (cp1) <| cec (cp15_3) <| cec (cp1) <| cec (cp2) <| cec (cp1) <| cec (cp2) <| cec (cp3 io_1_1) <| cec (cp13) <| cec (cp18) <| cec (cp1) <| cec (cp51 u0_105) <| cec (cp54) <| cen
noncomputable def cdX6_fits : List (Nat × Cd) := [(0, (18, 1, 0, 0, 0, [])), (1, (51, 108, 6, 0, 0, [])), (4, (14, 13, 1, 0, 0, [])), (7, (18, 1, 0, 0, 0, [])), (8, (0, 1, 0, 0, 1, [])), (9, (51, 106, 6, 1, 0, [])), (12, (54, 0, 0, 0, 0, [])), (13, (18, 1, 0, 0, 0, [])), (14, (18, 1, 0, 0, 0, [])), (15, (51, 135, 6, 0, 0, [])), (18, (52, 276, 0, 1, 0, [])), (21, (51, 105, 6, 1, 0, [])), (24, (54, 0, 0, 0, 0, []))]
set_option maxRecDepth 20000 in
theorem ceX6_fits {l : Launch} {X : Nat × (Nat → Int32)} {d : Nat} : tbX6_fits l X d = ctb l X d U0 cdX6_fits := cec (cp18) <| cec (cp51 u0_108) <| cec (cp14_1) <| cec (cp18) <| cec (cp0 io_1_1) <| cec (cp51 u0_106) <| cec (cp54) <| cec (cp18) <| cec (cp18) <| cec (cp51 u0_135) <| cec (cp52 u0_276) <| cec (cp51 u0_105) <| cec (cp54) <| cen
noncomputable def cdX6_fitAt : List (Nat × Cd) := [(0, (18, 1, 0, 0, 0, [])), (1, (51, 108, 6, 0, 0, [])), (4, (14, 11, 0, 0, 0, [])), (7, (1, 1, 1, 0, 0, [])), (8, (14, 17, 3, 0, 0, [])), (11, (18, 1, 0, 0, 0, [])), (12, (0, 1, 0, 0, 1, [])), (13, (51, 106, 6, 1, 0, [])), (16, (54, 0, 0, 0, 0, [])), (17, (18, 1, 0, 0, 0, [])), (18, (51, 135, 6, 0, 0, [])), (21, (2, 1, 2, 0, 0, [])), (22, (0, 1, 0, 0, 0, [])), (23, (2, 1, 3, 0, 0, [])), (24, (0, 1, 0, 0, 0, [])), (25, (2, 2, 4, 0, 0, [])), (27, (1, 2, 4, 0, 0, [])), (29, (0, 1, 0, 0, 1, [])), (30, (18, 1, 0, 0, 0, [])), (31, (37, 6, 1, 2, 0, [])), (34, (37, 3, 17, 0, 0, [])), (37, (10, 0, 0, 0, 0, [])), (38, (15, 74, 3, 0, 0, [])), (41, (1, 1, 2, 0, 0, [])), (42, (1, 2, 4, 0, 0, [])), (44, (11, 0, 0, 0, 0, [])), (45, (0, 1, 0, 0, 1, [])), (46, (7, 0, 0, 0, 0, [])), (47, (14, 53, 1, 0, 0, [])), (50, (13, 68, 0, 0, 0, [])), (53, (1, 1, 3, 0, 0, [])), (54, (1, 1, 1, 0, 0, [])), (55, (15, 65, 1, 0, 0, [])), (58, (18, 1, 0, 0, 0, [])), (59, (1, 2, 4, 0, 0, [])), (61, (51, 105, 6, 1, 0, [])), (64, (54, 0, 0, 0, 0, [])), (65, (3, 3, 0, 0, 1, [])), (68, (3, 4, 0, 0, 1, [])), (71, (13, 27, 0, 0, 0, [])), (74, (18, 1, 0, 0, 0, [])), (75, (0, 1, 0, 0, 1, [])), (76, (51, 106, 6, 1, 0, [])), (79, (54, 0, 0, 0, 0, []))]
set_option maxRecDepth 20000 in
theorem ceX6_fitAt {l : Launch} {X : Nat × (Nat → Int32)} {d : Nat} : tbX6_fitAt l X d = ctb l X d U0 cdX6_fitAt := cec (cp18) <| cec (cp51 u0_108) <| cec (cp14_0) <| cec (cp1) <| cec (cp14_3) <| cec (cp18) <| cec (cp0 io_1_1) <| cec (cp51 u0_106) <| cec (cp54) <| cec (cp18) <| cec (cp51 u0_135) <| cec (cp2) <| cec (cp0 io_0_0) <| cec (cp2) <| cec (cp0 io_0_0) <| cec (cp2) <| cec (cp1) <| cec (cp0 io_1_1) <| cec (cp18) <| cec (cp37) <| cec (cp37) <| cec (cp10) <| cec (cp15_3) <| cec (cp1) <| cec (cp1) <| cec (cp11) <| cec (cp0 io_1_1) <| cec (cp7) <| cec (cp14_1) <| cec (cp13) <| cec (cp1) <| cec (cp1) <| cec (cp15_1) <| cec (cp18) <| cec (cp1) <| cec (cp51 u0_105) <| cec (cp54) <| cec (cp3 io_1_1) <| cec (cp3 io_1_1) <| cec (cp13) <| cec (cp18) <| cec (cp0 io_1_1) <| cec (cp51 u0_106) <| cec (cp54) <| cen
noncomputable def cdX6_could : List (Nat × Cd) := [(0, (18, 1, 0, 0, 0, [])), (1, (51, 108, 6, 0, 0, [])), (4, (14, 13, 1, 0, 0, [])), (7, (18, 1, 0, 0, 0, [])), (8, (0, 1, 0, 0, 1, [])), (9, (51, 106, 6, 1, 0, [])), (12, (54, 0, 0, 0, 0, [])), (13, (18, 1, 0, 0, 0, [])), (14, (51, 135, 6, 0, 0, [])), (17, (2, 1, 1, 0, 0, [])), (18, (0, 1, 0, 0, 0, [])), (19, (2, 1, 2, 0, 0, [])), (20, (0, 1, 0, 0, 0, [])), (21, (2, 1, 3, 0, 0, [])), (22, (1, 1, 3, 0, 0, [])), (23, (18, 1, 0, 0, 0, [])), (24, (37, 6, 1, 2, 0, [])), (27, (37, 3, 17, 0, 0, [])), (30, (15, 53, 3, 0, 0, [])), (33, (1, 1, 1, 0, 0, [])), (34, (1, 1, 3, 0, 0, [])), (35, (52, 138, 0, 2, 0, [])), (38, (14, 47, 5, 0, 0, [])), (41, (1, 1, 2, 0, 0, [])), (42, (0, 1, 0, 0, 1, [])), (43, (1, 1, 3, 0, 0, [])), (44, (10, 0, 0, 0, 0, [])), (45, (8, 0, 0, 0, 0, [])), (46, (2, 1, 2, 0, 0, [])), (47, (3, 3, 0, 0, 1, [])), (50, (13, 22, 0, 0, 0, [])), (53, (18, 1, 0, 0, 0, [])), (54, (1, 1, 2, 0, 0, [])), (55, (51, 105, 6, 1, 0, [])), (58, (54, 0, 0, 0, 0, []))]
set_option maxRecDepth 20000 in
theorem ceX6_could {l : Launch} {X : Nat × (Nat → Int32)} {d : Nat} : tbX6_could l X d = ctb l X d U0 cdX6_could := cec (cp18) <| cec (cp51 u0_108) <| cec (cp14_1) <| cec (cp18) <| cec (cp0 io_1_1) <| cec (cp51 u0_106) <| cec (cp54) <| cec (cp18) <| cec (cp51 u0_135) <| cec (cp2) <| cec (cp0 io_0_0) <| cec (cp2) <| cec (cp0 io_0_0) <| cec (cp2) <| cec (cp1) <| cec (cp18) <| cec (cp37) <| cec (cp37) <| cec (cp15_3) <| cec (cp1) <| cec (cp1) <| cec (cp52 u0_138) <| cec (cp14_5) <| cec (cp1) <| cec (cp0 io_1_1) <| cec (cp1) <| cec (cp10) <| cec (cp8) <| cec (cp2) <| cec (cp3 io_1_1) <| cec (cp13) <| cec (cp18) <| cec (cp1) <| cec (cp51 u0_105) <| cec (cp54) <| cen
noncomputable def cdX6_surely : List (Nat × Cd) := [(0, (18, 1, 0, 0, 0, [])), (1, (51, 108, 6, 0, 0, [])), (4, (14, 13, 1, 0, 0, [])), (7, (18, 1, 0, 0, 0, [])), (8, (0, 1, 0, 0, 1, [])), (9, (51, 106, 6, 1, 0, [])), (12, (54, 0, 0, 0, 0, [])), (13, (18, 1, 0, 0, 0, [])), (14, (51, 135, 6, 0, 0, [])), (17, (2, 1, 1, 0, 0, [])), (18, (1, 1, 1, 0, 0, [])), (19, (52, 276, 0, 1, 0, [])), (22, (2, 1, 2, 0, 0, [])), (23, (0, 1, 0, 0, 0, [])), (24, (2, 1, 3, 0, 0, [])), (25, (0, 1, 0, 0, 0, [])), (26, (2, 2, 4, 0, 0, [])), (28, (1, 2, 4, 0, 0, [])), (30, (18, 1, 0, 0, 0, [])), (31, (37, 6, 1, 2, 0, [])), (34, (37, 3, 17, 0, 0, [])), (37, (15, 67, 3, 0, 0, [])), (40, (1, 1, 2, 0, 0, [])), (41, (14, 61, 5, 0, 0, [])), (44, (1, 1, 1, 0, 0, [])), (45, (1, 2, 4, 0, 0, [])), (47, (52, 138, 0, 2, 0, [])), (50, (1, 1, 2, 0, 0, [])), (51, (15, 61, 1, 0, 0, [])), (54, (1, 1, 3, 0, 0, [])), (55, (0, 1, 0, 0, 1, [])), (56, (1, 2, 4, 0, 0, [])), (58, (10, 0, 0, 0, 0, [])), (59, (8, 0, 0, 0, 0, [])), (60, (2, 1, 3, 0, 0, [])), (61, (3, 4, 0, 0, 1, [])), (64, (13, 28, 0, 0, 0, [])), (67, (18, 1, 0, 0, 0, [])), (68, (1, 1, 3, 0, 0, [])), (69, (51, 105, 6, 1, 0, [])), (72, (54, 0, 0, 0, 0, []))]
set_option maxRecDepth 20000 in
theorem ceX6_surely {l : Launch} {X : Nat × (Nat → Int32)} {d : Nat} : tbX6_surely l X d = ctb l X d U0 cdX6_surely := cec (cp18) <| cec (cp51 u0_108) <| cec (cp14_1) <| cec (cp18) <| cec (cp0 io_1_1) <| cec (cp51 u0_106) <| cec (cp54) <| cec (cp18) <| cec (cp51 u0_135) <| cec (cp2) <| cec (cp1) <| cec (cp52 u0_276) <| cec (cp2) <| cec (cp0 io_0_0) <| cec (cp2) <| cec (cp0 io_0_0) <| cec (cp2) <| cec (cp1) <| cec (cp18) <| cec (cp37) <| cec (cp37) <| cec (cp15_3) <| cec (cp1) <| cec (cp14_5) <| cec (cp1) <| cec (cp1) <| cec (cp52 u0_138) <| cec (cp1) <| cec (cp15_1) <| cec (cp1) <| cec (cp0 io_1_1) <| cec (cp1) <| cec (cp10) <| cec (cp8) <| cec (cp2) <| cec (cp3 io_1_1) <| cec (cp13) <| cec (cp18) <| cec (cp1) <| cec (cp51 u0_105) <| cec (cp54) <| cen
noncomputable def cdX6_ask : List (Nat × Cd) := [(0, (18, 1, 0, 0, 0, [])), (1, (51, 108, 6, 0, 0, [])), (4, (14, 13, 1, 0, 0, [])), (7, (18, 1, 0, 0, 0, [])), (8, (0, 1, 0, 0, 1, [])), (9, (51, 106, 6, 1, 0, [])), (12, (54, 0, 0, 0, 0, [])), (13, (18, 1, 0, 0, 0, [])), (14, (18, 1, 0, 0, 0, [])), (15, (18, 1, 0, 0, 0, [])), (16, (51, 135, 6, 0, 0, [])), (19, (51, 140, 6, 1, 0, [])), (22, (51, 105, 6, 1, 0, [])), (25, (54, 0, 0, 0, 0, []))]
set_option maxRecDepth 20000 in
theorem ceX6_ask {l : Launch} {X : Nat × (Nat → Int32)} {d : Nat} : tbX6_ask l X d = ctb l X d U0 cdX6_ask := cec (cp18) <| cec (cp51 u0_108) <| cec (cp14_1) <| cec (cp18) <| cec (cp0 io_1_1) <| cec (cp51 u0_106) <| cec (cp54) <| cec (cp18) <| cec (cp18) <| cec (cp18) <| cec (cp51 u0_135) <| cec (cp51 u0_140) <| cec (cp51 u0_105) <| cec (cp54) <| cen
noncomputable def cdX6_askLeaves : List (Nat × Cd) := [(0, (18, 1, 0, 0, 0, [])), (1, (51, 108, 6, 0, 0, [])), (4, (14, 13, 1, 0, 0, [])), (7, (18, 1, 0, 0, 0, [])), (8, (0, 1, 0, 0, 1, [])), (9, (51, 106, 6, 1, 0, [])), (12, (54, 0, 0, 0, 0, [])), (13, (18, 1, 0, 0, 0, [])), (14, (51, 135, 6, 0, 0, [])), (17, (2, 1, 1, 0, 0, [])), (18, (18, 1, 0, 0, 0, [])), (19, (1, 1, 1, 0, 0, [])), (20, (51, 140, 6, 1, 0, [])), (23, (2, 1, 2, 0, 0, [])), (24, (18, 1, 0, 0, 0, [])), (25, (1, 1, 2, 0, 0, [])), (26, (0, 2, 0, 0, (-2), [])), (28, (15, 36, 1, 0, 0, [])), (31, (0, 2, 0, 0, (-2), [])), (33, (13, 41, 0, 0, 0, [])), (36, (1, 1, 1, 0, 0, [])), (37, (1, 1, 2, 0, 0, [])), (38, (52, 139, 0, 2, 0, [])), (41, (51, 105, 6, 1, 0, [])), (44, (54, 0, 0, 0, 0, []))]
set_option maxRecDepth 20000 in
theorem ceX6_askLeaves {l : Launch} {X : Nat × (Nat → Int32)} {d : Nat} : tbX6_askLeaves l X d = ctb l X d U0 cdX6_askLeaves := cec (cp18) <| cec (cp51 u0_108) <| cec (cp14_1) <| cec (cp18) <| cec (cp0 io_1_1) <| cec (cp51 u0_106) <| cec (cp54) <| cec (cp18) <| cec (cp51 u0_135) <| cec (cp2) <| cec (cp18) <| cec (cp1) <| cec (cp51 u0_140) <| cec (cp2) <| cec (cp18) <| cec (cp1) <| cec (cp0 io_3_m2) <| cec (cp15_1) <| cec (cp0 io_3_m2) <| cec (cp13) <| cec (cp1) <| cec (cp1) <| cec (cp52 u0_139) <| cec (cp51 u0_105) <| cec (cp54) <| cen
noncomputable def cdX6_judge : List (Nat × Cd) := [(0, (18, 1, 0, 0, 0, [])), (1, (51, 108, 6, 0, 0, [])), (4, (14, 13, 1, 0, 0, [])), (7, (18, 1, 0, 0, 0, [])), (8, (0, 1, 0, 0, 1, [])), (9, (51, 106, 6, 1, 0, [])), (12, (54, 0, 0, 0, 0, [])), (13, (0, 1, 0, 0, 0, [])), (14, (2, 1, 1, 0, 0, [])), (15, (1, 1, 1, 0, 0, [])), (16, (18, 1, 0, 0, 0, [])), (17, (37, 6, 1, 2, 0, [])), (20, (37, 3, 4, 0, 0, [])), (23, (15, 47, 3, 0, 0, [])), (26, (18, 1, 0, 0, 0, [])), (27, (1, 1, 1, 0, 0, [])), (28, (0, 1, 0, 0, 0, [])), (29, (51, 137, 6, 2, 0, [])), (32, (14, 41, 1, 0, 0, [])), (35, (18, 1, 0, 0, 0, [])), (36, (1, 1, 1, 0, 0, [])), (37, (51, 105, 6, 1, 0, [])), (40, (54, 0, 0, 0, 0, [])), (41, (3, 1, 0, 0, 1, [])), (44, (13, 15, 0, 0, 0, [])), (47, (18, 1, 0, 0, 0, [])), (48, (0, 2, 0, 0, (-2), [])), (50, (51, 105, 6, 1, 0, [])), (53, (54, 0, 0, 0, 0, []))]
set_option maxRecDepth 20000 in
theorem ceX6_judge {l : Launch} {X : Nat × (Nat → Int32)} {d : Nat} : tbX6_judge l X d = ctb l X d U0 cdX6_judge := cec (cp18) <| cec (cp51 u0_108) <| cec (cp14_1) <| cec (cp18) <| cec (cp0 io_1_1) <| cec (cp51 u0_106) <| cec (cp54) <| cec (cp0 io_0_0) <| cec (cp2) <| cec (cp1) <| cec (cp18) <| cec (cp37) <| cec (cp37) <| cec (cp15_3) <| cec (cp18) <| cec (cp1) <| cec (cp0 io_0_0) <| cec (cp51 u0_137) <| cec (cp14_1) <| cec (cp18) <| cec (cp1) <| cec (cp51 u0_105) <| cec (cp54) <| cec (cp3 io_1_1) <| cec (cp13) <| cec (cp18) <| cec (cp0 io_3_m2) <| cec (cp51 u0_105) <| cec (cp54) <| cen
noncomputable def cdX6_sulks : List (Nat × Cd) := [(0, (18, 1, 0, 0, 0, [])), (1, (1, 1, 1, 0, 0, [])), (2, (51, 118, 6, 1, 0, [])), (5, (14, 11, 1, 0, 0, [])), (8, (0, 2, 0, 0, (-100), [])), (10, (54, 0, 0, 0, 0, [])), (11, (18, 1, 0, 0, 0, [])), (12, (1, 1, 1, 0, 0, [])), (13, (1, 1, 2, 0, 0, [])), (14, (14, 21, 0, 0, 0, [])), (17, (0, 1, 0, 0, 1, [])), (18, (13, 22, 0, 0, 0, [])), (21, (0, 1, 0, 0, 0, [])), (22, (1, 1, 3, 0, 0, [])), (23, (14, 30, 0, 0, 0, [])), (26, (0, 1, 0, 0, 1, [])), (27, (13, 31, 0, 0, 0, [])), (30, (0, 1, 0, 0, 0, [])), (31, (1, 2, 4, 0, 0, [])), (33, (52, 141, 0, 4, 0, [])), (36, (51, 105, 6, 1, 0, [])), (39, (54, 0, 0, 0, 0, []))]
set_option maxRecDepth 20000 in
theorem ceX6_sulks {l : Launch} {X : Nat × (Nat → Int32)} {d : Nat} : tbX6_sulks l X d = ctb l X d U0 cdX6_sulks := cec (cp18) <| cec (cp1) <| cec (cp51 u0_118) <| cec (cp14_1) <| cec (cp0 io_32_m100) <| cec (cp54) <| cec (cp18) <| cec (cp1) <| cec (cp1) <| cec (cp14_0) <| cec (cp0 io_1_1) <| cec (cp13) <| cec (cp0 io_0_0) <| cec (cp1) <| cec (cp14_0) <| cec (cp0 io_1_1) <| cec (cp13) <| cec (cp0 io_0_0) <| cec (cp1) <| cec (cp52 u0_141) <| cec (cp51 u0_105) <| cec (cp54) <| cen
noncomputable def cdX6_rests : List (Nat × Cd) := [(0, (18, 1, 0, 0, 0, [])), (1, (1, 1, 1, 0, 0, [])), (2, (51, 118, 6, 1, 0, [])), (5, (14, 10, 1, 0, 0, [])), (8, (0, 1, 0, 0, (-1), [])), (9, (54, 0, 0, 0, 0, [])), (10, (0, 1, 0, 0, 0, [])), (11, (2, 1, 2, 0, 0, [])), (12, (0, 1, 0, 0, 0, [])), (13, (2, 1, 3, 0, 0, [])), (14, (1, 1, 3, 0, 0, [])), (15, (0, 1, 0, 0, 4, [])), (16, (15, 41, 3, 0, 0, [])), (19, (1, 1, 1, 0, 0, [])), (20, (1, 1, 3, 0, 0, [])), (21, (0, 1, 0, 0, 1, [])), (22, (11, 0, 0, 0, 0, [])), (23, (1, 1, 3, 0, 0, [])), (24, (0, 1, 0, 0, 1, [])), (25, (7, 0, 0, 0, 0, [])), (26, (52, 142, 0, 3, 0, [])), (29, (14, 35, 0, 0, 0, [])), (32, (3, 2, 0, 0, 1, [])), (35, (3, 3, 0, 0, 1, [])), (38, (13, 14, 0, 0, 0, [])), (41, (18, 1, 0, 0, 0, [])), (42, (1, 1, 2, 0, 0, [])), (43, (51, 105, 6, 1, 0, [])), (46, (54, 0, 0, 0, 0, []))]
set_option maxRecDepth 20000 in
theorem ceX6_rests {l : Launch} {X : Nat × (Nat → Int32)} {d : Nat} : tbX6_rests l X d = ctb l X d U0 cdX6_rests := cec (cp18) <| cec (cp1) <| cec (cp51 u0_118) <| cec (cp14_1) <| cec (cp0 io_6_m1) <| cec (cp54) <| cec (cp0 io_0_0) <| cec (cp2) <| cec (cp0 io_0_0) <| cec (cp2) <| cec (cp1) <| cec (cp0 io_18_4) <| cec (cp15_3) <| cec (cp1) <| cec (cp1) <| cec (cp0 io_1_1) <| cec (cp11) <| cec (cp1) <| cec (cp0 io_1_1) <| cec (cp7) <| cec (cp52 u0_142) <| cec (cp14_0) <| cec (cp3 io_1_1) <| cec (cp3 io_1_1) <| cec (cp13) <| cec (cp18) <| cec (cp1) <| cec (cp51 u0_105) <| cec (cp54) <| cen
noncomputable def cdX6_rest : List (Nat × Cd) := [(0, (18, 1, 0, 0, 0, [])), (1, (1, 1, 1, 0, 0, [])), (2, (51, 118, 6, 1, 0, [])), (5, (14, 10, 1, 0, 0, [])), (8, (0, 1, 0, 0, (-1), [])), (9, (54, 0, 0, 0, 0, [])), (10, (0, 1, 0, 0, 0, [])), (11, (2, 1, 2, 0, 0, [])), (12, (1, 1, 2, 0, 0, [])), (13, (0, 1, 0, 0, 4, [])), (14, (15, 51, 3, 0, 0, [])), (17, (1, 1, 1, 0, 0, [])), (18, (1, 1, 2, 0, 0, [])), (19, (0, 1, 0, 0, 1, [])), (20, (11, 0, 0, 0, 0, [])), (21, (1, 1, 2, 0, 0, [])), (22, (0, 1, 0, 0, 1, [])), (23, (7, 0, 0, 0, 0, [])), (24, (52, 142, 0, 3, 0, [])), (27, (14, 45, 0, 0, 0, [])), (30, (18, 1, 0, 0, 0, [])), (31, (0, 2, 0, 0, 10, [])), (33, (1, 1, 2, 0, 0, [])), (34, (0, 1, 0, 0, 1, [])), (35, (11, 0, 0, 0, 0, [])), (36, (6, 0, 0, 0, 0, [])), (37, (1, 1, 2, 0, 0, [])), (38, (0, 1, 0, 0, 1, [])), (39, (7, 0, 0, 0, 0, [])), (40, (4, 0, 0, 0, 0, [])), (41, (51, 105, 6, 1, 0, [])), (44, (54, 0, 0, 0, 0, [])), (45, (3, 2, 0, 0, 1, [])), (48, (13, 12, 0, 0, 0, [])), (51, (18, 1, 0, 0, 0, [])), (52, (0, 2, 0, 0, (-2), [])), (54, (51, 105, 6, 1, 0, [])), (57, (54, 0, 0, 0, 0, []))]
set_option maxRecDepth 20000 in
theorem ceX6_rest {l : Launch} {X : Nat × (Nat → Int32)} {d : Nat} : tbX6_rest l X d = ctb l X d U0 cdX6_rest := cec (cp18) <| cec (cp1) <| cec (cp51 u0_118) <| cec (cp14_1) <| cec (cp0 io_6_m1) <| cec (cp54) <| cec (cp0 io_0_0) <| cec (cp2) <| cec (cp1) <| cec (cp0 io_18_4) <| cec (cp15_3) <| cec (cp1) <| cec (cp1) <| cec (cp0 io_1_1) <| cec (cp11) <| cec (cp1) <| cec (cp0 io_1_1) <| cec (cp7) <| cec (cp52 u0_142) <| cec (cp14_0) <| cec (cp18) <| cec (cp0 io_20_10) <| cec (cp1) <| cec (cp0 io_1_1) <| cec (cp11) <| cec (cp6) <| cec (cp1) <| cec (cp0 io_1_1) <| cec (cp7) <| cec (cp4) <| cec (cp51 u0_105) <| cec (cp54) <| cec (cp3 io_1_1) <| cec (cp13) <| cec (cp18) <| cec (cp0 io_3_m2) <| cec (cp51 u0_105) <| cec (cp54) <| cen
noncomputable def cdX6_odds : List (Nat × Cd) := [(0, (18, 1, 0, 0, 0, [])), (1, (1, 1, 1, 0, 0, [])), (2, (1, 1, 2, 0, 0, [])), (3, (51, 119, 6, 2, 0, [])), (6, (14, 13, 1, 0, 0, [])), (9, (33, 3, 0, 0, (-1), [])), (12, (56, 0, 0, 0, 0, [])), (13, (18, 1, 0, 0, 0, [])), (14, (1, 1, 1, 0, 0, [])), (15, (1, 1, 2, 0, 0, [])), (16, (1, 1, 3, 0, 0, [])), (17, (0, 1, 0, 0, 0, [])), (18, (51, 143, 6, 4, 0, [])), (21, (56, 0, 0, 0, 0, []))]
set_option maxRecDepth 20000 in
theorem ceX6_odds {l : Launch} {X : Nat × (Nat → Int32)} {d : Nat} : tbX6_odds l X d = ctb l X d U0 cdX6_odds := cec (cp18) <| cec (cp1) <| cec (cp1) <| cec (cp51 u0_119) <| cec (cp14_1) <| cec (cp33 iol_2_m1) <| cec (cp56) <| cec (cp18) <| cec (cp1) <| cec (cp1) <| cec (cp1) <| cec (cp0 io_0_0) <| cec (cp51 u0_143) <| cec (cp56) <| cen
noncomputable def cdX6_mean : List (Nat × Cd) := [(0, (18, 1, 0, 0, 0, [])), (1, (1, 1, 1, 0, 0, [])), (2, (1, 1, 2, 0, 0, [])), (3, (51, 119, 6, 2, 0, [])), (6, (14, 13, 1, 0, 0, [])), (9, (33, 3, 0, 0, (-1), [])), (12, (56, 0, 0, 0, 0, [])), (13, (18, 1, 0, 0, 0, [])), (14, (1, 1, 1, 0, 0, [])), (15, (1, 1, 2, 0, 0, [])), (16, (1, 1, 3, 0, 0, [])), (17, (0, 1, 0, 0, 1, [])), (18, (51, 143, 6, 4, 0, [])), (21, (56, 0, 0, 0, 0, []))]
set_option maxRecDepth 20000 in
theorem ceX6_mean {l : Launch} {X : Nat × (Nat → Int32)} {d : Nat} : tbX6_mean l X d = ctb l X d U0 cdX6_mean := cec (cp18) <| cec (cp1) <| cec (cp1) <| cec (cp51 u0_119) <| cec (cp14_1) <| cec (cp33 iol_2_m1) <| cec (cp56) <| cec (cp18) <| cec (cp1) <| cec (cp1) <| cec (cp1) <| cec (cp0 io_1_1) <| cec (cp51 u0_143) <| cec (cp56) <| cen
noncomputable def cdX6_borne : List (Nat × Cd) := [(0, (18, 1, 0, 0, 0, [])), (1, (1, 1, 1, 0, 0, [])), (2, (51, 109, 6, 1, 0, [])), (5, (14, 14, 1, 0, 0, [])), (8, (18, 1, 0, 0, 0, [])), (9, (0, 1, 0, 0, 1, [])), (10, (51, 106, 6, 1, 0, [])), (13, (54, 0, 0, 0, 0, [])), (14, (1, 1, 2, 0, 0, [])), (15, (52, 113, 0, 1, 0, [])), (18, (14, 31, 0, 0, 0, [])), (21, (1, 1, 3, 0, 0, [])), (22, (0, 1, 0, 0, 0, [])), (23, (0, 2, 0, 0, 60, [])), (25, (52, 107, 0, 3, 0, [])), (28, (14, 37, 1, 0, 0, [])), (31, (18, 1, 0, 0, 0, [])), (32, (0, 1, 0, 0, 2, [])), (33, (51, 106, 6, 1, 0, [])), (36, (54, 0, 0, 0, 0, [])), (37, (18, 1, 0, 0, 0, [])), (38, (1, 1, 1, 0, 0, [])), (39, (18, 1, 0, 0, 0, [])), (40, (1, 1, 1, 0, 0, [])), (41, (51, 114, 6, 1, 0, [])), (44, (51, 121, 6, 2, 0, [])), (47, (1, 1, 2, 0, 0, [])), (48, (2, 2, 4, 0, 0, [])), (50, (0, 1, 0, 0, 1, [])), (51, (2, 2, 5, 0, 0, [])), (53, (1, 2, 5, 0, 0, [])), (55, (1, 1, 3, 0, 0, [])), (56, (15, 86, 4, 0, 0, [])), (59, (1, 2, 4, 0, 0, [])), (61, (52, 126, 0, 1, 0, [])), (64, (2, 2, 4, 0, 0, [])), (66, (18, 1, 0, 0, 0, [])), (67, (37, 6, 9, 2, 0, [])), (70, (18, 1, 0, 0, 0, [])), (71, (1, 2, 4, 0, 0, [])), (73, (51, 127, 6, 1, 0, [])), (76, (51, 1, 0, 1, 0, [])), (79, (36, 0, 0, 0, 0, [])), (80, (3, 5, 0, 0, 1, [])), (83, (13, 53, 0, 0, 0, [])), (86, (18, 1, 0, 0, 0, [])), (87, (18, 1, 0, 0, 0, [])), (88, (37, 6, 9, 2, 0, [])), (91, (37, 0, 6, 0, 0, [])), (94, (51, 105, 6, 1, 0, [])), (97, (54, 0, 0, 0, 0, []))]
set_option maxRecDepth 20000 in
theorem ceX6_borne {l : Launch} {X : Nat × (Nat → Int32)} {d : Nat} : tbX6_borne l X d = ctb l X d U0 cdX6_borne := cec (cp18) <| cec (cp1) <| cec (cp51 u0_109) <| cec (cp14_1) <| cec (cp18) <| cec (cp0 io_1_1) <| cec (cp51 u0_106) <| cec (cp54) <| cec (cp1) <| cec (cp52 u0_113) <| cec (cp14_0) <| cec (cp1) <| cec (cp0 io_0_0) <| cec (cp0 io_30_60) <| cec (cp52 u0_107) <| cec (cp14_1) <| cec (cp18) <| cec (cp0 io_2_2) <| cec (cp51 u0_106) <| cec (cp54) <| cec (cp18) <| cec (cp1) <| cec (cp18) <| cec (cp1) <| cec (cp51 u0_114) <| cec (cp51 u0_121) <| cec (cp1) <| cec (cp2) <| cec (cp0 io_1_1) <| cec (cp2) <| cec (cp1) <| cec (cp1) <| cec (cp15_4) <| cec (cp1) <| cec (cp52 u0_126) <| cec (cp2) <| cec (cp18) <| cec (cp37) <| cec (cp18) <| cec (cp1) <| cec (cp51 u0_127) <| cec (cp51 u0_1) <| cec (cp36) <| cec (cp3 io_1_1) <| cec (cp13) <| cec (cp18) <| cec (cp18) <| cec (cp37) <| cec (cp37) <| cec (cp51 u0_105) <| cec (cp54) <| cen
noncomputable def cdX6_firstWet : List (Nat × Cd) := [(0, (18, 1, 0, 0, 0, [])), (1, (51, 108, 6, 0, 0, [])), (4, (14, 13, 1, 0, 0, [])), (7, (18, 1, 0, 0, 0, [])), (8, (0, 1, 0, 0, 1, [])), (9, (51, 106, 6, 1, 0, [])), (12, (54, 0, 0, 0, 0, [])), (13, (1, 1, 1, 0, 0, [])), (14, (52, 113, 0, 1, 0, [])), (17, (14, 30, 0, 0, 0, [])), (20, (1, 1, 2, 0, 0, [])), (21, (0, 1, 0, 0, 0, [])), (22, (0, 2, 0, 0, 60, [])), (24, (52, 107, 0, 3, 0, [])), (27, (14, 36, 1, 0, 0, [])), (30, (18, 1, 0, 0, 0, [])), (31, (0, 1, 0, 0, 2, [])), (32, (51, 106, 6, 1, 0, [])), (35, (54, 0, 0, 0, 0, [])), (36, (0, 2, 0, 0, (-2), [])), (38, (2, 1, 3, 0, 0, [])), (39, (0, 1, 0, 0, 0, [])), (40, (2, 2, 4, 0, 0, [])), (42, (1, 2, 4, 0, 0, [])), (44, (18, 1, 0, 0, 0, [])), (45, (37, 6, 1, 2, 0, [])), (48, (37, 3, 4, 0, 0, [])), (51, (15, 92, 3, 0, 0, [])), (54, (18, 1, 0, 0, 0, [])), (55, (1, 2, 4, 0, 0, [])), (57, (1, 1, 1, 0, 0, [])), (58, (1, 1, 2, 0, 0, [])), (59, (51, 125, 6, 3, 0, [])), (62, (2, 2, 5, 0, 0, [])), (64, (1, 2, 5, 0, 0, [])), (66, (0, 2, 0, 0, (-2), [])), (68, (15, 86, 0, 0, 0, [])), (71, (1, 1, 3, 0, 0, [])), (72, (0, 2, 0, 0, (-2), [])), (74, (15, 83, 0, 0, 0, [])), (77, (1, 2, 5, 0, 0, [])), (79, (1, 1, 3, 0, 0, [])), (80, (15, 86, 3, 0, 0, [])), (83, (1, 2, 5, 0, 0, [])), (85, (2, 1, 3, 0, 0, [])), (86, (3, 4, 0, 0, 1, [])), (89, (13, 42, 0, 0, 0, [])), (92, (18, 1, 0, 0, 0, [])), (93, (1, 1, 3, 0, 0, [])), (94, (51, 105, 6, 1, 0, [])), (97, (54, 0, 0, 0, 0, []))]
set_option maxRecDepth 20000 in
theorem ceX6_firstWet {l : Launch} {X : Nat × (Nat → Int32)} {d : Nat} : tbX6_firstWet l X d = ctb l X d U0 cdX6_firstWet := cec (cp18) <| cec (cp51 u0_108) <| cec (cp14_1) <| cec (cp18) <| cec (cp0 io_1_1) <| cec (cp51 u0_106) <| cec (cp54) <| cec (cp1) <| cec (cp52 u0_113) <| cec (cp14_0) <| cec (cp1) <| cec (cp0 io_0_0) <| cec (cp0 io_30_60) <| cec (cp52 u0_107) <| cec (cp14_1) <| cec (cp18) <| cec (cp0 io_2_2) <| cec (cp51 u0_106) <| cec (cp54) <| cec (cp0 io_3_m2) <| cec (cp2) <| cec (cp0 io_0_0) <| cec (cp2) <| cec (cp1) <| cec (cp18) <| cec (cp37) <| cec (cp37) <| cec (cp15_3) <| cec (cp18) <| cec (cp1) <| cec (cp1) <| cec (cp1) <| cec (cp51 u0_125) <| cec (cp2) <| cec (cp1) <| cec (cp0 io_3_m2) <| cec (cp15_0) <| cec (cp1) <| cec (cp0 io_3_m2) <| cec (cp15_0) <| cec (cp1) <| cec (cp1) <| cec (cp15_3) <| cec (cp1) <| cec (cp2) <| cec (cp3 io_1_1) <| cec (cp13) <| cec (cp18) <| cec (cp1) <| cec (cp51 u0_105) <| cec (cp54) <| cen
noncomputable def cdX6_day : List (Nat × Cd) := [(0, (18, 1, 0, 0, 0, [])), (1, (51, 108, 6, 0, 0, [])), (4, (14, 13, 1, 0, 0, [])), (7, (18, 1, 0, 0, 0, [])), (8, (0, 1, 0, 0, 1, [])), (9, (51, 106, 6, 1, 0, [])), (12, (54, 0, 0, 0, 0, [])), (13, (18, 1, 0, 0, 0, [])), (14, (37, 6, 3, 2, 0, [])), (17, (37, 2, 4, 0, 0, [])), (20, (0, 3, 0, 0, 999, [])), (23, (15, 32, 2, 0, 0, [])), (26, (18, 1, 0, 0, 0, [])), (27, (0, 1, 0, 0, 3, [])), (28, (51, 106, 6, 1, 0, [])), (31, (54, 0, 0, 0, 0, [])), (32, (18, 1, 0, 0, 0, [])), (33, (51, 145, 6, 0, 0, [])), (36, (0, 1, 0, 0, 0, [])), (37, (2, 1, 1, 0, 0, [])), (38, (0, 1, 0, 0, 0, [])), (39, (2, 1, 2, 0, 0, [])), (40, (1, 1, 2, 0, 0, [])), (41, (18, 1, 0, 0, 0, [])), (42, (37, 6, 1, 2, 0, [])), (45, (37, 3, 4, 0, 0, [])), (48, (15, 143, 3, 0, 0, [])), (51, (18, 1, 0, 0, 0, [])), (52, (1, 1, 2, 0, 0, [])), (53, (18, 1, 0, 0, 0, [])), (54, (1, 1, 2, 0, 0, [])), (55, (51, 114, 6, 1, 0, [])), (58, (51, 121, 6, 2, 0, [])), (61, (18, 1, 0, 0, 0, [])), (62, (37, 6, 9, 2, 0, [])), (65, (0, 1, 0, 0, 0, [])), (66, (51, 1, 0, 1, 0, [])), (69, (14, 86, 0, 0, 0, [])), (72, (1, 1, 1, 0, 0, [])), (73, (0, 1, 0, 0, 1, [])), (74, (18, 1, 0, 0, 0, [])), (75, (37, 6, 1, 2, 0, [])), (78, (37, 3, 8, 2, 0, [])), (81, (1, 1, 2, 0, 0, [])), (82, (42, 0, 0, 0, 0, [])), (83, (10, 0, 0, 0, 0, [])), (84, (8, 0, 0, 0, 0, [])), (85, (2, 1, 1, 0, 0, [])), (86, (18, 1, 0, 0, 0, [])), (87, (37, 6, 3, 2, 0, [])), (90, (37, 2, 0, 2, 0, [])), (93, (1, 1, 2, 0, 0, [])), (94, (18, 1, 0, 0, 0, [])), (95, (37, 6, 9, 2, 0, [])), (98, (37, 0, 5, 0, 0, [])), (101, (46, 0, 0, 0, 0, [])), (102, (18, 1, 0, 0, 0, [])), (103, (37, 6, 3, 2, 0, [])), (106, (37, 2, 1, 2, 0, [])), (109, (1, 1, 2, 0, 0, [])), (110, (18, 1, 0, 0, 0, [])), (111, (37, 6, 9, 2, 0, [])), (114, (37, 0, 6, 0, 0, [])), (117, (46, 0, 0, 0, 0, [])), (118, (18, 1, 0, 0, 0, [])), (119, (37, 6, 3, 2, 0, [])), (122, (37, 2, 2, 2, 0, [])), (125, (1, 1, 2, 0, 0, [])), (126, (35, 0, 0, 0, 0, [])), (127, (42, 0, 0, 0, 0, [])), (128, (18, 1, 0, 0, 0, [])), (129, (37, 6, 9, 2, 0, [])), (132, (37, 0, 7, 0, 0, [])), (135, (4, 0, 0, 0, 0, [])), (136, (46, 0, 0, 0, 0, [])), (137, (3, 2, 0, 0, 1, [])), (140, (13, 40, 0, 0, 0, [])), (143, (18, 1, 0, 0, 0, [])), (144, (37, 6, 3, 2, 0, [])), (147, (34, 0, 0, 0, 0, [])), (148, (37, 2, 4, 0, 0, [])), (151, (0, 1, 0, 0, 1, [])), (152, (4, 0, 0, 0, 0, [])), (153, (38, 2, 4, 0, 0, [])), (156, (18, 1, 0, 0, 0, [])), (157, (37, 6, 3, 2, 0, [])), (160, (1, 1, 1, 0, 0, [])), (161, (38, 2, 5, 0, 0, [])), (164, (18, 1, 0, 0, 0, [])), (165, (1, 1, 1, 0, 0, [])), (166, (51, 105, 6, 1, 0, [])), (169, (54, 0, 0, 0, 0, []))]
set_option maxRecDepth 20000 in
theorem ceX6_day {l : Launch} {X : Nat × (Nat → Int32)} {d : Nat} : tbX6_day l X d = ctb l X d U0 cdX6_day := cec (cp18) <| cec (cp51 u0_108) <| cec (cp14_1) <| cec (cp18) <| cec (cp0 io_1_1) <| cec (cp51 u0_106) <| cec (cp54) <| cec (cp18) <| cec (cp37) <| cec (cp37) <| cec (cp0 io_33_999) <| cec (cp15_2) <| cec (cp18) <| cec (cp0 io_11_3) <| cec (cp51 u0_106) <| cec (cp54) <| cec (cp18) <| cec (cp51 u0_145) <| cec (cp0 io_0_0) <| cec (cp2) <| cec (cp0 io_0_0) <| cec (cp2) <| cec (cp1) <| cec (cp18) <| cec (cp37) <| cec (cp37) <| cec (cp15_3) <| cec (cp18) <| cec (cp1) <| cec (cp18) <| cec (cp1) <| cec (cp51 u0_114) <| cec (cp51 u0_121) <| cec (cp18) <| cec (cp37) <| cec (cp0 io_0_0) <| cec (cp51 u0_1) <| cec (cp14_0) <| cec (cp1) <| cec (cp0 io_1_1) <| cec (cp18) <| cec (cp37) <| cec (cp37) <| cec (cp1) <| cec (cp42) <| cec (cp10) <| cec (cp8) <| cec (cp2) <| cec (cp18) <| cec (cp37) <| cec (cp37) <| cec (cp1) <| cec (cp18) <| cec (cp37) <| cec (cp37) <| cec (cp46) <| cec (cp18) <| cec (cp37) <| cec (cp37) <| cec (cp1) <| cec (cp18) <| cec (cp37) <| cec (cp37) <| cec (cp46) <| cec (cp18) <| cec (cp37) <| cec (cp37) <| cec (cp1) <| cec (cp35) <| cec (cp42) <| cec (cp18) <| cec (cp37) <| cec (cp37) <| cec (cp4) <| cec (cp46) <| cec (cp3 io_1_1) <| cec (cp13) <| cec (cp18) <| cec (cp37) <| cec (cp34) <| cec (cp37) <| cec (cp0 io_1_1) <| cec (cp4) <| cec (cp38) <| cec (cp18) <| cec (cp37) <| cec (cp1) <| cec (cp38) <| cec (cp18) <| cec (cp1) <| cec (cp51 u0_105) <| cec (cp54) <| cen
noncomputable def cdX6_give : List (Nat × Cd) := [(0, (18, 1, 0, 0, 0, [])), (1, (1, 1, 1, 0, 0, [])), (2, (51, 110, 6, 1, 0, [])), (5, (14, 16, 0, 0, 0, [])), (8, (18, 1, 0, 0, 0, [])), (9, (1, 1, 2, 0, 0, [])), (10, (51, 109, 6, 1, 0, [])), (13, (14, 22, 1, 0, 0, [])), (16, (18, 1, 0, 0, 0, [])), (17, (0, 1, 0, 0, 1, [])), (18, (51, 106, 6, 1, 0, [])), (21, (54, 0, 0, 0, 0, [])), (22, (18, 1, 0, 0, 0, [])), (23, (1, 1, 2, 0, 0, [])), (24, (51, 114, 6, 1, 0, [])), (27, (0, 2, 0, 0, (-2), [])), (29, (15, 43, 1, 0, 0, [])), (32, (18, 1, 0, 0, 0, [])), (33, (37, 6, 3, 2, 0, [])), (36, (1, 1, 2, 0, 0, [])), (37, (51, 11, 2, 1, 0, [])), (40, (14, 49, 0, 0, 0, [])), (43, (18, 1, 0, 0, 0, [])), (44, (0, 1, 0, 0, 5, [])), (45, (51, 106, 6, 1, 0, [])), (48, (54, 0, 0, 0, 0, [])), (49, (18, 1, 0, 0, 0, [])), (50, (51, 145, 6, 0, 0, [])), (53, (18, 1, 0, 0, 0, [])), (54, (37, 6, 3, 2, 0, [])), (57, (37, 2, 3, 2, 0, [])), (60, (1, 1, 1, 0, 0, [])), (61, (42, 0, 0, 0, 0, [])), (62, (2, 1, 3, 0, 0, [])), (63, (18, 1, 0, 0, 0, [])), (64, (37, 6, 3, 2, 0, [])), (67, (37, 2, 3, 2, 0, [])), (70, (1, 1, 1, 0, 0, [])), (71, (1, 1, 2, 0, 0, [])), (72, (46, 0, 0, 0, 0, [])), (73, (18, 1, 0, 0, 0, [])), (74, (1, 1, 3, 0, 0, [])), (75, (51, 105, 6, 1, 0, [])), (78, (54, 0, 0, 0, 0, []))]
set_option maxRecDepth 20000 in
theorem ceX6_give {l : Launch} {X : Nat × (Nat → Int32)} {d : Nat} : tbX6_give l X d = ctb l X d U0 cdX6_give := cec (cp18) <| cec (cp1) <| cec (cp51 u0_110) <| cec (cp14_0) <| cec (cp18) <| cec (cp1) <| cec (cp51 u0_109) <| cec (cp14_1) <| cec (cp18) <| cec (cp0 io_1_1) <| cec (cp51 u0_106) <| cec (cp54) <| cec (cp18) <| cec (cp1) <| cec (cp51 u0_114) <| cec (cp0 io_3_m2) <| cec (cp15_1) <| cec (cp18) <| cec (cp37) <| cec (cp1) <| cec (cp51 u0_11) <| cec (cp14_0) <| cec (cp18) <| cec (cp0 io_5_5) <| cec (cp51 u0_106) <| cec (cp54) <| cec (cp18) <| cec (cp51 u0_145) <| cec (cp18) <| cec (cp37) <| cec (cp37) <| cec (cp1) <| cec (cp42) <| cec (cp2) <| cec (cp18) <| cec (cp37) <| cec (cp37) <| cec (cp1) <| cec (cp1) <| cec (cp46) <| cec (cp18) <| cec (cp1) <| cec (cp51 u0_105) <| cec (cp54) <| cen
noncomputable def cdX6_mend : List (Nat × Cd) := [(0, (18, 1, 0, 0, 0, [])), (1, (1, 1, 1, 0, 0, [])), (2, (51, 109, 6, 1, 0, [])), (5, (14, 16, 1, 0, 0, [])), (8, (18, 1, 0, 0, 0, [])), (9, (0, 1, 0, 0, 1, [])), (10, (51, 106, 6, 1, 0, [])), (13, (36, 0, 0, 0, 0, [])), (14, (0, 1, 0, 0, 0, [])), (15, (55, 0, 0, 0, 0, [])), (16, (18, 1, 0, 0, 0, [])), (17, (37, 6, 3, 2, 0, [])), (20, (37, 2, 0, 2, 0, [])), (23, (1, 1, 1, 0, 0, [])), (24, (42, 0, 0, 0, 0, [])), (25, (18, 1, 0, 0, 0, [])), (26, (37, 6, 1, 2, 0, [])), (29, (37, 3, 6, 2, 0, [])), (32, (1, 1, 1, 0, 0, [])), (33, (42, 0, 0, 0, 0, [])), (34, (15, 53, 1, 0, 0, [])), (37, (18, 1, 0, 0, 0, [])), (38, (37, 6, 3, 2, 0, [])), (41, (37, 2, 1, 2, 0, [])), (44, (1, 1, 1, 0, 0, [])), (45, (42, 0, 0, 0, 0, [])), (46, (14, 53, 1, 0, 0, [])), (49, (0, 1, 0, 0, 1, [])), (50, (13, 54, 0, 0, 0, [])), (53, (0, 1, 0, 0, 0, [])), (54, (2, 1, 2, 0, 0, [])), (55, (18, 1, 0, 0, 0, [])), (56, (37, 6, 3, 2, 0, [])), (59, (1, 1, 1, 0, 0, [])), (60, (51, 11, 2, 1, 0, [])), (63, (14, 70, 1, 0, 0, [])), (66, (1, 1, 2, 0, 0, [])), (67, (14, 78, 0, 0, 0, [])), (70, (18, 1, 0, 0, 0, [])), (71, (0, 1, 0, 0, 5, [])), (72, (51, 106, 6, 1, 0, [])), (75, (36, 0, 0, 0, 0, [])), (76, (0, 1, 0, 0, 0, [])), (77, (55, 0, 0, 0, 0, [])), (78, (18, 1, 0, 0, 0, [])), (79, (51, 145, 6, 0, 0, [])), (82, (18, 1, 0, 0, 0, [])), (83, (37, 6, 3, 2, 0, [])), (86, (37, 2, 0, 2, 0, [])), (89, (1, 1, 1, 0, 0, [])), (90, (18, 1, 0, 0, 0, [])), (91, (37, 6, 1, 2, 0, [])), (94, (37, 3, 6, 2, 0, [])), (97, (1, 1, 1, 0, 0, [])), (98, (42, 0, 0, 0, 0, [])), (99, (46, 0, 0, 0, 0, [])), (100, (18, 1, 0, 0, 0, [])), (101, (37, 6, 3, 2, 0, [])), (104, (37, 2, 1, 2, 0, [])), (107, (1, 1, 1, 0, 0, [])), (108, (0, 1, 0, 0, 0, [])), (109, (46, 0, 0, 0, 0, [])), (110, (18, 1, 0, 0, 0, [])), (111, (0, 1, 0, 0, 0, [])), (112, (51, 105, 6, 1, 0, [])), (115, (36, 0, 0, 0, 0, [])), (116, (0, 1, 0, 0, 1, [])), (117, (55, 0, 0, 0, 0, []))]
set_option maxRecDepth 20000 in
theorem ceX6_mend {l : Launch} {X : Nat × (Nat → Int32)} {d : Nat} : tbX6_mend l X d = ctb l X d U0 cdX6_mend := cec (cp18) <| cec (cp1) <| cec (cp51 u0_109) <| cec (cp14_1) <| cec (cp18) <| cec (cp0 io_1_1) <| cec (cp51 u0_106) <| cec (cp36) <| cec (cp0 io_0_0) <| cec (cp55) <| cec (cp18) <| cec (cp37) <| cec (cp37) <| cec (cp1) <| cec (cp42) <| cec (cp18) <| cec (cp37) <| cec (cp37) <| cec (cp1) <| cec (cp42) <| cec (cp15_1) <| cec (cp18) <| cec (cp37) <| cec (cp37) <| cec (cp1) <| cec (cp42) <| cec (cp14_1) <| cec (cp0 io_1_1) <| cec (cp13) <| cec (cp0 io_0_0) <| cec (cp2) <| cec (cp18) <| cec (cp37) <| cec (cp1) <| cec (cp51 u0_11) <| cec (cp14_1) <| cec (cp1) <| cec (cp14_0) <| cec (cp18) <| cec (cp0 io_5_5) <| cec (cp51 u0_106) <| cec (cp36) <| cec (cp0 io_0_0) <| cec (cp55) <| cec (cp18) <| cec (cp51 u0_145) <| cec (cp18) <| cec (cp37) <| cec (cp37) <| cec (cp1) <| cec (cp18) <| cec (cp37) <| cec (cp37) <| cec (cp1) <| cec (cp42) <| cec (cp46) <| cec (cp18) <| cec (cp37) <| cec (cp37) <| cec (cp1) <| cec (cp0 io_0_0) <| cec (cp46) <| cec (cp18) <| cec (cp0 io_0_0) <| cec (cp51 u0_105) <| cec (cp36) <| cec (cp0 io_1_1) <| cec (cp55) <| cen
noncomputable def cdX6_vex : List (Nat × Cd) := [(0, (18, 1, 0, 0, 0, [])), (1, (1, 1, 1, 0, 0, [])), (2, (51, 109, 6, 1, 0, [])), (5, (14, 14, 1, 0, 0, [])), (8, (18, 1, 0, 0, 0, [])), (9, (0, 1, 0, 0, 1, [])), (10, (51, 106, 6, 1, 0, [])), (13, (54, 0, 0, 0, 0, [])), (14, (1, 1, 2, 0, 0, [])), (15, (0, 1, 0, 0, 1, [])), (16, (0, 2, 0, 0, 99, [])), (18, (52, 107, 0, 3, 0, [])), (21, (14, 30, 1, 0, 0, [])), (24, (18, 1, 0, 0, 0, [])), (25, (0, 1, 0, 0, 2, [])), (26, (51, 106, 6, 1, 0, [])), (29, (54, 0, 0, 0, 0, [])), (30, (18, 1, 0, 0, 0, [])), (31, (37, 6, 3, 2, 0, [])), (34, (1, 1, 1, 0, 0, [])), (35, (51, 11, 2, 1, 0, [])), (38, (14, 47, 0, 0, 0, [])), (41, (18, 1, 0, 0, 0, [])), (42, (0, 1, 0, 0, 5, [])), (43, (51, 106, 6, 1, 0, [])), (46, (54, 0, 0, 0, 0, [])), (47, (18, 1, 0, 0, 0, [])), (48, (37, 6, 3, 2, 0, [])), (51, (37, 2, 1, 2, 0, [])), (54, (1, 1, 1, 0, 0, [])), (55, (42, 0, 0, 0, 0, [])), (56, (1, 1, 2, 0, 0, [])), (57, (4, 0, 0, 0, 0, [])), (58, (0, 3, 0, 0, 999, [])), (61, (15, 70, 5, 0, 0, [])), (64, (18, 1, 0, 0, 0, [])), (65, (0, 1, 0, 0, 3, [])), (66, (51, 106, 6, 1, 0, [])), (69, (54, 0, 0, 0, 0, [])), (70, (18, 1, 0, 0, 0, [])), (71, (51, 145, 6, 0, 0, [])), (74, (18, 1, 0, 0, 0, [])), (75, (37, 6, 3, 2, 0, [])), (78, (37, 2, 1, 2, 0, [])), (81, (1, 1, 1, 0, 0, [])), (82, (35, 0, 0, 0, 0, [])), (83, (42, 0, 0, 0, 0, [])), (84, (1, 1, 2, 0, 0, [])), (85, (4, 0, 0, 0, 0, [])), (86, (46, 0, 0, 0, 0, [])), (87, (18, 1, 0, 0, 0, [])), (88, (18, 1, 0, 0, 0, [])), (89, (37, 6, 3, 2, 0, [])), (92, (37, 2, 1, 2, 0, [])), (95, (1, 1, 1, 0, 0, [])), (96, (42, 0, 0, 0, 0, [])), (97, (51, 105, 6, 1, 0, [])), (100, (54, 0, 0, 0, 0, []))]
set_option maxRecDepth 20000 in
theorem ceX6_vex {l : Launch} {X : Nat × (Nat → Int32)} {d : Nat} : tbX6_vex l X d = ctb l X d U0 cdX6_vex := cec (cp18) <| cec (cp1) <| cec (cp51 u0_109) <| cec (cp14_1) <| cec (cp18) <| cec (cp0 io_1_1) <| cec (cp51 u0_106) <| cec (cp54) <| cec (cp1) <| cec (cp0 io_1_1) <| cec (cp0 io_23_99) <| cec (cp52 u0_107) <| cec (cp14_1) <| cec (cp18) <| cec (cp0 io_2_2) <| cec (cp51 u0_106) <| cec (cp54) <| cec (cp18) <| cec (cp37) <| cec (cp1) <| cec (cp51 u0_11) <| cec (cp14_0) <| cec (cp18) <| cec (cp0 io_5_5) <| cec (cp51 u0_106) <| cec (cp54) <| cec (cp18) <| cec (cp37) <| cec (cp37) <| cec (cp1) <| cec (cp42) <| cec (cp1) <| cec (cp4) <| cec (cp0 io_33_999) <| cec (cp15_5) <| cec (cp18) <| cec (cp0 io_11_3) <| cec (cp51 u0_106) <| cec (cp54) <| cec (cp18) <| cec (cp51 u0_145) <| cec (cp18) <| cec (cp37) <| cec (cp37) <| cec (cp1) <| cec (cp35) <| cec (cp42) <| cec (cp1) <| cec (cp4) <| cec (cp46) <| cec (cp18) <| cec (cp18) <| cec (cp37) <| cec (cp37) <| cec (cp1) <| cec (cp42) <| cec (cp51 u0_105) <| cec (cp54) <| cen
noncomputable def cdX6_undo : List (Nat × Cd) := [(0, (18, 1, 0, 0, 0, [])), (1, (37, 6, 6, 0, 0, [])), (4, (14, 16, 1, 0, 0, [])), (7, (18, 1, 0, 0, 0, [])), (8, (0, 2, 0, 0, 6, [])), (10, (51, 106, 6, 1, 0, [])), (13, (36, 0, 0, 0, 0, [])), (14, (0, 1, 0, 0, 0, [])), (15, (55, 0, 0, 0, 0, [])), (16, (18, 1, 0, 0, 0, [])), (17, (18, 1, 0, 0, 0, [])), (18, (37, 6, 5, 0, 0, [])), (21, (0, 2, 0, 0, 16, [])), (23, (4, 0, 0, 0, 0, [])), (24, (0, 1, 0, 0, 1, [])), (25, (5, 0, 0, 0, 0, [])), (26, (0, 2, 0, 0, 16, [])), (28, (22, 0, 0, 0, 0, [])), (29, (38, 6, 5, 0, 0, [])), (32, (18, 1, 0, 0, 0, [])), (33, (34, 0, 0, 0, 0, [])), (34, (37, 6, 6, 0, 0, [])), (37, (0, 1, 0, 0, 1, [])), (38, (5, 0, 0, 0, 0, [])), (39, (38, 6, 6, 0, 0, [])), (42, (18, 1, 0, 0, 0, [])), (43, (37, 6, 3, 2, 0, [])), (46, (18, 1, 0, 0, 0, [])), (47, (37, 6, 4, 2, 0, [])), (50, (18, 1, 0, 0, 0, [])), (51, (37, 6, 5, 0, 0, [])), (54, (45, 11, 0, 0, 0, [])), (55, (51, 10, 2, 1, 0, [])), (58, (18, 1, 0, 0, 0, [])), (59, (0, 1, 0, 0, 0, [])), (60, (51, 105, 6, 1, 0, [])), (63, (36, 0, 0, 0, 0, [])), (64, (0, 1, 0, 0, 1, [])), (65, (55, 0, 0, 0, 0, []))]
set_option maxRecDepth 20000 in
theorem ceX6_undo {l : Launch} {X : Nat × (Nat → Int32)} {d : Nat} : tbX6_undo l X d = ctb l X d U0 cdX6_undo := cec (cp18) <| cec (cp37) <| cec (cp14_1) <| cec (cp18) <| cec (cp0 io_7_6) <| cec (cp51 u0_106) <| cec (cp36) <| cec (cp0 io_0_0) <| cec (cp55) <| cec (cp18) <| cec (cp18) <| cec (cp37) <| cec (cp0 io_34_16) <| cec (cp4) <| cec (cp0 io_1_1) <| cec (cp5) <| cec (cp0 io_34_16) <| cec (cp22) <| cec (cp38) <| cec (cp18) <| cec (cp34) <| cec (cp37) <| cec (cp0 io_1_1) <| cec (cp5) <| cec (cp38) <| cec (cp18) <| cec (cp37) <| cec (cp18) <| cec (cp37) <| cec (cp18) <| cec (cp37) <| cec (cp45) <| cec (cp51 u0_10) <| cec (cp18) <| cec (cp0 io_0_0) <| cec (cp51 u0_105) <| cec (cp36) <| cec (cp0 io_1_1) <| cec (cp55) <| cen
noncomputable def cdX6_image : List (Nat × Cd) := [(0, (18, 1, 0, 0, 0, [])), (1, (51, 108, 6, 0, 0, [])), (4, (14, 13, 1, 0, 0, [])), (7, (18, 1, 0, 0, 0, [])), (8, (0, 1, 0, 0, 1, [])), (9, (51, 106, 6, 1, 0, [])), (12, (54, 0, 0, 0, 0, [])), (13, (18, 1, 0, 0, 0, [])), (14, (37, 6, 8, 0, 0, [])), (17, (0, 1, 0, 0, 3, [])), (18, (15, 27, 2, 0, 0, [])), (21, (18, 1, 0, 0, 0, [])), (22, (0, 1, 0, 0, 3, [])), (23, (51, 106, 6, 1, 0, [])), (26, (54, 0, 0, 0, 0, [])), (27, (18, 1, 0, 0, 0, [])), (28, (37, 6, 7, 2, 0, [])), (31, (18, 1, 0, 0, 0, [])), (32, (37, 6, 8, 0, 0, [])), (35, (45, 11, 0, 0, 0, [])), (36, (18, 1, 0, 0, 0, [])), (37, (37, 6, 3, 2, 0, [])), (40, (51, 10, 2, 1, 0, [])), (43, (18, 1, 0, 0, 0, [])), (44, (34, 0, 0, 0, 0, [])), (45, (37, 6, 8, 0, 0, [])), (48, (0, 1, 0, 0, 1, [])), (49, (4, 0, 0, 0, 0, [])), (50, (38, 6, 8, 0, 0, [])), (53, (18, 1, 0, 0, 0, [])), (54, (18, 1, 0, 0, 0, [])), (55, (37, 6, 8, 0, 0, [])), (58, (0, 1, 0, 0, 1, [])), (59, (5, 0, 0, 0, 0, [])), (60, (51, 105, 6, 1, 0, [])), (63, (54, 0, 0, 0, 0, []))]
set_option maxRecDepth 20000 in
theorem ceX6_image {l : Launch} {X : Nat × (Nat → Int32)} {d : Nat} : tbX6_image l X d = ctb l X d U0 cdX6_image := cec (cp18) <| cec (cp51 u0_108) <| cec (cp14_1) <| cec (cp18) <| cec (cp0 io_1_1) <| cec (cp51 u0_106) <| cec (cp54) <| cec (cp18) <| cec (cp37) <| cec (cp0 io_11_3) <| cec (cp15_2) <| cec (cp18) <| cec (cp0 io_11_3) <| cec (cp51 u0_106) <| cec (cp54) <| cec (cp18) <| cec (cp37) <| cec (cp18) <| cec (cp37) <| cec (cp45) <| cec (cp18) <| cec (cp37) <| cec (cp51 u0_10) <| cec (cp18) <| cec (cp34) <| cec (cp37) <| cec (cp0 io_1_1) <| cec (cp4) <| cec (cp38) <| cec (cp18) <| cec (cp18) <| cec (cp37) <| cec (cp0 io_1_1) <| cec (cp5) <| cec (cp51 u0_105) <| cec (cp54) <| cen
noncomputable def cdX6_back : List (Nat × Cd) := [(0, (1, 1, 1, 0, 0, [])), (1, (14, 12, 2, 0, 0, [])), (4, (1, 1, 1, 0, 0, [])), (5, (18, 1, 0, 0, 0, [])), (6, (37, 6, 8, 0, 0, [])), (9, (15, 20, 2, 0, 0, [])), (12, (18, 1, 0, 0, 0, [])), (13, (0, 1, 0, 0, 1, [])), (14, (51, 106, 6, 1, 0, [])), (17, (36, 0, 0, 0, 0, [])), (18, (0, 1, 0, 0, 0, [])), (19, (55, 0, 0, 0, 0, [])), (20, (18, 1, 0, 0, 0, [])), (21, (37, 6, 3, 2, 0, [])), (24, (18, 1, 0, 0, 0, [])), (25, (37, 6, 7, 2, 0, [])), (28, (1, 1, 1, 0, 0, [])), (29, (45, 11, 0, 0, 0, [])), (30, (51, 10, 2, 1, 0, [])), (33, (18, 1, 0, 0, 0, [])), (34, (0, 1, 0, 0, 0, [])), (35, (38, 6, 6, 0, 0, [])), (38, (18, 1, 0, 0, 0, [])), (39, (0, 1, 0, 0, 0, [])), (40, (51, 105, 6, 1, 0, [])), (43, (36, 0, 0, 0, 0, [])), (44, (0, 1, 0, 0, 1, [])), (45, (55, 0, 0, 0, 0, []))]
set_option maxRecDepth 20000 in
theorem ceX6_back {l : Launch} {X : Nat × (Nat → Int32)} {d : Nat} : tbX6_back l X d = ctb l X d U0 cdX6_back := cec (cp1) <| cec (cp14_2) <| cec (cp1) <| cec (cp18) <| cec (cp37) <| cec (cp15_2) <| cec (cp18) <| cec (cp0 io_1_1) <| cec (cp51 u0_106) <| cec (cp36) <| cec (cp0 io_0_0) <| cec (cp55) <| cec (cp18) <| cec (cp37) <| cec (cp18) <| cec (cp37) <| cec (cp1) <| cec (cp45) <| cec (cp51 u0_10) <| cec (cp18) <| cec (cp0 io_0_0) <| cec (cp38) <| cec (cp18) <| cec (cp0 io_0_0) <| cec (cp51 u0_105) <| cec (cp36) <| cec (cp0 io_1_1) <| cec (cp55) <| cen
noncomputable def cdX6_size : List (Nat × Cd) := [(0, (1, 1, 1, 0, 0, [])), (1, (16, 166, 0, 0, 0, [68, 76, 84, 92, 100, 108, 116, 124, 132, 140, 148, 153, 158])), (68, (18, 1, 0, 0, 0, [])), (69, (37, 6, 1, 2, 0, [])), (72, (37, 3, 0, 0, 0, [])), (75, (54, 0, 0, 0, 0, [])), (76, (18, 1, 0, 0, 0, [])), (77, (37, 6, 1, 2, 0, [])), (80, (37, 3, 1, 0, 0, [])), (83, (54, 0, 0, 0, 0, [])), (84, (18, 1, 0, 0, 0, [])), (85, (37, 6, 1, 2, 0, [])), (88, (37, 3, 2, 0, 0, [])), (91, (54, 0, 0, 0, 0, [])), (92, (18, 1, 0, 0, 0, [])), (93, (37, 6, 1, 2, 0, [])), (96, (51, 15, 3, 0, 0, [])), (99, (54, 0, 0, 0, 0, [])), (100, (18, 1, 0, 0, 0, [])), (101, (37, 6, 1, 2, 0, [])), (104, (37, 3, 4, 0, 0, [])), (107, (54, 0, 0, 0, 0, [])), (108, (18, 1, 0, 0, 0, [])), (109, (37, 6, 1, 2, 0, [])), (112, (37, 3, 10, 0, 0, [])), (115, (54, 0, 0, 0, 0, [])), (116, (18, 1, 0, 0, 0, [])), (117, (37, 6, 1, 2, 0, [])), (120, (37, 3, 14, 0, 0, [])), (123, (54, 0, 0, 0, 0, [])), (124, (18, 1, 0, 0, 0, [])), (125, (37, 6, 1, 2, 0, [])), (128, (37, 3, 17, 0, 0, [])), (131, (54, 0, 0, 0, 0, [])), (132, (18, 1, 0, 0, 0, [])), (133, (37, 6, 1, 2, 0, [])), (136, (51, 21, 3, 0, 0, [])), (139, (54, 0, 0, 0, 0, [])), (140, (18, 1, 0, 0, 0, [])), (141, (37, 6, 3, 2, 0, [])), (144, (37, 2, 4, 0, 0, [])), (147, (54, 0, 0, 0, 0, [])), (148, (18, 1, 0, 0, 0, [])), (149, (37, 6, 6, 0, 0, [])), (152, (54, 0, 0, 0, 0, [])), (153, (18, 1, 0, 0, 0, [])), (154, (37, 6, 8, 0, 0, [])), (157, (54, 0, 0, 0, 0, [])), (158, (18, 1, 0, 0, 0, [])), (159, (37, 6, 0, 2, 0, [])), (162, (37, 4, 1, 0, 0, [])), (165, (54, 0, 0, 0, 0, [])), (166, (0, 1, 0, 0, (-1), [])), (167, (54, 0, 0, 0, 0, []))]
set_option maxRecDepth 20000 in
theorem ceX6_size {l : Launch} {X : Nat × (Nat → Int32)} {d : Nat} : tbX6_size l X d = ctb l X d U0 cdX6_size := cec (cp1) <| cec (cp16) <| cec (cp18) <| cec (cp37) <| cec (cp37) <| cec (cp54) <| cec (cp18) <| cec (cp37) <| cec (cp37) <| cec (cp54) <| cec (cp18) <| cec (cp37) <| cec (cp37) <| cec (cp54) <| cec (cp18) <| cec (cp37) <| cec (cp51 u0_15) <| cec (cp54) <| cec (cp18) <| cec (cp37) <| cec (cp37) <| cec (cp54) <| cec (cp18) <| cec (cp37) <| cec (cp37) <| cec (cp54) <| cec (cp18) <| cec (cp37) <| cec (cp37) <| cec (cp54) <| cec (cp18) <| cec (cp37) <| cec (cp37) <| cec (cp54) <| cec (cp18) <| cec (cp37) <| cec (cp51 u0_21) <| cec (cp54) <| cec (cp18) <| cec (cp37) <| cec (cp37) <| cec (cp54) <| cec (cp18) <| cec (cp37) <| cec (cp54) <| cec (cp18) <| cec (cp37) <| cec (cp54) <| cec (cp18) <| cec (cp37) <| cec (cp37) <| cec (cp54) <| cec (cp0 io_6_m1) <| cec (cp54) <| cen
noncomputable def cdX6_trouble : List (Nat × Cd) := [(0, (18, 1, 0, 0, 0, [])), (1, (37, 6, 13, 0, 0, [])), (4, (54, 0, 0, 0, 0, []))]
set_option maxRecDepth 20000 in
theorem ceX6_trouble {l : Launch} {X : Nat × (Nat → Int32)} {d : Nat} : tbX6_trouble l X d = ctb l X d U0 cdX6_trouble := cec (cp18) <| cec (cp37) <| cec (cp54) <| cen
noncomputable def cdX6_answer : List (Nat × Cd) := [(0, (18, 1, 0, 0, 0, [])), (1, (0, 1, 0, 0, 0, [])), (2, (38, 6, 13, 0, 0, [])), (5, (1, 1, 1, 0, 0, [])), (6, (54, 0, 0, 0, 0, []))]
set_option maxRecDepth 20000 in
theorem ceX6_answer {l : Launch} {X : Nat × (Nat → Int32)} {d : Nat} : tbX6_answer l X d = ctb l X d U0 cdX6_answer := cec (cp18) <| cec (cp0 io_0_0) <| cec (cp38) <| cec (cp1) <| cec (cp54) <| cen
noncomputable def cdX6_refuse : List (Nat × Cd) := [(0, (18, 1, 0, 0, 0, [])), (1, (1, 1, 1, 0, 0, [])), (2, (38, 6, 13, 0, 0, [])), (5, (0, 1, 0, 0, (-1), [])), (6, (54, 0, 0, 0, 0, []))]
set_option maxRecDepth 20000 in
theorem ceX6_refuse {l : Launch} {X : Nat × (Nat → Int32)} {d : Nat} : tbX6_refuse l X d = ctb l X d U0 cdX6_refuse := cec (cp18) <| cec (cp1) <| cec (cp38) <| cec (cp0 io_6_m1) <| cec (cp54) <| cen
noncomputable def cdX6_within : List (Nat × Cd) := [(0, (1, 1, 0, 0, 0, [])), (1, (1, 1, 1, 0, 0, [])), (2, (15, 14, 2, 0, 0, [])), (5, (1, 1, 0, 0, 0, [])), (6, (1, 1, 2, 0, 0, [])), (7, (15, 14, 4, 0, 0, [])), (10, (0, 1, 0, 0, 1, [])), (11, (13, 15, 0, 0, 0, [])), (14, (0, 1, 0, 0, 0, [])), (15, (55, 0, 0, 0, 0, []))]
set_option maxRecDepth 20000 in
theorem ceX6_within {l : Launch} {X : Nat × (Nat → Int32)} {d : Nat} : tbX6_within l X d = ctb l X d U0 cdX6_within := cec (cp1) <| cec (cp1) <| cec (cp15_2) <| cec (cp1) <| cec (cp1) <| cec (cp15_4) <| cec (cp0 io_1_1) <| cec (cp13) <| cec (cp0 io_0_0) <| cec (cp55) <| cen
noncomputable def cdX6_hasClose : List (Nat × Cd) := [(0, (18, 1, 0, 0, 0, [])), (1, (37, 6, 1, 2, 0, [])), (4, (37, 3, 4, 0, 0, [])), (7, (14, 14, 5, 0, 0, [])), (10, (0, 1, 0, 0, 1, [])), (11, (13, 15, 0, 0, 0, [])), (14, (0, 1, 0, 0, 0, [])), (15, (55, 0, 0, 0, 0, []))]
set_option maxRecDepth 20000 in
theorem ceX6_hasClose {l : Launch} {X : Nat × (Nat → Int32)} {d : Nat} : tbX6_hasClose l X d = ctb l X d U0 cdX6_hasClose := cec (cp18) <| cec (cp37) <| cec (cp37) <| cec (cp14_5) <| cec (cp0 io_1_1) <| cec (cp13) <| cec (cp0 io_0_0) <| cec (cp55) <| cen
noncomputable def cdX6_isFace : List (Nat × Cd) := [(0, (1, 1, 1, 0, 0, [])), (1, (14, 19, 2, 0, 0, [])), (4, (1, 1, 1, 0, 0, [])), (5, (18, 1, 0, 0, 0, [])), (6, (37, 6, 1, 2, 0, [])), (9, (37, 3, 4, 0, 0, [])), (12, (15, 19, 3, 0, 0, [])), (15, (0, 1, 0, 0, 1, [])), (16, (13, 20, 0, 0, 0, [])), (19, (0, 1, 0, 0, 0, [])), (20, (55, 0, 0, 0, 0, []))]
set_option maxRecDepth 20000 in
theorem ceX6_isFace {l : Launch} {X : Nat × (Nat → Int32)} {d : Nat} : tbX6_isFace l X d = ctb l X d U0 cdX6_isFace := cec (cp1) <| cec (cp14_2) <| cec (cp1) <| cec (cp18) <| cec (cp37) <| cec (cp37) <| cec (cp15_3) <| cec (cp0 io_1_1) <| cec (cp13) <| cec (cp0 io_0_0) <| cec (cp55) <| cen
noncomputable def cdX6_isCanon : List (Nat × Cd) := [(0, (1, 1, 1, 0, 0, [])), (1, (14, 19, 2, 0, 0, [])), (4, (1, 1, 1, 0, 0, [])), (5, (18, 1, 0, 0, 0, [])), (6, (37, 6, 1, 2, 0, [])), (9, (37, 3, 10, 0, 0, [])), (12, (15, 19, 3, 0, 0, [])), (15, (0, 1, 0, 0, 1, [])), (16, (13, 20, 0, 0, 0, [])), (19, (0, 1, 0, 0, 0, [])), (20, (55, 0, 0, 0, 0, []))]
set_option maxRecDepth 20000 in
theorem ceX6_isCanon {l : Launch} {X : Nat × (Nat → Int32)} {d : Nat} : tbX6_isCanon l X d = ctb l X d U0 cdX6_isCanon := cec (cp1) <| cec (cp14_2) <| cec (cp1) <| cec (cp18) <| cec (cp37) <| cec (cp37) <| cec (cp15_3) <| cec (cp0 io_1_1) <| cec (cp13) <| cec (cp0 io_0_0) <| cec (cp55) <| cen
noncomputable def cdX6_isCell : List (Nat × Cd) := [(0, (1, 1, 1, 0, 0, [])), (1, (14, 19, 2, 0, 0, [])), (4, (1, 1, 1, 0, 0, [])), (5, (18, 1, 0, 0, 0, [])), (6, (37, 6, 1, 2, 0, [])), (9, (51, 13, 3, 0, 0, [])), (12, (15, 19, 3, 0, 0, [])), (15, (0, 1, 0, 0, 1, [])), (16, (13, 20, 0, 0, 0, [])), (19, (0, 1, 0, 0, 0, [])), (20, (55, 0, 0, 0, 0, []))]
set_option maxRecDepth 20000 in
theorem ceX6_isCell {l : Launch} {X : Nat × (Nat → Int32)} {d : Nat} : tbX6_isCell l X d = ctb l X d U0 cdX6_isCell := cec (cp1) <| cec (cp14_2) <| cec (cp1) <| cec (cp18) <| cec (cp37) <| cec (cp51 u0_13) <| cec (cp15_3) <| cec (cp0 io_1_1) <| cec (cp13) <| cec (cp0 io_0_0) <| cec (cp55) <| cen
noncomputable def cdX6_isWalker : List (Nat × Cd) := [(0, (1, 1, 1, 0, 0, [])), (1, (14, 19, 2, 0, 0, [])), (4, (1, 1, 1, 0, 0, [])), (5, (18, 1, 0, 0, 0, [])), (6, (37, 6, 1, 2, 0, [])), (9, (37, 3, 14, 0, 0, [])), (12, (15, 19, 3, 0, 0, [])), (15, (0, 1, 0, 0, 1, [])), (16, (13, 20, 0, 0, 0, [])), (19, (0, 1, 0, 0, 0, [])), (20, (55, 0, 0, 0, 0, []))]
set_option maxRecDepth 20000 in
theorem ceX6_isWalker {l : Launch} {X : Nat × (Nat → Int32)} {d : Nat} : tbX6_isWalker l X d = ctb l X d U0 cdX6_isWalker := cec (cp1) <| cec (cp14_2) <| cec (cp1) <| cec (cp18) <| cec (cp37) <| cec (cp37) <| cec (cp15_3) <| cec (cp0 io_1_1) <| cec (cp13) <| cec (cp0 io_0_0) <| cec (cp55) <| cen
noncomputable def cdX6_isSeed : List (Nat × Cd) := [(0, (1, 1, 0, 0, 0, [])), (1, (14, 15, 2, 0, 0, [])), (4, (1, 1, 0, 0, 0, [])), (5, (0, 3, 0, 0, 65537, [])), (8, (15, 15, 3, 0, 0, [])), (11, (0, 1, 0, 0, 1, [])), (12, (13, 16, 0, 0, 0, [])), (15, (0, 1, 0, 0, 0, [])), (16, (55, 0, 0, 0, 0, []))]
set_option maxRecDepth 20000 in
theorem ceX6_isSeed {l : Launch} {X : Nat × (Nat → Int32)} {d : Nat} : tbX6_isSeed l X d = ctb l X d U0 cdX6_isSeed := cec (cp1) <| cec (cp14_2) <| cec (cp1) <| cec (cp0 io_35_65537) <| cec (cp15_3) <| cec (cp0 io_1_1) <| cec (cp13) <| cec (cp0 io_0_0) <| cec (cp55) <| cen
noncomputable def cdX6_canonOf : List (Nat × Cd) := [(0, (0, 1, 0, 0, 0, [])), (1, (2, 1, 2, 0, 0, [])), (2, (1, 1, 2, 0, 0, [])), (3, (18, 1, 0, 0, 0, [])), (4, (37, 6, 1, 2, 0, [])), (7, (37, 3, 10, 0, 0, [])), (10, (15, 34, 3, 0, 0, [])), (13, (18, 1, 0, 0, 0, [])), (14, (37, 6, 3, 2, 0, [])), (17, (37, 2, 3, 2, 0, [])), (20, (1, 1, 2, 0, 0, [])), (21, (42, 0, 0, 0, 0, [])), (22, (1, 1, 1, 0, 0, [])), (23, (15, 28, 1, 0, 0, [])), (26, (1, 1, 2, 0, 0, [])), (27, (54, 0, 0, 0, 0, [])), (28, (3, 2, 0, 0, 1, [])), (31, (13, 2, 0, 0, 0, [])), (34, (0, 2, 0, 0, (-2), [])), (36, (54, 0, 0, 0, 0, []))]
set_option maxRecDepth 20000 in
theorem ceX6_canonOf {l : Launch} {X : Nat × (Nat → Int32)} {d : Nat} : tbX6_canonOf l X d = ctb l X d U0 cdX6_canonOf := cec (cp0 io_0_0) <| cec (cp2) <| cec (cp1) <| cec (cp18) <| cec (cp37) <| cec (cp37) <| cec (cp15_3) <| cec (cp18) <| cec (cp37) <| cec (cp37) <| cec (cp1) <| cec (cp42) <| cec (cp1) <| cec (cp15_1) <| cec (cp1) <| cec (cp54) <| cec (cp3 io_1_1) <| cec (cp13) <| cec (cp0 io_3_m2) <| cec (cp54) <| cen
noncomputable def cdX6_canFollow : List (Nat × Cd) := [(0, (18, 1, 0, 0, 0, [])), (1, (1, 1, 1, 0, 0, [])), (2, (51, 109, 6, 1, 0, [])), (5, (14, 16, 1, 0, 0, [])), (8, (18, 1, 0, 0, 0, [])), (9, (0, 1, 0, 0, 1, [])), (10, (51, 106, 6, 1, 0, [])), (13, (36, 0, 0, 0, 0, [])), (14, (0, 1, 0, 0, 0, [])), (15, (55, 0, 0, 0, 0, [])), (16, (18, 1, 0, 0, 0, [])), (17, (1, 1, 2, 0, 0, [])), (18, (0, 1, 0, 0, 0, [])), (19, (0, 2, 0, 0, 60, [])), (21, (51, 120, 6, 3, 0, [])), (24, (55, 0, 0, 0, 0, []))]
set_option maxRecDepth 20000 in
theorem ceX6_canFollow {l : Launch} {X : Nat × (Nat → Int32)} {d : Nat} : tbX6_canFollow l X d = ctb l X d U0 cdX6_canFollow := cec (cp18) <| cec (cp1) <| cec (cp51 u0_109) <| cec (cp14_1) <| cec (cp18) <| cec (cp0 io_1_1) <| cec (cp51 u0_106) <| cec (cp36) <| cec (cp0 io_0_0) <| cec (cp55) <| cec (cp18) <| cec (cp1) <| cec (cp0 io_0_0) <| cec (cp0 io_30_60) <| cec (cp51 u0_120) <| cec (cp55) <| cen
noncomputable def cdX6_canLookAhead : List (Nat × Cd) := [(0, (18, 1, 0, 0, 0, [])), (1, (51, 108, 6, 0, 0, [])), (4, (14, 15, 1, 0, 0, [])), (7, (18, 1, 0, 0, 0, [])), (8, (0, 1, 0, 0, 1, [])), (9, (51, 106, 6, 1, 0, [])), (12, (36, 0, 0, 0, 0, [])), (13, (0, 1, 0, 0, 0, [])), (14, (55, 0, 0, 0, 0, [])), (15, (18, 1, 0, 0, 0, [])), (16, (1, 1, 1, 0, 0, [])), (17, (1, 1, 2, 0, 0, [])), (18, (1, 1, 3, 0, 0, [])), (19, (51, 120, 6, 3, 0, [])), (22, (55, 0, 0, 0, 0, []))]
set_option maxRecDepth 20000 in
theorem ceX6_canLookAhead {l : Launch} {X : Nat × (Nat → Int32)} {d : Nat} : tbX6_canLookAhead l X d = ctb l X d U0 cdX6_canLookAhead := cec (cp18) <| cec (cp51 u0_108) <| cec (cp14_1) <| cec (cp18) <| cec (cp0 io_1_1) <| cec (cp51 u0_106) <| cec (cp36) <| cec (cp0 io_0_0) <| cec (cp55) <| cec (cp18) <| cec (cp1) <| cec (cp1) <| cec (cp1) <| cec (cp51 u0_120) <| cec (cp55) <| cen
noncomputable def cdX6_canWalk : List (Nat × Cd) := [(0, (18, 1, 0, 0, 0, [])), (1, (1, 1, 1, 0, 0, [])), (2, (51, 112, 6, 1, 0, [])), (5, (14, 16, 1, 0, 0, [])), (8, (18, 1, 0, 0, 0, [])), (9, (0, 1, 0, 0, 1, [])), (10, (51, 106, 6, 1, 0, [])), (13, (36, 0, 0, 0, 0, [])), (14, (0, 1, 0, 0, 0, [])), (15, (55, 0, 0, 0, 0, [])), (16, (18, 1, 0, 0, 0, [])), (17, (1, 1, 2, 0, 0, [])), (18, (0, 1, 0, 0, 1, [])), (19, (0, 2, 0, 0, 60, [])), (21, (51, 120, 6, 3, 0, [])), (24, (55, 0, 0, 0, 0, []))]
set_option maxRecDepth 20000 in
theorem ceX6_canWalk {l : Launch} {X : Nat × (Nat → Int32)} {d : Nat} : tbX6_canWalk l X d = ctb l X d U0 cdX6_canWalk := cec (cp18) <| cec (cp1) <| cec (cp51 u0_112) <| cec (cp14_1) <| cec (cp18) <| cec (cp0 io_1_1) <| cec (cp51 u0_106) <| cec (cp36) <| cec (cp0 io_0_0) <| cec (cp55) <| cec (cp18) <| cec (cp1) <| cec (cp0 io_1_1) <| cec (cp0 io_30_60) <| cec (cp51 u0_120) <| cec (cp55) <| cen
noncomputable def cdX6_canGame : List (Nat × Cd) := [(0, (18, 1, 0, 0, 0, [])), (1, (1, 1, 1, 0, 0, [])), (2, (0, 1, 0, 0, 0, [])), (3, (0, 2, 0, 0, 9, [])), (5, (51, 116, 6, 3, 0, [])), (8, (55, 0, 0, 0, 0, []))]
set_option maxRecDepth 20000 in
theorem ceX6_canGame {l : Launch} {X : Nat × (Nat → Int32)} {d : Nat} : tbX6_canGame l X d = ctb l X d U0 cdX6_canGame := cec (cp18) <| cec (cp1) <| cec (cp0 io_0_0) <| cec (cp0 io_24_9) <| cec (cp51 u0_116) <| cec (cp55) <| cen
noncomputable def cdX6_canChance : List (Nat × Cd) := [(0, (18, 1, 0, 0, 0, [])), (1, (1, 1, 1, 0, 0, [])), (2, (51, 109, 6, 1, 0, [])), (5, (14, 16, 1, 0, 0, [])), (8, (18, 1, 0, 0, 0, [])), (9, (0, 1, 0, 0, 1, [])), (10, (51, 106, 6, 1, 0, [])), (13, (36, 0, 0, 0, 0, [])), (14, (0, 1, 0, 0, 0, [])), (15, (55, 0, 0, 0, 0, [])), (16, (18, 1, 0, 0, 0, [])), (17, (1, 1, 2, 0, 0, [])), (18, (0, 1, 0, 0, 0, [])), (19, (0, 2, 0, 0, 7, [])), (21, (51, 120, 6, 3, 0, [])), (24, (55, 0, 0, 0, 0, []))]
set_option maxRecDepth 20000 in
theorem ceX6_canChance {l : Launch} {X : Nat × (Nat → Int32)} {d : Nat} : tbX6_canChance l X d = ctb l X d U0 cdX6_canChance := cec (cp18) <| cec (cp1) <| cec (cp51 u0_109) <| cec (cp14_1) <| cec (cp18) <| cec (cp0 io_1_1) <| cec (cp51 u0_106) <| cec (cp36) <| cec (cp0 io_0_0) <| cec (cp55) <| cec (cp18) <| cec (cp1) <| cec (cp0 io_0_0) <| cec (cp0 io_22_7) <| cec (cp51 u0_120) <| cec (cp55) <| cen
noncomputable def cdX6_numberFits : List (Nat × Cd) := [(0, (1, 1, 1, 0, 0, [])), (1, (1, 1, 2, 0, 0, [])), (2, (1, 1, 3, 0, 0, [])), (3, (52, 107, 0, 3, 0, [])), (6, (14, 17, 1, 0, 0, [])), (9, (18, 1, 0, 0, 0, [])), (10, (0, 1, 0, 0, 2, [])), (11, (51, 106, 6, 1, 0, [])), (14, (36, 0, 0, 0, 0, [])), (15, (0, 1, 0, 0, 0, [])), (16, (55, 0, 0, 0, 0, [])), (17, (0, 1, 0, 0, 1, [])), (18, (55, 0, 0, 0, 0, []))]
set_option maxRecDepth 20000 in
theorem ceX6_numberFits {l : Launch} {X : Nat × (Nat → Int32)} {d : Nat} : tbX6_numberFits l X d = ctb l X d U0 cdX6_numberFits := cec (cp1) <| cec (cp1) <| cec (cp1) <| cec (cp52 u0_107) <| cec (cp14_1) <| cec (cp18) <| cec (cp0 io_2_2) <| cec (cp51 u0_106) <| cec (cp36) <| cec (cp0 io_0_0) <| cec (cp55) <| cec (cp0 io_1_1) <| cec (cp55) <| cen
noncomputable def cdX6_startNow : List (Nat × Cd) := [(0, (18, 1, 0, 0, 0, [])), (1, (37, 6, 9, 2, 0, [])), (4, (18, 1, 0, 0, 0, [])), (5, (37, 6, 1, 2, 0, [])), (8, (1, 1, 1, 0, 0, [])), (9, (1, 1, 2, 0, 0, [])), (10, (1, 1, 2, 0, 0, [])), (11, (14, 18, 3, 0, 0, [])), (14, (0, 1, 0, 0, 0, [])), (15, (13, 27, 0, 0, 0, [])), (18, (18, 1, 0, 0, 0, [])), (19, (37, 6, 1, 2, 0, [])), (22, (37, 3, 12, 2, 0, [])), (25, (1, 1, 2, 0, 0, [])), (26, (42, 0, 0, 0, 0, [])), (27, (51, 0, 0, 4, 0, [])), (30, (18, 1, 0, 0, 0, [])), (31, (37, 6, 9, 2, 0, [])), (34, (18, 1, 0, 0, 0, [])), (35, (37, 6, 3, 2, 0, [])), (38, (37, 2, 0, 2, 0, [])), (41, (1, 1, 1, 0, 0, [])), (42, (42, 0, 0, 0, 0, [])), (43, (38, 0, 5, 0, 0, [])), (46, (18, 1, 0, 0, 0, [])), (47, (37, 6, 9, 2, 0, [])), (50, (18, 1, 0, 0, 0, [])), (51, (37, 6, 3, 2, 0, [])), (54, (37, 2, 1, 2, 0, [])), (57, (1, 1, 1, 0, 0, [])), (58, (42, 0, 0, 0, 0, [])), (59, (38, 0, 6, 0, 0, [])), (62, (18, 1, 0, 0, 0, [])), (63, (37, 6, 9, 2, 0, [])), (66, (18, 1, 0, 0, 0, [])), (67, (37, 6, 3, 2, 0, [])), (70, (37, 2, 4, 0, 0, [])), (73, (38, 0, 4, 0, 0, [])), (76, (57, 0, 0, 0, 0, []))]
set_option maxRecDepth 20000 in
theorem ceX6_startNow {l : Launch} {X : Nat × (Nat → Int32)} {d : Nat} : tbX6_startNow l X d = ctb l X d U0 cdX6_startNow := cec (cp18) <| cec (cp37) <| cec (cp18) <| cec (cp37) <| cec (cp1) <| cec (cp1) <| cec (cp1) <| cec (cp14_3) <| cec (cp0 io_0_0) <| cec (cp13) <| cec (cp18) <| cec (cp37) <| cec (cp37) <| cec (cp1) <| cec (cp42) <| cec (cp51 u0_0) <| cec (cp18) <| cec (cp37) <| cec (cp18) <| cec (cp37) <| cec (cp37) <| cec (cp1) <| cec (cp42) <| cec (cp38) <| cec (cp18) <| cec (cp37) <| cec (cp18) <| cec (cp37) <| cec (cp37) <| cec (cp1) <| cec (cp42) <| cec (cp38) <| cec (cp18) <| cec (cp37) <| cec (cp18) <| cec (cp37) <| cec (cp37) <| cec (cp38) <| cec (cp57) <| cen
noncomputable def cdX6_follow : List (Nat × Cd) := [(0, (18, 1, 0, 0, 0, [])), (1, (1, 1, 1, 0, 0, [])), (2, (18, 1, 0, 0, 0, [])), (3, (1, 1, 1, 0, 0, [])), (4, (51, 114, 6, 1, 0, [])), (7, (51, 121, 6, 2, 0, [])), (10, (18, 1, 0, 0, 0, [])), (11, (37, 6, 9, 2, 0, [])), (14, (1, 1, 2, 0, 0, [])), (15, (51, 2, 0, 1, 0, [])), (18, (57, 0, 0, 0, 0, []))]
set_option maxRecDepth 20000 in
theorem ceX6_follow {l : Launch} {X : Nat × (Nat → Int32)} {d : Nat} : tbX6_follow l X d = ctb l X d U0 cdX6_follow := cec (cp18) <| cec (cp1) <| cec (cp18) <| cec (cp1) <| cec (cp51 u0_114) <| cec (cp51 u0_121) <| cec (cp18) <| cec (cp37) <| cec (cp1) <| cec (cp51 u0_2) <| cec (cp57) <| cen
noncomputable def cdX6_foretellWet : List (Nat × Cd) := [(0, (0, 1, 0, 0, 1, [])), (1, (2, 1, 2, 0, 0, [])), (2, (1, 1, 2, 0, 0, [])), (3, (1, 1, 1, 0, 0, [])), (4, (15, 20, 4, 0, 0, [])), (7, (18, 1, 0, 0, 0, [])), (8, (37, 6, 12, 2, 0, [])), (11, (1, 1, 2, 0, 0, [])), (12, (0, 1, 0, 0, 0, [])), (13, (46, 0, 0, 0, 0, [])), (14, (3, 2, 0, 0, 1, [])), (17, (13, 2, 0, 0, 0, [])), (20, (0, 1, 0, 0, 0, [])), (21, (2, 1, 2, 0, 0, [])), (22, (1, 1, 2, 0, 0, [])), (23, (18, 1, 0, 0, 0, [])), (24, (37, 6, 1, 2, 0, [])), (27, (37, 3, 4, 0, 0, [])), (30, (15, 93, 3, 0, 0, [])), (33, (18, 1, 0, 0, 0, [])), (34, (1, 1, 2, 0, 0, [])), (35, (18, 1, 0, 0, 0, [])), (36, (1, 1, 2, 0, 0, [])), (37, (51, 114, 6, 1, 0, [])), (40, (51, 121, 6, 2, 0, [])), (43, (0, 1, 0, 0, 1, [])), (44, (2, 1, 3, 0, 0, [])), (45, (1, 1, 3, 0, 0, [])), (46, (1, 1, 1, 0, 0, [])), (47, (15, 87, 4, 0, 0, [])), (50, (18, 1, 0, 0, 0, [])), (51, (37, 6, 9, 2, 0, [])), (54, (0, 1, 0, 0, 0, [])), (55, (51, 1, 0, 1, 0, [])), (58, (14, 81, 0, 0, 0, [])), (61, (18, 1, 0, 0, 0, [])), (62, (37, 6, 12, 2, 0, [])), (65, (1, 1, 3, 0, 0, [])), (66, (35, 0, 0, 0, 0, [])), (67, (42, 0, 0, 0, 0, [])), (68, (0, 1, 0, 0, 1, [])), (69, (18, 1, 0, 0, 0, [])), (70, (37, 6, 1, 2, 0, [])), (73, (37, 3, 8, 2, 0, [])), (76, (1, 1, 2, 0, 0, [])), (77, (42, 0, 0, 0, 0, [])), (78, (10, 0, 0, 0, 0, [])), (79, (8, 0, 0, 0, 0, [])), (80, (46, 0, 0, 0, 0, [])), (81, (3, 3, 0, 0, 1, [])), (84, (13, 45, 0, 0, 0, [])), (87, (3, 2, 0, 0, 1, [])), (90, (13, 22, 0, 0, 0, [])), (93, (57, 0, 0, 0, 0, []))]
set_option maxRecDepth 20000 in
theorem ceX6_foretellWet {l : Launch} {X : Nat × (Nat → Int32)} {d : Nat} : tbX6_foretellWet l X d = ctb l X d U0 cdX6_foretellWet := cec (cp0 io_1_1) <| cec (cp2) <| cec (cp1) <| cec (cp1) <| cec (cp15_4) <| cec (cp18) <| cec (cp37) <| cec (cp1) <| cec (cp0 io_0_0) <| cec (cp46) <| cec (cp3 io_1_1) <| cec (cp13) <| cec (cp0 io_0_0) <| cec (cp2) <| cec (cp1) <| cec (cp18) <| cec (cp37) <| cec (cp37) <| cec (cp15_3) <| cec (cp18) <| cec (cp1) <| cec (cp18) <| cec (cp1) <| cec (cp51 u0_114) <| cec (cp51 u0_121) <| cec (cp0 io_1_1) <| cec (cp2) <| cec (cp1) <| cec (cp1) <| cec (cp15_4) <| cec (cp18) <| cec (cp37) <| cec (cp0 io_0_0) <| cec (cp51 u0_1) <| cec (cp14_0) <| cec (cp18) <| cec (cp37) <| cec (cp1) <| cec (cp35) <| cec (cp42) <| cec (cp0 io_1_1) <| cec (cp18) <| cec (cp37) <| cec (cp37) <| cec (cp1) <| cec (cp42) <| cec (cp10) <| cec (cp8) <| cec (cp46) <| cec (cp3 io_1_1) <| cec (cp13) <| cec (cp3 io_1_1) <| cec (cp13) <| cec (cp57) <| cen
noncomputable def cdX6_wetDaysOf : List (Nat × Cd) := [(0, (18, 1, 0, 0, 0, [])), (1, (37, 6, 1, 2, 0, [])), (4, (1, 1, 1, 0, 0, [])), (5, (51, 17, 3, 1, 0, [])), (8, (2, 1, 3, 0, 0, [])), (9, (1, 1, 3, 0, 0, [])), (10, (0, 2, 0, 0, (-2), [])), (12, (15, 17, 1, 0, 0, [])), (15, (0, 1, 0, 0, 0, [])), (16, (54, 0, 0, 0, 0, [])), (17, (18, 1, 0, 0, 0, [])), (18, (1, 1, 3, 0, 0, [])), (19, (1, 1, 2, 0, 0, [])), (20, (51, 122, 6, 2, 0, [])), (23, (18, 1, 0, 0, 0, [])), (24, (37, 6, 9, 2, 0, [])), (27, (37, 0, 7, 0, 0, [])), (30, (54, 0, 0, 0, 0, []))]
set_option maxRecDepth 20000 in
theorem ceX6_wetDaysOf {l : Launch} {X : Nat × (Nat → Int32)} {d : Nat} : tbX6_wetDaysOf l X d = ctb l X d U0 cdX6_wetDaysOf := cec (cp18) <| cec (cp37) <| cec (cp1) <| cec (cp51 u0_17) <| cec (cp2) <| cec (cp1) <| cec (cp0 io_3_m2) <| cec (cp15_1) <| cec (cp0 io_0_0) <| cec (cp54) <| cec (cp18) <| cec (cp1) <| cec (cp1) <| cec (cp51 u0_122) <| cec (cp18) <| cec (cp37) <| cec (cp37) <| cec (cp54) <| cen
noncomputable def cdX6_firstDropBySeed : List (Nat × Cd) := [(0, (18, 1, 0, 0, 0, [])), (1, (1, 1, 1, 0, 0, [])), (2, (18, 1, 0, 0, 0, [])), (3, (1, 1, 1, 0, 0, [])), (4, (51, 114, 6, 1, 0, [])), (7, (51, 121, 6, 2, 0, [])), (10, (1, 1, 2, 0, 0, [])), (11, (2, 2, 4, 0, 0, [])), (13, (0, 1, 0, 0, 1, [])), (14, (2, 2, 5, 0, 0, [])), (16, (1, 2, 5, 0, 0, [])), (18, (1, 1, 3, 0, 0, [])), (19, (15, 54, 4, 0, 0, [])), (22, (1, 2, 4, 0, 0, [])), (24, (52, 126, 0, 1, 0, [])), (27, (2, 2, 4, 0, 0, [])), (29, (18, 1, 0, 0, 0, [])), (30, (37, 6, 9, 2, 0, [])), (33, (18, 1, 0, 0, 0, [])), (34, (1, 2, 4, 0, 0, [])), (36, (51, 127, 6, 1, 0, [])), (39, (51, 1, 0, 1, 0, [])), (42, (14, 48, 0, 0, 0, [])), (45, (1, 2, 5, 0, 0, [])), (47, (54, 0, 0, 0, 0, [])), (48, (3, 5, 0, 0, 1, [])), (51, (13, 16, 0, 0, 0, [])), (54, (0, 2, 0, 0, (-2), [])), (56, (54, 0, 0, 0, 0, []))]
set_option maxRecDepth 20000 in
theorem ceX6_firstDropBySeed {l : Launch} {X : Nat × (Nat → Int32)} {d : Nat} : tbX6_firstDropBySeed l X d = ctb l X d U0 cdX6_firstDropBySeed := cec (cp18) <| cec (cp1) <| cec (cp18) <| cec (cp1) <| cec (cp51 u0_114) <| cec (cp51 u0_121) <| cec (cp1) <| cec (cp2) <| cec (cp0 io_1_1) <| cec (cp2) <| cec (cp1) <| cec (cp1) <| cec (cp15_4) <| cec (cp1) <| cec (cp52 u0_126) <| cec (cp2) <| cec (cp18) <| cec (cp37) <| cec (cp18) <| cec (cp1) <| cec (cp51 u0_127) <| cec (cp51 u0_1) <| cec (cp14_0) <| cec (cp1) <| cec (cp54) <| cec (cp3 io_1_1) <| cec (cp13) <| cec (cp0 io_3_m2) <| cec (cp54) <| cen
noncomputable def cdX6_draw : List (Nat × Cd) := [(0, (0, 2, 0, 0, 75, [])), (2, (1, 1, 0, 0, 0, [])), (3, (6, 0, 0, 0, 0, [])), (4, (0, 2, 0, 0, 74, [])), (6, (4, 0, 0, 0, 0, [])), (7, (0, 3, 0, 0, 65537, [])), (10, (22, 0, 0, 0, 0, [])), (11, (54, 0, 0, 0, 0, []))]
set_option maxRecDepth 20000 in
theorem ceX6_draw {l : Launch} {X : Nat × (Nat → Int32)} {d : Nat} : tbX6_draw l X d = ctb l X d U0 cdX6_draw := cec (cp0 io_36_75) <| cec (cp1) <| cec (cp6) <| cec (cp0 io_37_74) <| cec (cp4) <| cec (cp0 io_35_65537) <| cec (cp22) <| cec (cp54) <| cen
noncomputable def cdX6_isCalm : List (Nat × Cd) := [(0, (1, 1, 1, 0, 0, [])), (1, (0, 2, 0, 0, 100, [])), (3, (22, 0, 0, 0, 0, [])), (4, (18, 1, 0, 0, 0, [])), (5, (37, 6, 1, 2, 0, [])), (8, (37, 3, 2, 0, 0, [])), (11, (15, 18, 3, 0, 0, [])), (14, (0, 1, 0, 0, 1, [])), (15, (13, 19, 0, 0, 0, [])), (18, (0, 1, 0, 0, 0, [])), (19, (55, 0, 0, 0, 0, []))]
set_option maxRecDepth 20000 in
theorem ceX6_isCalm {l : Launch} {X : Nat × (Nat → Int32)} {d : Nat} : tbX6_isCalm l X d = ctb l X d U0 cdX6_isCalm := cec (cp1) <| cec (cp0 io_21_100) <| cec (cp22) <| cec (cp18) <| cec (cp37) <| cec (cp37) <| cec (cp15_3) <| cec (cp0 io_1_1) <| cec (cp13) <| cec (cp0 io_0_0) <| cec (cp55) <| cen
noncomputable def cdX6_couldHave : List (Nat × Cd) := [(0, (18, 1, 0, 0, 0, [])), (1, (1, 1, 2, 0, 0, [])), (2, (51, 114, 6, 1, 0, [])), (5, (2, 1, 3, 0, 0, [])), (6, (18, 1, 0, 0, 0, [])), (7, (37, 6, 3, 2, 0, [])), (10, (1, 1, 2, 0, 0, [])), (11, (51, 11, 2, 1, 0, [])), (14, (14, 32, 1, 0, 0, [])), (17, (1, 1, 3, 0, 0, [])), (18, (1, 1, 1, 0, 0, [])), (19, (15, 28, 0, 0, 0, [])), (22, (1, 1, 3, 0, 0, [])), (23, (0, 2, 0, 0, (-2), [])), (25, (15, 32, 1, 0, 0, [])), (28, (0, 1, 0, 0, 1, [])), (29, (13, 33, 0, 0, 0, [])), (32, (0, 1, 0, 0, 0, [])), (33, (55, 0, 0, 0, 0, []))]
set_option maxRecDepth 20000 in
theorem ceX6_couldHave {l : Launch} {X : Nat × (Nat → Int32)} {d : Nat} : tbX6_couldHave l X d = ctb l X d U0 cdX6_couldHave := cec (cp18) <| cec (cp1) <| cec (cp51 u0_114) <| cec (cp2) <| cec (cp18) <| cec (cp37) <| cec (cp1) <| cec (cp51 u0_11) <| cec (cp14_1) <| cec (cp1) <| cec (cp1) <| cec (cp15_0) <| cec (cp1) <| cec (cp0 io_3_m2) <| cec (cp15_1) <| cec (cp0 io_1_1) <| cec (cp13) <| cec (cp0 io_0_0) <| cec (cp55) <| cen
noncomputable def cdX6_costOf : List (Nat × Cd) := [(0, (18, 1, 0, 0, 0, [])), (1, (37, 6, 3, 2, 0, [])), (4, (1, 1, 1, 0, 0, [])), (5, (51, 11, 2, 1, 0, [])), (8, (14, 13, 0, 0, 0, [])), (11, (0, 1, 0, 0, 0, [])), (12, (54, 0, 0, 0, 0, [])), (13, (18, 1, 0, 0, 0, [])), (14, (1, 1, 1, 0, 0, [])), (15, (1, 1, 2, 0, 0, [])), (16, (51, 121, 6, 2, 0, [])), (19, (18, 1, 0, 0, 0, [])), (20, (37, 6, 9, 2, 0, [])), (23, (1, 1, 3, 0, 0, [])), (24, (51, 2, 0, 1, 0, [])), (27, (18, 1, 0, 0, 0, [])), (28, (37, 6, 9, 2, 0, [])), (31, (37, 0, 7, 0, 0, [])), (34, (18, 1, 0, 0, 0, [])), (35, (37, 6, 9, 2, 0, [])), (38, (37, 0, 5, 0, 0, [])), (41, (14, 50, 1, 0, 0, [])), (44, (0, 3, 0, 0, 1024, [])), (47, (13, 51, 0, 0, 0, [])), (50, (0, 1, 0, 0, 0, [])), (51, (4, 0, 0, 0, 0, [])), (52, (54, 0, 0, 0, 0, []))]
set_option maxRecDepth 20000 in
theorem ceX6_costOf {l : Launch} {X : Nat × (Nat → Int32)} {d : Nat} : tbX6_costOf l X d = ctb l X d U0 cdX6_costOf := cec (cp18) <| cec (cp37) <| cec (cp1) <| cec (cp51 u0_11) <| cec (cp14_0) <| cec (cp0 io_0_0) <| cec (cp54) <| cec (cp18) <| cec (cp1) <| cec (cp1) <| cec (cp51 u0_121) <| cec (cp18) <| cec (cp37) <| cec (cp1) <| cec (cp51 u0_2) <| cec (cp18) <| cec (cp37) <| cec (cp37) <| cec (cp18) <| cec (cp37) <| cec (cp37) <| cec (cp14_1) <| cec (cp0 io_31_1024) <| cec (cp13) <| cec (cp0 io_0_0) <| cec (cp4) <| cec (cp54) <| cen
noncomputable def cdX6_costIf : List (Nat × Cd) := [(0, (0, 1, 0, 0, 0, [])), (1, (2, 2, 4, 0, 0, [])), (3, (0, 1, 0, 0, 0, [])), (4, (2, 2, 5, 0, 0, [])), (6, (1, 2, 5, 0, 0, [])), (8, (18, 1, 0, 0, 0, [])), (9, (37, 6, 1, 2, 0, [])), (12, (37, 3, 4, 0, 0, [])), (15, (15, 68, 3, 0, 0, [])), (18, (18, 1, 0, 0, 0, [])), (19, (1, 2, 5, 0, 0, [])), (21, (51, 114, 6, 1, 0, [])), (24, (2, 2, 6, 0, 0, [])), (26, (1, 2, 5, 0, 0, [])), (28, (1, 1, 2, 0, 0, [])), (29, (15, 38, 1, 0, 0, [])), (32, (1, 1, 1, 0, 0, [])), (33, (2, 2, 6, 0, 0, [])), (35, (13, 48, 0, 0, 0, [])), (38, (1, 2, 6, 0, 0, [])), (40, (1, 1, 1, 0, 0, [])), (41, (15, 48, 1, 0, 0, [])), (44, (0, 2, 0, 0, (-2), [])), (46, (2, 2, 6, 0, 0, [])), (48, (1, 2, 4, 0, 0, [])), (50, (18, 1, 0, 0, 0, [])), (51, (1, 2, 5, 0, 0, [])), (53, (1, 2, 6, 0, 0, [])), (55, (1, 1, 3, 0, 0, [])), (56, (51, 129, 6, 3, 0, [])), (59, (4, 0, 0, 0, 0, [])), (60, (2, 2, 4, 0, 0, [])), (62, (3, 5, 0, 0, 1, [])), (65, (13, 6, 0, 0, 0, [])), (68, (1, 2, 4, 0, 0, [])), (70, (54, 0, 0, 0, 0, []))]
set_option maxRecDepth 20000 in
theorem ceX6_costIf {l : Launch} {X : Nat × (Nat → Int32)} {d : Nat} : tbX6_costIf l X d = ctb l X d U0 cdX6_costIf := cec (cp0 io_0_0) <| cec (cp2) <| cec (cp0 io_0_0) <| cec (cp2) <| cec (cp1) <| cec (cp18) <| cec (cp37) <| cec (cp37) <| cec (cp15_3) <| cec (cp18) <| cec (cp1) <| cec (cp51 u0_114) <| cec (cp2) <| cec (cp1) <| cec (cp1) <| cec (cp15_1) <| cec (cp1) <| cec (cp2) <| cec (cp13) <| cec (cp1) <| cec (cp1) <| cec (cp15_1) <| cec (cp0 io_3_m2) <| cec (cp2) <| cec (cp1) <| cec (cp18) <| cec (cp1) <| cec (cp1) <| cec (cp1) <| cec (cp51 u0_129) <| cec (cp4) <| cec (cp2) <| cec (cp3 io_1_1) <| cec (cp13) <| cec (cp1) <| cec (cp54) <| cen
noncomputable def cdX6_tooFewFaces : List (Nat × Cd) := [(0, (0, 1, 0, 0, 0, [])), (1, (2, 1, 1, 0, 0, [])), (2, (0, 1, 0, 0, 0, [])), (3, (2, 1, 2, 0, 0, [])), (4, (1, 1, 2, 0, 0, [])), (5, (18, 1, 0, 0, 0, [])), (6, (37, 6, 1, 2, 0, [])), (9, (37, 3, 4, 0, 0, [])), (12, (15, 35, 3, 0, 0, [])), (15, (18, 1, 0, 0, 0, [])), (16, (37, 6, 3, 2, 0, [])), (19, (1, 1, 2, 0, 0, [])), (20, (51, 11, 2, 1, 0, [])), (23, (14, 29, 1, 0, 0, [])), (26, (3, 1, 0, 0, 1, [])), (29, (3, 2, 0, 0, 1, [])), (32, (13, 4, 0, 0, 0, [])), (35, (1, 1, 1, 0, 0, [])), (36, (18, 1, 0, 0, 0, [])), (37, (37, 6, 1, 2, 0, [])), (40, (37, 3, 10, 0, 0, [])), (43, (15, 50, 3, 0, 0, [])), (46, (0, 1, 0, 0, 1, [])), (47, (13, 51, 0, 0, 0, [])), (50, (0, 1, 0, 0, 0, [])), (51, (55, 0, 0, 0, 0, []))]
set_option maxRecDepth 20000 in
theorem ceX6_tooFewFaces {l : Launch} {X : Nat × (Nat → Int32)} {d : Nat} : tbX6_tooFewFaces l X d = ctb l X d U0 cdX6_tooFewFaces := cec (cp0 io_0_0) <| cec (cp2) <| cec (cp0 io_0_0) <| cec (cp2) <| cec (cp1) <| cec (cp18) <| cec (cp37) <| cec (cp37) <| cec (cp15_3) <| cec (cp18) <| cec (cp37) <| cec (cp1) <| cec (cp51 u0_11) <| cec (cp14_1) <| cec (cp3 io_1_1) <| cec (cp3 io_1_1) <| cec (cp13) <| cec (cp1) <| cec (cp18) <| cec (cp37) <| cec (cp37) <| cec (cp15_3) <| cec (cp0 io_1_1) <| cec (cp13) <| cec (cp0 io_0_0) <| cec (cp55) <| cen
noncomputable def cdX6_makeMatch : List (Nat × Cd) := [(0, (18, 1, 0, 0, 0, [])), (1, (37, 6, 11, 2, 0, [])), (4, (18, 1, 0, 0, 0, [])), (5, (37, 6, 1, 2, 0, [])), (8, (37, 3, 4, 0, 0, [])), (11, (18, 1, 0, 0, 0, [])), (12, (37, 6, 1, 2, 0, [])), (15, (37, 3, 10, 0, 0, [])), (18, (51, 4, 1, 2, 0, [])), (21, (0, 1, 0, 0, 0, [])), (22, (2, 1, 2, 0, 0, [])), (23, (1, 1, 2, 0, 0, [])), (24, (18, 1, 0, 0, 0, [])), (25, (37, 6, 1, 2, 0, [])), (28, (37, 3, 4, 0, 0, [])), (31, (15, 105, 3, 0, 0, [])), (34, (18, 1, 0, 0, 0, [])), (35, (37, 6, 3, 2, 0, [])), (38, (1, 1, 2, 0, 0, [])), (39, (51, 11, 2, 1, 0, [])), (42, (14, 48, 0, 0, 0, [])), (45, (13, 99, 0, 0, 0, [])), (48, (18, 1, 0, 0, 0, [])), (49, (37, 6, 11, 2, 0, [])), (52, (1, 1, 2, 0, 0, [])), (53, (18, 1, 0, 0, 0, [])), (54, (1, 1, 2, 0, 0, [])), (55, (0, 2, 0, 0, (-2), [])), (57, (1, 1, 1, 0, 0, [])), (58, (51, 129, 6, 3, 0, [])), (61, (51, 5, 1, 2, 0, [])), (64, (0, 1, 0, 0, 0, [])), (65, (2, 1, 3, 0, 0, [])), (66, (1, 1, 3, 0, 0, [])), (67, (18, 1, 0, 0, 0, [])), (68, (37, 6, 1, 2, 0, [])), (71, (37, 3, 10, 0, 0, [])), (74, (15, 99, 3, 0, 0, [])), (77, (18, 1, 0, 0, 0, [])), (78, (37, 6, 11, 2, 0, [])), (81, (1, 1, 2, 0, 0, [])), (82, (1, 1, 3, 0, 0, [])), (83, (18, 1, 0, 0, 0, [])), (84, (1, 1, 2, 0, 0, [])), (85, (1, 1, 3, 0, 0, [])), (86, (1, 1, 1, 0, 0, [])), (87, (51, 129, 6, 3, 0, [])), (90, (51, 6, 1, 3, 0, [])), (93, (3, 3, 0, 0, 1, [])), (96, (13, 66, 0, 0, 0, [])), (99, (3, 2, 0, 0, 1, [])), (102, (13, 23, 0, 0, 0, [])), (105, (18, 1, 0, 0, 0, [])), (106, (37, 6, 11, 2, 0, [])), (109, (51, 7, 1, 0, 0, [])), (112, (57, 0, 0, 0, 0, []))]
set_option maxRecDepth 20000 in
theorem ceX6_makeMatch {l : Launch} {X : Nat × (Nat → Int32)} {d : Nat} : tbX6_makeMatch l X d = ctb l X d U0 cdX6_makeMatch := cec (cp18) <| cec (cp37) <| cec (cp18) <| cec (cp37) <| cec (cp37) <| cec (cp18) <| cec (cp37) <| cec (cp37) <| cec (cp51 u0_4) <| cec (cp0 io_0_0) <| cec (cp2) <| cec (cp1) <| cec (cp18) <| cec (cp37) <| cec (cp37) <| cec (cp15_3) <| cec (cp18) <| cec (cp37) <| cec (cp1) <| cec (cp51 u0_11) <| cec (cp14_0) <| cec (cp13) <| cec (cp18) <| cec (cp37) <| cec (cp1) <| cec (cp18) <| cec (cp1) <| cec (cp0 io_3_m2) <| cec (cp1) <| cec (cp51 u0_129) <| cec (cp51 u0_5) <| cec (cp0 io_0_0) <| cec (cp2) <| cec (cp1) <| cec (cp18) <| cec (cp37) <| cec (cp37) <| cec (cp15_3) <| cec (cp18) <| cec (cp37) <| cec (cp1) <| cec (cp1) <| cec (cp18) <| cec (cp1) <| cec (cp1) <| cec (cp1) <| cec (cp51 u0_129) <| cec (cp51 u0_6) <| cec (cp3 io_1_1) <| cec (cp13) <| cec (cp3 io_1_1) <| cec (cp13) <| cec (cp18) <| cec (cp37) <| cec (cp51 u0_7) <| cec (cp57) <| cen
noncomputable def cdX6_wayCost : List (Nat × Cd) := [(0, (18, 1, 0, 0, 0, [])), (1, (1, 1, 2, 0, 0, [])), (2, (51, 123, 6, 1, 0, [])), (5, (18, 1, 0, 0, 0, [])), (6, (37, 6, 10, 2, 0, [])), (9, (18, 1, 0, 0, 0, [])), (10, (37, 6, 1, 2, 0, [])), (13, (18, 1, 0, 0, 0, [])), (14, (37, 6, 12, 2, 0, [])), (17, (1, 1, 2, 0, 0, [])), (18, (42, 0, 0, 0, 0, [])), (19, (18, 1, 0, 0, 0, [])), (20, (37, 6, 1, 2, 0, [])), (23, (37, 3, 16, 2, 0, [])), (26, (1, 1, 1, 0, 0, [])), (27, (42, 0, 0, 0, 0, [])), (28, (51, 46, 5, 3, 0, [])), (31, (18, 1, 0, 0, 0, [])), (32, (37, 6, 10, 2, 0, [])), (35, (37, 5, 0, 2, 0, [])), (38, (18, 1, 0, 0, 0, [])), (39, (37, 6, 1, 2, 0, [])), (42, (37, 3, 15, 2, 0, [])), (45, (1, 1, 1, 0, 0, [])), (46, (42, 0, 0, 0, 0, [])), (47, (42, 0, 0, 0, 0, [])), (48, (54, 0, 0, 0, 0, []))]
set_option maxRecDepth 20000 in
theorem ceX6_wayCost {l : Launch} {X : Nat × (Nat → Int32)} {d : Nat} : tbX6_wayCost l X d = ctb l X d U0 cdX6_wayCost := cec (cp18) <| cec (cp1) <| cec (cp51 u0_123) <| cec (cp18) <| cec (cp37) <| cec (cp18) <| cec (cp37) <| cec (cp18) <| cec (cp37) <| cec (cp1) <| cec (cp42) <| cec (cp18) <| cec (cp37) <| cec (cp37) <| cec (cp1) <| cec (cp42) <| cec (cp51 u0_46) <| cec (cp18) <| cec (cp37) <| cec (cp37) <| cec (cp18) <| cec (cp37) <| cec (cp37) <| cec (cp1) <| cec (cp42) <| cec (cp42) <| cec (cp54) <| cen
noncomputable def cdX6_stepsTogether : List (Nat × Cd) := [(0, (0, 1, 0, 0, 0, [])), (1, (2, 1, 2, 0, 0, [])), (2, (0, 1, 0, 0, 0, [])), (3, (2, 1, 3, 0, 0, [])), (4, (1, 1, 3, 0, 0, [])), (5, (18, 1, 0, 0, 0, [])), (6, (37, 6, 1, 2, 0, [])), (9, (37, 3, 14, 0, 0, [])), (12, (15, 70, 3, 0, 0, [])), (15, (18, 1, 0, 0, 0, [])), (16, (37, 6, 10, 2, 0, [])), (19, (18, 1, 0, 0, 0, [])), (20, (37, 6, 1, 2, 0, [])), (23, (1, 1, 1, 0, 0, [])), (24, (18, 1, 0, 0, 0, [])), (25, (37, 6, 1, 2, 0, [])), (28, (37, 3, 15, 2, 0, [])), (31, (1, 1, 3, 0, 0, [])), (32, (42, 0, 0, 0, 0, [])), (33, (18, 1, 0, 0, 0, [])), (34, (37, 6, 1, 2, 0, [])), (37, (37, 3, 16, 2, 0, [])), (40, (1, 1, 3, 0, 0, [])), (41, (42, 0, 0, 0, 0, [])), (42, (51, 45, 5, 4, 0, [])), (45, (2, 2, 4, 0, 0, [])), (47, (1, 1, 2, 0, 0, [])), (48, (1, 2, 4, 0, 0, [])), (50, (0, 2, 0, 0, (-2), [])), (52, (15, 60, 1, 0, 0, [])), (55, (0, 2, 0, 0, 60, [])), (57, (13, 62, 0, 0, 0, [])), (60, (1, 2, 4, 0, 0, [])), (62, (4, 0, 0, 0, 0, [])), (63, (2, 1, 2, 0, 0, [])), (64, (3, 3, 0, 0, 1, [])), (67, (13, 4, 0, 0, 0, [])), (70, (1, 1, 2, 0, 0, [])), (71, (54, 0, 0, 0, 0, []))]
set_option maxRecDepth 20000 in
theorem ceX6_stepsTogether {l : Launch} {X : Nat × (Nat → Int32)} {d : Nat} : tbX6_stepsTogether l X d = ctb l X d U0 cdX6_stepsTogether := cec (cp0 io_0_0) <| cec (cp2) <| cec (cp0 io_0_0) <| cec (cp2) <| cec (cp1) <| cec (cp18) <| cec (cp37) <| cec (cp37) <| cec (cp15_3) <| cec (cp18) <| cec (cp37) <| cec (cp18) <| cec (cp37) <| cec (cp1) <| cec (cp18) <| cec (cp37) <| cec (cp37) <| cec (cp1) <| cec (cp42) <| cec (cp18) <| cec (cp37) <| cec (cp37) <| cec (cp1) <| cec (cp42) <| cec (cp51 u0_45) <| cec (cp2) <| cec (cp1) <| cec (cp1) <| cec (cp0 io_3_m2) <| cec (cp15_1) <| cec (cp0 io_30_60) <| cec (cp13) <| cec (cp1) <| cec (cp4) <| cec (cp2) <| cec (cp3 io_1_1) <| cec (cp13) <| cec (cp1) <| cec (cp54) <| cen
noncomputable def cdX6_fittingSets : List (Nat × Cd) := [(0, (0, 1, 0, 0, 0, [])), (1, (2, 1, 1, 0, 0, [])), (2, (0, 1, 0, 0, 0, [])), (3, (2, 1, 2, 0, 0, [])), (4, (1, 1, 2, 0, 0, [])), (5, (0, 1, 0, 0, 1, [])), (6, (18, 1, 0, 0, 0, [])), (7, (37, 6, 1, 2, 0, [])), (10, (37, 3, 17, 0, 0, [])), (13, (10, 0, 0, 0, 0, [])), (14, (15, 37, 3, 0, 0, [])), (17, (18, 1, 0, 0, 0, [])), (18, (1, 1, 2, 0, 0, [])), (19, (51, 136, 6, 1, 0, [])), (22, (14, 31, 0, 0, 0, [])), (25, (1, 1, 1, 0, 0, [])), (26, (0, 1, 0, 0, 1, [])), (27, (1, 1, 2, 0, 0, [])), (28, (10, 0, 0, 0, 0, [])), (29, (8, 0, 0, 0, 0, [])), (30, (2, 1, 1, 0, 0, [])), (31, (3, 2, 0, 0, 1, [])), (34, (13, 4, 0, 0, 0, [])), (37, (1, 1, 1, 0, 0, [])), (38, (54, 0, 0, 0, 0, []))]
set_option maxRecDepth 20000 in
theorem ceX6_fittingSets {l : Launch} {X : Nat × (Nat → Int32)} {d : Nat} : tbX6_fittingSets l X d = ctb l X d U0 cdX6_fittingSets := cec (cp0 io_0_0) <| cec (cp2) <| cec (cp0 io_0_0) <| cec (cp2) <| cec (cp1) <| cec (cp0 io_1_1) <| cec (cp18) <| cec (cp37) <| cec (cp37) <| cec (cp10) <| cec (cp15_3) <| cec (cp18) <| cec (cp1) <| cec (cp51 u0_136) <| cec (cp14_0) <| cec (cp1) <| cec (cp0 io_1_1) <| cec (cp1) <| cec (cp10) <| cec (cp8) <| cec (cp2) <| cec (cp3 io_1_1) <| cec (cp13) <| cec (cp1) <| cec (cp54) <| cen
noncomputable def cdX6_setFits : List (Nat × Cd) := [(0, (0, 1, 0, 0, 0, [])), (1, (2, 1, 2, 0, 0, [])), (2, (1, 1, 2, 0, 0, [])), (3, (18, 1, 0, 0, 0, [])), (4, (37, 6, 1, 2, 0, [])), (7, (37, 3, 4, 0, 0, [])), (10, (15, 30, 3, 0, 0, [])), (13, (18, 1, 0, 0, 0, [])), (14, (1, 1, 2, 0, 0, [])), (15, (1, 1, 1, 0, 0, [])), (16, (51, 137, 6, 2, 0, [])), (19, (14, 24, 1, 0, 0, [])), (22, (0, 1, 0, 0, 0, [])), (23, (55, 0, 0, 0, 0, [])), (24, (3, 2, 0, 0, 1, [])), (27, (13, 2, 0, 0, 0, [])), (30, (0, 1, 0, 0, 1, [])), (31, (55, 0, 0, 0, 0, []))]
set_option maxRecDepth 20000 in
theorem ceX6_setFits {l : Launch} {X : Nat × (Nat → Int32)} {d : Nat} : tbX6_setFits l X d = ctb l X d U0 cdX6_setFits := cec (cp0 io_0_0) <| cec (cp2) <| cec (cp1) <| cec (cp18) <| cec (cp37) <| cec (cp37) <| cec (cp15_3) <| cec (cp18) <| cec (cp1) <| cec (cp1) <| cec (cp51 u0_137) <| cec (cp14_1) <| cec (cp0 io_0_0) <| cec (cp55) <| cec (cp3 io_1_1) <| cec (cp13) <| cec (cp0 io_1_1) <| cec (cp55) <| cen
noncomputable def cdX6_dropFits : List (Nat × Cd) := [(0, (18, 1, 0, 0, 0, [])), (1, (37, 6, 1, 2, 0, [])), (4, (37, 3, 9, 2, 0, [])), (7, (1, 1, 1, 0, 0, [])), (8, (42, 0, 0, 0, 0, [])), (9, (14, 14, 1, 0, 0, [])), (12, (0, 1, 0, 0, 1, [])), (13, (55, 0, 0, 0, 0, [])), (14, (18, 1, 0, 0, 0, [])), (15, (37, 6, 1, 2, 0, [])), (18, (1, 1, 1, 0, 0, [])), (19, (51, 18, 3, 1, 0, [])), (22, (2, 1, 3, 0, 0, [])), (23, (18, 1, 0, 0, 0, [])), (24, (37, 6, 9, 2, 0, [])), (27, (18, 1, 0, 0, 0, [])), (28, (37, 6, 1, 2, 0, [])), (31, (1, 1, 1, 0, 0, [])), (32, (1, 1, 3, 0, 0, [])), (33, (1, 1, 3, 0, 0, [])), (34, (14, 41, 3, 0, 0, [])), (37, (0, 1, 0, 0, 0, [])), (38, (13, 50, 0, 0, 0, [])), (41, (18, 1, 0, 0, 0, [])), (42, (37, 6, 1, 2, 0, [])), (45, (1, 1, 3, 0, 0, [])), (46, (1, 1, 2, 0, 0, [])), (47, (51, 20, 3, 2, 0, [])), (50, (51, 0, 0, 4, 0, [])), (53, (18, 1, 0, 0, 0, [])), (54, (37, 6, 9, 2, 0, [])), (57, (0, 2, 0, 0, 40, [])), (59, (51, 3, 0, 1, 0, [])), (62, (18, 1, 0, 0, 0, [])), (63, (37, 6, 1, 2, 0, [])), (66, (37, 3, 9, 2, 0, [])), (69, (1, 1, 1, 0, 0, [])), (70, (42, 0, 0, 0, 0, [])), (71, (15, 78, 1, 0, 0, [])), (74, (0, 1, 0, 0, 1, [])), (75, (13, 79, 0, 0, 0, [])), (78, (0, 1, 0, 0, 0, [])), (79, (55, 0, 0, 0, 0, []))]
set_option maxRecDepth 20000 in
theorem ceX6_dropFits {l : Launch} {X : Nat × (Nat → Int32)} {d : Nat} : tbX6_dropFits l X d = ctb l X d U0 cdX6_dropFits := cec (cp18) <| cec (cp37) <| cec (cp37) <| cec (cp1) <| cec (cp42) <| cec (cp14_1) <| cec (cp0 io_1_1) <| cec (cp55) <| cec (cp18) <| cec (cp37) <| cec (cp1) <| cec (cp51 u0_18) <| cec (cp2) <| cec (cp18) <| cec (cp37) <| cec (cp18) <| cec (cp37) <| cec (cp1) <| cec (cp1) <| cec (cp1) <| cec (cp14_3) <| cec (cp0 io_0_0) <| cec (cp13) <| cec (cp18) <| cec (cp37) <| cec (cp1) <| cec (cp1) <| cec (cp51 u0_20) <| cec (cp51 u0_0) <| cec (cp18) <| cec (cp37) <| cec (cp0 io_26_40) <| cec (cp51 u0_3) <| cec (cp18) <| cec (cp37) <| cec (cp37) <| cec (cp1) <| cec (cp42) <| cec (cp15_1) <| cec (cp0 io_1_1) <| cec (cp13) <| cec (cp0 io_0_0) <| cec (cp55) <| cen
noncomputable def cdX6_setsWith : List (Nat × Cd) := [(0, (0, 1, 0, 0, 0, [])), (1, (2, 1, 2, 0, 0, [])), (2, (0, 1, 0, 0, 0, [])), (3, (2, 1, 3, 0, 0, [])), (4, (1, 1, 3, 0, 0, [])), (5, (0, 2, 0, 0, 16, [])), (7, (15, 35, 3, 0, 0, [])), (10, (1, 1, 0, 0, 0, [])), (11, (1, 1, 3, 0, 0, [])), (12, (11, 0, 0, 0, 0, [])), (13, (0, 1, 0, 0, 1, [])), (14, (7, 0, 0, 0, 0, [])), (15, (14, 29, 0, 0, 0, [])), (18, (1, 1, 3, 0, 0, [])), (19, (1, 1, 1, 0, 0, [])), (20, (11, 0, 0, 0, 0, [])), (21, (0, 1, 0, 0, 1, [])), (22, (7, 0, 0, 0, 0, [])), (23, (14, 29, 0, 0, 0, [])), (26, (3, 2, 0, 0, 1, [])), (29, (3, 3, 0, 0, 1, [])), (32, (13, 4, 0, 0, 0, [])), (35, (1, 1, 2, 0, 0, [])), (36, (54, 0, 0, 0, 0, []))]
set_option maxRecDepth 20000 in
theorem ceX6_setsWith {l : Launch} {X : Nat × (Nat → Int32)} {d : Nat} : tbX6_setsWith l X d = ctb l X d U0 cdX6_setsWith := cec (cp0 io_0_0) <| cec (cp2) <| cec (cp0 io_0_0) <| cec (cp2) <| cec (cp1) <| cec (cp0 io_34_16) <| cec (cp15_3) <| cec (cp1) <| cec (cp1) <| cec (cp11) <| cec (cp0 io_1_1) <| cec (cp7) <| cec (cp14_0) <| cec (cp1) <| cec (cp1) <| cec (cp11) <| cec (cp0 io_1_1) <| cec (cp7) <| cec (cp14_0) <| cec (cp3 io_1_1) <| cec (cp3 io_1_1) <| cec (cp13) <| cec (cp1) <| cec (cp54) <| cen
noncomputable def cdX6_leftAtMost : List (Nat × Cd) := [(0, (1, 1, 0, 0, 0, [])), (1, (1, 1, 1, 0, 0, [])), (2, (52, 138, 0, 2, 0, [])), (5, (2, 1, 2, 0, 0, [])), (6, (1, 1, 2, 0, 0, [])), (7, (1, 1, 0, 0, 0, [])), (8, (52, 276, 0, 1, 0, [])), (11, (1, 1, 2, 0, 0, [])), (12, (5, 0, 0, 0, 0, [])), (13, (52, 277, 0, 2, 0, [])), (16, (54, 0, 0, 0, 0, []))]
set_option maxRecDepth 20000 in
theorem ceX6_leftAtMost {l : Launch} {X : Nat × (Nat → Int32)} {d : Nat} : tbX6_leftAtMost l X d = ctb l X d U0 cdX6_leftAtMost := cec (cp1) <| cec (cp1) <| cec (cp52 u0_138) <| cec (cp2) <| cec (cp1) <| cec (cp1) <| cec (cp52 u0_276) <| cec (cp1) <| cec (cp5) <| cec (cp52 u0_277) <| cec (cp54) <| cen
noncomputable def cdX6_bestToAsk : List (Nat × Cd) := [(0, (1, 1, 1, 0, 0, [])), (1, (14, 7, 1, 0, 0, [])), (4, (0, 2, 0, 0, (-2), [])), (6, (54, 0, 0, 0, 0, [])), (7, (0, 2, 0, 0, (-2), [])), (9, (2, 1, 2, 0, 0, [])), (10, (0, 1, 0, 0, 0, [])), (11, (2, 1, 3, 0, 0, [])), (12, (0, 1, 0, 0, 0, [])), (13, (2, 2, 4, 0, 0, [])), (15, (1, 2, 4, 0, 0, [])), (17, (18, 1, 0, 0, 0, [])), (18, (37, 6, 1, 2, 0, [])), (21, (37, 3, 17, 0, 0, [])), (24, (15, 59, 3, 0, 0, [])), (27, (1, 1, 1, 0, 0, [])), (28, (1, 2, 4, 0, 0, [])), (30, (52, 139, 0, 2, 0, [])), (33, (2, 2, 5, 0, 0, [])), (35, (1, 1, 2, 0, 0, [])), (36, (0, 2, 0, 0, (-2), [])), (38, (15, 47, 0, 0, 0, [])), (41, (1, 2, 5, 0, 0, [])), (43, (1, 1, 3, 0, 0, [])), (44, (15, 53, 3, 0, 0, [])), (47, (1, 2, 5, 0, 0, [])), (49, (2, 1, 3, 0, 0, [])), (50, (1, 2, 4, 0, 0, [])), (52, (2, 1, 2, 0, 0, [])), (53, (3, 4, 0, 0, 1, [])), (56, (13, 15, 0, 0, 0, [])), (59, (1, 1, 2, 0, 0, [])), (60, (54, 0, 0, 0, 0, []))]
set_option maxRecDepth 20000 in
theorem ceX6_bestToAsk {l : Launch} {X : Nat × (Nat → Int32)} {d : Nat} : tbX6_bestToAsk l X d = ctb l X d U0 cdX6_bestToAsk := cec (cp1) <| cec (cp14_1) <| cec (cp0 io_3_m2) <| cec (cp54) <| cec (cp0 io_3_m2) <| cec (cp2) <| cec (cp0 io_0_0) <| cec (cp2) <| cec (cp0 io_0_0) <| cec (cp2) <| cec (cp1) <| cec (cp18) <| cec (cp37) <| cec (cp37) <| cec (cp15_3) <| cec (cp1) <| cec (cp1) <| cec (cp52 u0_139) <| cec (cp2) <| cec (cp1) <| cec (cp0 io_3_m2) <| cec (cp15_0) <| cec (cp1) <| cec (cp1) <| cec (cp15_3) <| cec (cp1) <| cec (cp2) <| cec (cp1) <| cec (cp2) <| cec (cp3 io_1_1) <| cec (cp13) <| cec (cp1) <| cec (cp54) <| cen
noncomputable def cdX6_share : List (Nat × Cd) := [(0, (1, 1, 1, 0, 0, [])), (1, (0, 1, 0, 0, 1, [])), (2, (15, 34, 1, 0, 0, [])), (5, (1, 1, 3, 0, 0, [])), (6, (14, 20, 0, 0, 0, [])), (9, (1, 1, 2, 0, 0, [])), (10, (0, 1, 0, 0, 1, [])), (11, (15, 18, 1, 0, 0, [])), (14, (0, 1, 0, 0, 1, [])), (15, (13, 19, 0, 0, 0, [])), (18, (0, 1, 0, 0, 2, [])), (19, (54, 0, 0, 0, 0, [])), (20, (1, 1, 2, 0, 0, [])), (21, (0, 1, 0, 0, 1, [])), (22, (15, 31, 1, 0, 0, [])), (25, (0, 1, 0, 0, 3, [])), (26, (1, 1, 0, 0, 0, [])), (27, (5, 0, 0, 0, 0, [])), (28, (13, 33, 0, 0, 0, [])), (31, (1, 1, 0, 0, 0, [])), (32, (23, 0, 0, 0, 0, [])), (33, (54, 0, 0, 0, 0, [])), (34, (1, 1, 3, 0, 0, [])), (35, (14, 49, 0, 0, 0, [])), (38, (1, 1, 2, 0, 0, [])), (39, (0, 1, 0, 0, 1, [])), (40, (15, 47, 1, 0, 0, [])), (43, (0, 1, 0, 0, 3, [])), (44, (13, 48, 0, 0, 0, [])), (47, (0, 1, 0, 0, 0, [])), (48, (54, 0, 0, 0, 0, [])), (49, (1, 1, 2, 0, 0, [])), (50, (0, 1, 0, 0, 1, [])), (51, (15, 58, 1, 0, 0, [])), (54, (0, 1, 0, 0, 0, [])), (55, (13, 59, 0, 0, 0, [])), (58, (0, 1, 0, 0, 2, [])), (59, (54, 0, 0, 0, 0, []))]
set_option maxRecDepth 20000 in
theorem ceX6_share {l : Launch} {X : Nat × (Nat → Int32)} {d : Nat} : tbX6_share l X d = ctb l X d U0 cdX6_share := cec (cp1) <| cec (cp0 io_1_1) <| cec (cp15_1) <| cec (cp1) <| cec (cp14_0) <| cec (cp1) <| cec (cp0 io_1_1) <| cec (cp15_1) <| cec (cp0 io_1_1) <| cec (cp13) <| cec (cp0 io_2_2) <| cec (cp54) <| cec (cp1) <| cec (cp0 io_1_1) <| cec (cp15_1) <| cec (cp0 io_11_3) <| cec (cp1) <| cec (cp5) <| cec (cp13) <| cec (cp1) <| cec (cp23) <| cec (cp54) <| cec (cp1) <| cec (cp14_0) <| cec (cp1) <| cec (cp0 io_1_1) <| cec (cp15_1) <| cec (cp0 io_11_3) <| cec (cp13) <| cec (cp0 io_0_0) <| cec (cp54) <| cec (cp1) <| cec (cp0 io_1_1) <| cec (cp15_1) <| cec (cp0 io_0_0) <| cec (cp13) <| cec (cp0 io_2_2) <| cec (cp54) <| cen
noncomputable def cdX6_isRest : List (Nat × Cd) := [(0, (1, 1, 0, 0, 0, [])), (1, (1, 1, 1, 0, 0, [])), (2, (1, 1, 2, 0, 0, [])), (3, (0, 1, 0, 0, 0, [])), (4, (52, 141, 0, 4, 0, [])), (7, (1, 1, 0, 0, 0, [])), (8, (0, 1, 0, 0, 1, [])), (9, (1, 1, 1, 0, 0, [])), (10, (5, 0, 0, 0, 0, [])), (11, (1, 1, 2, 0, 0, [])), (12, (0, 1, 0, 0, 0, [])), (13, (52, 141, 0, 4, 0, [])), (16, (15, 42, 2, 0, 0, [])), (19, (1, 1, 0, 0, 0, [])), (20, (1, 1, 1, 0, 0, [])), (21, (1, 1, 2, 0, 0, [])), (22, (0, 1, 0, 0, 1, [])), (23, (52, 141, 0, 4, 0, [])), (26, (1, 1, 0, 0, 0, [])), (27, (1, 1, 1, 0, 0, [])), (28, (0, 1, 0, 0, 1, [])), (29, (1, 1, 2, 0, 0, [])), (30, (5, 0, 0, 0, 0, [])), (31, (0, 1, 0, 0, 1, [])), (32, (52, 141, 0, 4, 0, [])), (35, (15, 42, 2, 0, 0, [])), (38, (0, 1, 0, 0, 1, [])), (39, (13, 43, 0, 0, 0, [])), (42, (0, 1, 0, 0, 0, [])), (43, (55, 0, 0, 0, 0, []))]
set_option maxRecDepth 20000 in
theorem ceX6_isRest {l : Launch} {X : Nat × (Nat → Int32)} {d : Nat} : tbX6_isRest l X d = ctb l X d U0 cdX6_isRest := cec (cp1) <| cec (cp1) <| cec (cp1) <| cec (cp0 io_0_0) <| cec (cp52 u0_141) <| cec (cp1) <| cec (cp0 io_1_1) <| cec (cp1) <| cec (cp5) <| cec (cp1) <| cec (cp0 io_0_0) <| cec (cp52 u0_141) <| cec (cp15_2) <| cec (cp1) <| cec (cp1) <| cec (cp1) <| cec (cp0 io_1_1) <| cec (cp52 u0_141) <| cec (cp1) <| cec (cp1) <| cec (cp0 io_1_1) <| cec (cp1) <| cec (cp5) <| cec (cp0 io_1_1) <| cec (cp52 u0_141) <| cec (cp15_2) <| cec (cp0 io_1_1) <| cec (cp13) <| cec (cp0 io_0_0) <| cec (cp55) <| cen
noncomputable def cdX6_chance : List (Nat × Cd) := [(0, (18, 1, 0, 0, 0, [])), (1, (0, 1, 0, 0, 0, [])), (2, (51, 105, 6, 1, 0, [])), (5, (36, 0, 0, 0, 0, [])), (6, (18, 1, 0, 0, 0, [])), (7, (37, 6, 1, 2, 0, [])), (10, (37, 3, 2, 0, 0, [])), (13, (31, 0, 0, 0, 0, [])), (14, (33, 3, 0, 0, 100, [])), (17, (52, 144, 0, 2, 0, [])), (20, (19, 2, 5, 0, 0, [])), (22, (18, 1, 0, 0, 0, [])), (23, (37, 6, 1, 2, 0, [])), (26, (37, 3, 2, 0, 0, [])), (29, (31, 0, 0, 0, 0, [])), (30, (17, 2, 5, 0, 0, [])), (32, (29, 0, 0, 0, 0, [])), (33, (19, 2, 7, 0, 0, [])), (35, (33, 3, 0, 0, 100, [])), (38, (17, 2, 5, 0, 0, [])), (40, (29, 0, 0, 0, 0, [])), (41, (19, 2, 9, 0, 0, [])), (43, (33, 1, 0, 0, 0, [])), (44, (19, 2, 11, 0, 0, [])), (46, (0, 1, 0, 0, 0, [])), (47, (2, 2, 13, 0, 0, [])), (49, (1, 2, 13, 0, 0, [])), (51, (0, 1, 0, 0, 1, [])), (52, (1, 1, 2, 0, 0, [])), (53, (10, 0, 0, 0, 0, [])), (54, (15, 181, 3, 0, 0, [])), (57, (33, 1, 0, 0, 1, [])), (58, (19, 2, 14, 0, 0, [])), (60, (18, 1, 0, 0, 0, [])), (61, (1, 1, 1, 0, 0, [])), (62, (18, 1, 0, 0, 0, [])), (63, (1, 1, 1, 0, 0, [])), (64, (51, 114, 6, 1, 0, [])), (67, (51, 121, 6, 2, 0, [])), (70, (0, 1, 0, 0, 0, [])), (71, (2, 2, 16, 0, 0, [])), (73, (1, 2, 16, 0, 0, [])), (75, (1, 1, 2, 0, 0, [])), (76, (15, 132, 3, 0, 0, [])), (79, (1, 2, 13, 0, 0, [])), (81, (1, 2, 16, 0, 0, [])), (83, (11, 0, 0, 0, 0, [])), (84, (0, 1, 0, 0, 1, [])), (85, (7, 0, 0, 0, 0, [])), (86, (14, 93, 0, 0, 0, [])), (89, (0, 1, 0, 0, 1, [])), (90, (13, 94, 0, 0, 0, [])), (93, (0, 1, 0, 0, 0, [])), (94, (2, 2, 17, 0, 0, [])), (96, (18, 1, 0, 0, 0, [])), (97, (37, 6, 9, 2, 0, [])), (100, (1, 2, 17, 0, 0, [])), (102, (51, 1, 0, 1, 0, [])), (105, (36, 0, 0, 0, 0, [])), (106, (17, 2, 14, 0, 0, [])), (108, (1, 2, 17, 0, 0, [])), (110, (14, 118, 0, 0, 0, [])), (113, (17, 2, 7, 0, 0, [])), (115, (13, 123, 0, 0, 0, [])), (118, (17, 2, 9, 0, 0, [])), (120, (17, 2, 7, 0, 0, [])), (122, (27, 0, 0, 0, 0, [])), (123, (28, 0, 0, 0, 0, [])), (124, (19, 2, 14, 0, 0, [])), (126, (3, 16, 0, 0, 1, [])), (129, (13, 73, 0, 0, 0, [])), (132, (18, 1, 0, 0, 0, [])), (133, (37, 6, 9, 2, 0, [])), (136, (37, 0, 7, 0, 0, [])), (139, (14, 146, 5, 0, 0, [])), (142, (0, 1, 0, 0, 1, [])), (143, (13, 147, 0, 0, 0, [])), (146, (0, 1, 0, 0, 0, [])), (147, (2, 2, 16, 0, 0, [])), (149, (17, 2, 11, 0, 0, [])), (151, (17, 2, 14, 0, 0, [])), (153, (1, 2, 4, 0, 0, [])), (155, (14, 168, 0, 0, 0, [])), (158, (18, 1, 0, 0, 0, [])), (159, (37, 6, 9, 2, 0, [])), (162, (37, 0, 6, 0, 0, [])), (165, (13, 170, 0, 0, 0, [])), (168, (1, 2, 16, 0, 0, [])), (170, (31, 0, 0, 0, 0, [])), (171, (28, 0, 0, 0, 0, [])), (172, (26, 0, 0, 0, 0, [])), (173, (19, 2, 11, 0, 0, [])), (175, (3, 13, 0, 0, 1, [])), (178, (13, 49, 0, 0, 0, [])), (181, (33, 1, 0, 0, 1, [])), (182, (19, 2, 13, 0, 0, [])), (184, (0, 1, 0, 0, 0, [])), (185, (2, 2, 15, 0, 0, [])), (187, (1, 2, 15, 0, 0, [])), (189, (1, 1, 2, 0, 0, [])), (190, (15, 206, 3, 0, 0, [])), (193, (17, 2, 13, 0, 0, [])), (195, (17, 2, 9, 0, 0, [])), (197, (28, 0, 0, 0, 0, [])), (198, (19, 2, 13, 0, 0, [])), (200, (3, 15, 0, 0, 1, [])), (203, (13, 187, 0, 0, 0, [])), (206, (17, 2, 11, 0, 0, [])), (208, (17, 2, 13, 0, 0, [])), (210, (52, 144, 0, 2, 0, [])), (213, (19, 2, 15, 0, 0, [])), (215, (1, 1, 3, 0, 0, [])), (216, (14, 224, 0, 0, 0, [])), (219, (17, 2, 13, 0, 0, [])), (221, (13, 226, 0, 0, 0, [])), (224, (17, 2, 11, 0, 0, [])), (226, (17, 2, 15, 0, 0, [])), (228, (29, 0, 0, 0, 0, [])), (229, (56, 0, 0, 0, 0, []))]
set_option maxRecDepth 20000 in
theorem ceX6_chance {l : Launch} {X : Nat × (Nat → Int32)} {d : Nat} : tbX6_chance l X d = ctb l X d U0 cdX6_chance := cec (cp18) <| cec (cp0 io_0_0) <| cec (cp51 u0_105) <| cec (cp36) <| cec (cp18) <| cec (cp37) <| cec (cp37) <| cec (cp31) <| cec (cp33 iol_3_100) <| cec (cp52 u0_144) <| cec (cp19) <| cec (cp18) <| cec (cp37) <| cec (cp37) <| cec (cp31) <| cec (cp17) <| cec (cp29) <| cec (cp19) <| cec (cp33 iol_3_100) <| cec (cp17) <| cec (cp29) <| cec (cp19) <| cec (cp33 iol_0_0) <| cec (cp19) <| cec (cp0 io_0_0) <| cec (cp2) <| cec (cp1) <| cec (cp0 io_1_1) <| cec (cp1) <| cec (cp10) <| cec (cp15_3) <| cec (cp33 iol_4_1) <| cec (cp19) <| cec (cp18) <| cec (cp1) <| cec (cp18) <| cec (cp1) <| cec (cp51 u0_114) <| cec (cp51 u0_121) <| cec (cp0 io_0_0) <| cec (cp2) <| cec (cp1) <| cec (cp1) <| cec (cp15_3) <| cec (cp1) <| cec (cp1) <| cec (cp11) <| cec (cp0 io_1_1) <| cec (cp7) <| cec (cp14_0) <| cec (cp0 io_1_1) <| cec (cp13) <| cec (cp0 io_0_0) <| cec (cp2) <| cec (cp18) <| cec (cp37) <| cec (cp1) <| cec (cp51 u0_1) <| cec (cp36) <| cec (cp17) <| cec (cp1) <| cec (cp14_0) <| cec (cp17) <| cec (cp13) <| cec (cp17) <| cec (cp17) <| cec (cp27) <| cec (cp28) <| cec (cp19) <| cec (cp3 io_1_1) <| cec (cp13) <| cec (cp18) <| cec (cp37) <| cec (cp37) <| cec (cp14_5) <| cec (cp0 io_1_1) <| cec (cp13) <| cec (cp0 io_0_0) <| cec (cp2) <| cec (cp17) <| cec (cp17) <| cec (cp1) <| cec (cp14_0) <| cec (cp18) <| cec (cp37) <| cec (cp37) <| cec (cp13) <| cec (cp1) <| cec (cp31) <| cec (cp28) <| cec (cp26) <| cec (cp19) <| cec (cp3 io_1_1) <| cec (cp13) <| cec (cp33 iol_4_1) <| cec (cp19) <| cec (cp0 io_0_0) <| cec (cp2) <| cec (cp1) <| cec (cp1) <| cec (cp15_3) <| cec (cp17) <| cec (cp17) <| cec (cp28) <| cec (cp19) <| cec (cp3 io_1_1) <| cec (cp13) <| cec (cp17) <| cec (cp17) <| cec (cp52 u0_144) <| cec (cp19) <| cec (cp1) <| cec (cp14_0) <| cec (cp17) <| cec (cp13) <| cec (cp17) <| cec (cp17) <| cec (cp29) <| cec (cp56) <| cen
noncomputable def cdX6_keep : List (Nat × Cd) := [(0, (18, 1, 0, 0, 0, [])), (1, (37, 6, 4, 2, 0, [])), (4, (18, 1, 0, 0, 0, [])), (5, (37, 6, 5, 0, 0, [])), (8, (45, 11, 0, 0, 0, [])), (9, (18, 1, 0, 0, 0, [])), (10, (37, 6, 3, 2, 0, [])), (13, (51, 10, 2, 1, 0, [])), (16, (18, 1, 0, 0, 0, [])), (17, (18, 1, 0, 0, 0, [])), (18, (37, 6, 5, 0, 0, [])), (21, (0, 1, 0, 0, 1, [])), (22, (4, 0, 0, 0, 0, [])), (23, (0, 2, 0, 0, 16, [])), (25, (22, 0, 0, 0, 0, [])), (26, (38, 6, 5, 0, 0, [])), (29, (18, 1, 0, 0, 0, [])), (30, (18, 1, 0, 0, 0, [])), (31, (37, 6, 6, 0, 0, [])), (34, (0, 1, 0, 0, 1, [])), (35, (4, 0, 0, 0, 0, [])), (36, (0, 2, 0, 0, 16, [])), (38, (52, 279, 0, 2, 0, [])), (41, (38, 6, 6, 0, 0, [])), (44, (57, 0, 0, 0, 0, []))]
set_option maxRecDepth 20000 in
theorem ceX6_keep {l : Launch} {X : Nat × (Nat → Int32)} {d : Nat} : tbX6_keep l X d = ctb l X d U0 cdX6_keep := cec (cp18) <| cec (cp37) <| cec (cp18) <| cec (cp37) <| cec (cp45) <| cec (cp18) <| cec (cp37) <| cec (cp51 u0_10) <| cec (cp18) <| cec (cp18) <| cec (cp37) <| cec (cp0 io_1_1) <| cec (cp4) <| cec (cp0 io_34_16) <| cec (cp22) <| cec (cp38) <| cec (cp18) <| cec (cp18) <| cec (cp37) <| cec (cp0 io_1_1) <| cec (cp4) <| cec (cp0 io_34_16) <| cec (cp52 u0_279) <| cec (cp38) <| cec (cp57) <| cen
noncomputable def cdX7_good : List (Nat × Cd) := [(0, (18, 1, 0, 0, 0, [])), (1, (0, 1, 0, 0, 0, [])), (2, (38, 7, 0, 0, 0, [])), (5, (18, 1, 0, 0, 0, [])), (6, (0, 1, 0, 0, 0, [])), (7, (38, 7, 11, 0, 0, [])), (10, (57, 0, 0, 0, 0, []))]
set_option maxRecDepth 20000 in
theorem ceX7_good {l : Launch} {X : Nat × (Nat → Int32)} {d : Nat} : tbX7_good l X d = ctb l X d U0 cdX7_good := cec (cp18) <| cec (cp0 io_0_0) <| cec (cp38) <| cec (cp18) <| cec (cp0 io_0_0) <| cec (cp38) <| cec (cp57) <| cen
noncomputable def cdX7_no : List (Nat × Cd) := [(0, (18, 1, 0, 0, 0, [])), (1, (1, 1, 1, 0, 0, [])), (2, (38, 7, 11, 0, 0, [])), (5, (0, 1, 0, 0, (-1), [])), (6, (54, 0, 0, 0, 0, []))]
set_option maxRecDepth 20000 in
theorem ceX7_no {l : Launch} {X : Nat × (Nat → Int32)} {d : Nat} : tbX7_no l X d = ctb l X d U0 cdX7_no := cec (cp18) <| cec (cp1) <| cec (cp38) <| cec (cp0 io_6_m1) <| cec (cp54) <| cen
noncomputable def cdX7_isNot : List (Nat × Cd) := [(0, (18, 1, 0, 0, 0, [])), (1, (1, 1, 1, 0, 0, [])), (2, (38, 7, 11, 0, 0, [])), (5, (0, 1, 0, 0, 0, [])), (6, (55, 0, 0, 0, 0, []))]
set_option maxRecDepth 20000 in
theorem ceX7_isNot {l : Launch} {X : Nat × (Nat → Int32)} {d : Nat} : tbX7_isNot l X d = ctb l X d U0 cdX7_isNot := cec (cp18) <| cec (cp1) <| cec (cp38) <| cec (cp0 io_0_0) <| cec (cp55) <| cen
noncomputable def cdX7_in : List (Nat × Cd) := [(0, (1, 1, 0, 0, 0, [])), (1, (1, 1, 1, 0, 0, [])), (2, (15, 14, 2, 0, 0, [])), (5, (1, 1, 0, 0, 0, [])), (6, (1, 1, 2, 0, 0, [])), (7, (15, 14, 4, 0, 0, [])), (10, (0, 1, 0, 0, 1, [])), (11, (13, 15, 0, 0, 0, [])), (14, (0, 1, 0, 0, 0, [])), (15, (55, 0, 0, 0, 0, []))]
set_option maxRecDepth 20000 in
theorem ceX7_in {l : Launch} {X : Nat × (Nat → Int32)} {d : Nat} : tbX7_in l X d = ctb l X d U0 cdX7_in := cec (cp1) <| cec (cp1) <| cec (cp15_2) <| cec (cp1) <| cec (cp1) <| cec (cp15_4) <| cec (cp0 io_1_1) <| cec (cp13) <| cec (cp0 io_0_0) <| cec (cp55) <| cen
noncomputable def cdX7_hasBit : List (Nat × Cd) := [(0, (1, 1, 0, 0, 0, [])), (1, (1, 1, 1, 0, 0, [])), (2, (11, 0, 0, 0, 0, [])), (3, (0, 1, 0, 0, 1, [])), (4, (7, 0, 0, 0, 0, [])), (5, (0, 1, 0, 0, 1, [])), (6, (15, 13, 1, 0, 0, [])), (9, (0, 1, 0, 0, 1, [])), (10, (13, 14, 0, 0, 0, [])), (13, (0, 1, 0, 0, 0, [])), (14, (55, 0, 0, 0, 0, []))]
set_option maxRecDepth 20000 in
theorem ceX7_hasBit {l : Launch} {X : Nat × (Nat → Int32)} {d : Nat} : tbX7_hasBit l X d = ctb l X d U0 cdX7_hasBit := cec (cp1) <| cec (cp1) <| cec (cp11) <| cec (cp0 io_1_1) <| cec (cp7) <| cec (cp0 io_1_1) <| cec (cp15_1) <| cec (cp0 io_1_1) <| cec (cp13) <| cec (cp0 io_0_0) <| cec (cp55) <| cen
noncomputable def cdX7_ones : List (Nat × Cd) := [(0, (0, 1, 0, 0, 0, [])), (1, (2, 1, 1, 0, 0, [])), (2, (0, 1, 0, 0, 0, [])), (3, (2, 1, 2, 0, 0, [])), (4, (1, 1, 2, 0, 0, [])), (5, (0, 2, 0, 0, 8, [])), (7, (15, 24, 3, 0, 0, [])), (10, (1, 1, 1, 0, 0, [])), (11, (1, 1, 0, 0, 0, [])), (12, (1, 1, 2, 0, 0, [])), (13, (11, 0, 0, 0, 0, [])), (14, (0, 1, 0, 0, 1, [])), (15, (7, 0, 0, 0, 0, [])), (16, (4, 0, 0, 0, 0, [])), (17, (2, 1, 1, 0, 0, [])), (18, (3, 2, 0, 0, 1, [])), (21, (13, 4, 0, 0, 0, [])), (24, (1, 1, 1, 0, 0, [])), (25, (54, 0, 0, 0, 0, []))]
set_option maxRecDepth 20000 in
theorem ceX7_ones {l : Launch} {X : Nat × (Nat → Int32)} {d : Nat} : tbX7_ones l X d = ctb l X d U0 cdX7_ones := cec (cp0 io_0_0) <| cec (cp2) <| cec (cp0 io_0_0) <| cec (cp2) <| cec (cp1) <| cec (cp0 io_19_8) <| cec (cp15_3) <| cec (cp1) <| cec (cp1) <| cec (cp1) <| cec (cp11) <| cec (cp0 io_1_1) <| cec (cp7) <| cec (cp4) <| cec (cp2) <| cec (cp3 io_1_1) <| cec (cp13) <| cec (cp1) <| cec (cp54) <| cen
noncomputable def cdX7_fault : List (Nat × Cd) := [(0, (18, 1, 0, 0, 0, [])), (1, (0, 1, 0, 0, 0, [])), (2, (38, 7, 0, 0, 0, [])), (5, (18, 1, 0, 0, 0, [])), (6, (37, 7, 9, 0, 0, [])), (9, (54, 0, 0, 0, 0, []))]
set_option maxRecDepth 20000 in
theorem ceX7_fault {l : Launch} {X : Nat × (Nat → Int32)} {d : Nat} : tbX7_fault l X d = ctb l X d U0 cdX7_fault := cec (cp18) <| cec (cp0 io_0_0) <| cec (cp38) <| cec (cp18) <| cec (cp37) <| cec (cp54) <| cen
noncomputable def cdX7_where : List (Nat × Cd) := [(0, (18, 1, 0, 0, 0, [])), (1, (0, 1, 0, 0, 0, [])), (2, (38, 7, 0, 0, 0, [])), (5, (18, 1, 0, 0, 0, [])), (6, (37, 7, 11, 0, 0, [])), (9, (0, 1, 0, 0, 4, [])), (10, (15, 20, 1, 0, 0, [])), (13, (18, 1, 0, 0, 0, [])), (14, (37, 7, 10, 0, 0, [])), (17, (13, 21, 0, 0, 0, [])), (20, (0, 1, 0, 0, (-1), [])), (21, (54, 0, 0, 0, 0, []))]
set_option maxRecDepth 20000 in
theorem ceX7_where {l : Launch} {X : Nat × (Nat → Int32)} {d : Nat} : tbX7_where l X d = ctb l X d U0 cdX7_where := cec (cp18) <| cec (cp0 io_0_0) <| cec (cp38) <| cec (cp18) <| cec (cp37) <| cec (cp0 io_18_4) <| cec (cp15_1) <| cec (cp18) <| cec (cp37) <| cec (cp13) <| cec (cp0 io_6_m1) <| cec (cp54) <| cen
noncomputable def cdX7_isFace : List (Nat × Cd) := [(0, (18, 1, 0, 0, 0, [])), (1, (37, 7, 14, 0, 0, [])), (4, (14, 27, 0, 0, 0, [])), (7, (1, 1, 1, 0, 0, [])), (8, (0, 1, 0, 0, 0, [])), (9, (18, 1, 0, 0, 0, [])), (10, (37, 7, 15, 2, 0, [])), (13, (0, 1, 0, 0, 4, [])), (14, (42, 0, 0, 0, 0, [])), (15, (0, 1, 0, 0, 1, [])), (16, (5, 0, 0, 0, 0, [])), (17, (52, 149, 0, 3, 0, [])), (20, (14, 27, 0, 0, 0, [])), (23, (0, 1, 0, 0, 1, [])), (24, (13, 28, 0, 0, 0, [])), (27, (0, 1, 0, 0, 0, [])), (28, (55, 0, 0, 0, 0, []))]
set_option maxRecDepth 20000 in
theorem ceX7_isFace {l : Launch} {X : Nat × (Nat → Int32)} {d : Nat} : tbX7_isFace l X d = ctb l X d U0 cdX7_isFace := cec (cp18) <| cec (cp37) <| cec (cp14_0) <| cec (cp1) <| cec (cp0 io_0_0) <| cec (cp18) <| cec (cp37) <| cec (cp0 io_18_4) <| cec (cp42) <| cec (cp0 io_1_1) <| cec (cp5) <| cec (cp52 u0_149) <| cec (cp14_0) <| cec (cp0 io_1_1) <| cec (cp13) <| cec (cp0 io_0_0) <| cec (cp55) <| cen
noncomputable def cdX7_isCanon : List (Nat × Cd) := [(0, (18, 1, 0, 0, 0, [])), (1, (37, 7, 14, 0, 0, [])), (4, (14, 27, 0, 0, 0, [])), (7, (1, 1, 1, 0, 0, [])), (8, (0, 1, 0, 0, 0, [])), (9, (18, 1, 0, 0, 0, [])), (10, (37, 7, 15, 2, 0, [])), (13, (0, 1, 0, 0, 5, [])), (14, (42, 0, 0, 0, 0, [])), (15, (0, 1, 0, 0, 1, [])), (16, (5, 0, 0, 0, 0, [])), (17, (52, 149, 0, 3, 0, [])), (20, (14, 27, 0, 0, 0, [])), (23, (0, 1, 0, 0, 1, [])), (24, (13, 28, 0, 0, 0, [])), (27, (0, 1, 0, 0, 0, [])), (28, (55, 0, 0, 0, 0, []))]
set_option maxRecDepth 20000 in
theorem ceX7_isCanon {l : Launch} {X : Nat × (Nat → Int32)} {d : Nat} : tbX7_isCanon l X d = ctb l X d U0 cdX7_isCanon := cec (cp18) <| cec (cp37) <| cec (cp14_0) <| cec (cp1) <| cec (cp0 io_0_0) <| cec (cp18) <| cec (cp37) <| cec (cp0 io_5_5) <| cec (cp42) <| cec (cp0 io_1_1) <| cec (cp5) <| cec (cp52 u0_149) <| cec (cp14_0) <| cec (cp0 io_1_1) <| cec (cp13) <| cec (cp0 io_0_0) <| cec (cp55) <| cen
noncomputable def cdX7_cells : List (Nat × Cd) := [(0, (18, 1, 0, 0, 0, [])), (1, (37, 7, 15, 2, 0, [])), (4, (0, 1, 0, 0, 0, [])), (5, (42, 0, 0, 0, 0, [])), (6, (18, 1, 0, 0, 0, [])), (7, (37, 7, 15, 2, 0, [])), (10, (0, 1, 0, 0, 1, [])), (11, (42, 0, 0, 0, 0, [])), (12, (6, 0, 0, 0, 0, [])), (13, (54, 0, 0, 0, 0, []))]
set_option maxRecDepth 20000 in
theorem ceX7_cells {l : Launch} {X : Nat × (Nat → Int32)} {d : Nat} : tbX7_cells l X d = ctb l X d U0 cdX7_cells := cec (cp18) <| cec (cp37) <| cec (cp0 io_0_0) <| cec (cp42) <| cec (cp18) <| cec (cp37) <| cec (cp0 io_1_1) <| cec (cp42) <| cec (cp6) <| cec (cp54) <| cen
noncomputable def cdX7_isCell : List (Nat × Cd) := [(0, (18, 1, 0, 0, 0, [])), (1, (37, 7, 14, 0, 0, [])), (4, (14, 25, 0, 0, 0, [])), (7, (1, 1, 1, 0, 0, [])), (8, (0, 1, 0, 0, 0, [])), (9, (18, 1, 0, 0, 0, [])), (10, (51, 187, 7, 0, 0, [])), (13, (0, 1, 0, 0, 1, [])), (14, (5, 0, 0, 0, 0, [])), (15, (52, 149, 0, 3, 0, [])), (18, (14, 25, 0, 0, 0, [])), (21, (0, 1, 0, 0, 1, [])), (22, (13, 26, 0, 0, 0, [])), (25, (0, 1, 0, 0, 0, [])), (26, (55, 0, 0, 0, 0, []))]
set_option maxRecDepth 20000 in
theorem ceX7_isCell {l : Launch} {X : Nat × (Nat → Int32)} {d : Nat} : tbX7_isCell l X d = ctb l X d U0 cdX7_isCell := cec (cp18) <| cec (cp37) <| cec (cp14_0) <| cec (cp1) <| cec (cp0 io_0_0) <| cec (cp18) <| cec (cp51 u0_187) <| cec (cp0 io_1_1) <| cec (cp5) <| cec (cp52 u0_149) <| cec (cp14_0) <| cec (cp0 io_1_1) <| cec (cp13) <| cec (cp0 io_0_0) <| cec (cp55) <| cen
noncomputable def cdX7_isWalker : List (Nat × Cd) := [(0, (18, 1, 0, 0, 0, [])), (1, (37, 7, 14, 0, 0, [])), (4, (14, 28, 0, 0, 0, [])), (7, (1, 1, 1, 0, 0, [])), (8, (0, 1, 0, 0, 0, [])), (9, (18, 1, 0, 0, 0, [])), (10, (37, 7, 15, 2, 0, [])), (13, (0, 2, 0, 0, 6, [])), (15, (42, 0, 0, 0, 0, [])), (16, (0, 1, 0, 0, 1, [])), (17, (5, 0, 0, 0, 0, [])), (18, (52, 149, 0, 3, 0, [])), (21, (14, 28, 0, 0, 0, [])), (24, (0, 1, 0, 0, 1, [])), (25, (13, 29, 0, 0, 0, [])), (28, (0, 1, 0, 0, 0, [])), (29, (55, 0, 0, 0, 0, []))]
set_option maxRecDepth 20000 in
theorem ceX7_isWalker {l : Launch} {X : Nat × (Nat → Int32)} {d : Nat} : tbX7_isWalker l X d = ctb l X d U0 cdX7_isWalker := cec (cp18) <| cec (cp37) <| cec (cp14_0) <| cec (cp1) <| cec (cp0 io_0_0) <| cec (cp18) <| cec (cp37) <| cec (cp0 io_7_6) <| cec (cp42) <| cec (cp0 io_1_1) <| cec (cp5) <| cec (cp52 u0_149) <| cec (cp14_0) <| cec (cp0 io_1_1) <| cec (cp13) <| cec (cp0 io_0_0) <| cec (cp55) <| cen
noncomputable def cdX7_why : List (Nat × Cd) := [(0, (1, 1, 1, 0, 0, [])), (1, (14, 8, 1, 0, 0, [])), (4, (0, 1, 0, 0, 1, [])), (5, (13, 17, 0, 0, 0, [])), (8, (1, 1, 2, 0, 0, [])), (9, (14, 16, 0, 0, 0, [])), (12, (0, 1, 0, 0, 0, [])), (13, (13, 17, 0, 0, 0, [])), (16, (0, 1, 0, 0, 2, [])), (17, (54, 0, 0, 0, 0, []))]
set_option maxRecDepth 20000 in
theorem ceX7_why {l : Launch} {X : Nat × (Nat → Int32)} {d : Nat} : tbX7_why l X d = ctb l X d U0 cdX7_why := cec (cp1) <| cec (cp14_1) <| cec (cp0 io_1_1) <| cec (cp13) <| cec (cp1) <| cec (cp14_0) <| cec (cp0 io_0_0) <| cec (cp13) <| cec (cp0 io_2_2) <| cec (cp54) <| cen
noncomputable def cdX7_vexedBy : List (Nat × Cd) := [(0, (0, 1, 0, 0, 0, [])), (1, (2, 1, 2, 0, 0, [])), (2, (1, 1, 2, 0, 0, [])), (3, (18, 1, 0, 0, 0, [])), (4, (37, 7, 15, 2, 0, [])), (7, (0, 1, 0, 0, 5, [])), (8, (42, 0, 0, 0, 0, [])), (9, (15, 35, 3, 0, 0, [])), (12, (18, 1, 0, 0, 0, [])), (13, (37, 7, 24, 2, 0, [])), (16, (1, 1, 2, 0, 0, [])), (17, (18, 1, 0, 0, 0, [])), (18, (37, 7, 15, 2, 0, [])), (21, (0, 2, 0, 0, 35, [])), (23, (0, 1, 0, 0, 2, [])), (24, (1, 1, 2, 0, 0, [])), (25, (6, 0, 0, 0, 0, [])), (26, (4, 0, 0, 0, 0, [])), (27, (42, 0, 0, 0, 0, [])), (28, (46, 0, 0, 0, 0, [])), (29, (3, 2, 0, 0, 1, [])), (32, (13, 2, 0, 0, 0, [])), (35, (0, 1, 0, 0, 0, [])), (36, (2, 1, 2, 0, 0, [])), (37, (1, 1, 2, 0, 0, [])), (38, (18, 1, 0, 0, 0, [])), (39, (37, 7, 15, 2, 0, [])), (42, (0, 2, 0, 0, 7, [])), (44, (42, 0, 0, 0, 0, [])), (45, (15, 91, 3, 0, 0, [])), (48, (1, 1, 1, 0, 0, [])), (49, (1, 1, 2, 0, 0, [])), (50, (52, 150, 0, 2, 0, [])), (53, (14, 85, 0, 0, 0, [])), (56, (18, 1, 0, 0, 0, [])), (57, (37, 7, 24, 2, 0, [])), (60, (18, 1, 0, 0, 0, [])), (61, (37, 7, 15, 2, 0, [])), (64, (0, 2, 0, 0, 53, [])), (66, (0, 1, 0, 0, 2, [])), (67, (1, 1, 2, 0, 0, [])), (68, (6, 0, 0, 0, 0, [])), (69, (4, 0, 0, 0, 0, [])), (70, (42, 0, 0, 0, 0, [])), (71, (18, 1, 0, 0, 0, [])), (72, (37, 7, 15, 2, 0, [])), (75, (0, 2, 0, 0, 53, [])), (77, (0, 1, 0, 0, 2, [])), (78, (1, 1, 2, 0, 0, [])), (79, (6, 0, 0, 0, 0, [])), (80, (4, 0, 0, 0, 0, [])), (81, (0, 1, 0, 0, 1, [])), (82, (4, 0, 0, 0, 0, [])), (83, (42, 0, 0, 0, 0, [])), (84, (46, 0, 0, 0, 0, [])), (85, (3, 2, 0, 0, 1, [])), (88, (13, 37, 0, 0, 0, [])), (91, (57, 0, 0, 0, 0, []))]
set_option maxRecDepth 20000 in
theorem ceX7_vexedBy {l : Launch} {X : Nat × (Nat → Int32)} {d : Nat} : tbX7_vexedBy l X d = ctb l X d U0 cdX7_vexedBy := cec (cp0 io_0_0) <| cec (cp2) <| cec (cp1) <| cec (cp18) <| cec (cp37) <| cec (cp0 io_5_5) <| cec (cp42) <| cec (cp15_3) <| cec (cp18) <| cec (cp37) <| cec (cp1) <| cec (cp18) <| cec (cp37) <| cec (cp0 io_47_35) <| cec (cp0 io_2_2) <| cec (cp1) <| cec (cp6) <| cec (cp4) <| cec (cp42) <| cec (cp46) <| cec (cp3 io_1_1) <| cec (cp13) <| cec (cp0 io_0_0) <| cec (cp2) <| cec (cp1) <| cec (cp18) <| cec (cp37) <| cec (cp0 io_22_7) <| cec (cp42) <| cec (cp15_3) <| cec (cp1) <| cec (cp1) <| cec (cp52 u0_150) <| cec (cp14_0) <| cec (cp18) <| cec (cp37) <| cec (cp18) <| cec (cp37) <| cec (cp0 io_49_53) <| cec (cp0 io_2_2) <| cec (cp1) <| cec (cp6) <| cec (cp4) <| cec (cp42) <| cec (cp18) <| cec (cp37) <| cec (cp0 io_49_53) <| cec (cp0 io_2_2) <| cec (cp1) <| cec (cp6) <| cec (cp4) <| cec (cp0 io_1_1) <| cec (cp4) <| cec (cp42) <| cec (cp46) <| cec (cp3 io_1_1) <| cec (cp13) <| cec (cp57) <| cen
noncomputable def cdX7_letsGo : List (Nat × Cd) := [(0, (18, 1, 0, 0, 0, [])), (1, (37, 7, 15, 2, 0, [])), (4, (0, 2, 0, 0, 11, [])), (6, (0, 1, 0, 0, 4, [])), (7, (1, 1, 2, 0, 0, [])), (8, (6, 0, 0, 0, 0, [])), (9, (4, 0, 0, 0, 0, [])), (10, (42, 0, 0, 0, 0, [])), (11, (2, 1, 3, 0, 0, [])), (12, (18, 1, 1, 0, 0, [])), (13, (1, 1, 2, 0, 0, [])), (14, (42, 0, 0, 0, 0, [])), (15, (2, 2, 4, 0, 0, [])), (17, (18, 1, 1, 0, 0, [])), (18, (0, 2, 0, 0, 6, [])), (20, (1, 1, 2, 0, 0, [])), (21, (4, 0, 0, 0, 0, [])), (22, (42, 0, 0, 0, 0, [])), (23, (2, 2, 5, 0, 0, [])), (25, (1, 1, 3, 0, 0, [])), (26, (14, 43, 1, 0, 0, [])), (29, (1, 2, 5, 0, 0, [])), (31, (1, 2, 4, 0, 0, [])), (33, (15, 41, 2, 0, 0, [])), (36, (1, 2, 5, 0, 0, [])), (38, (13, 42, 0, 0, 0, [])), (41, (0, 1, 0, 0, 0, [])), (42, (54, 0, 0, 0, 0, [])), (43, (1, 1, 3, 0, 0, [])), (44, (0, 1, 0, 0, 1, [])), (45, (15, 62, 1, 0, 0, [])), (48, (1, 2, 5, 0, 0, [])), (50, (1, 2, 4, 0, 0, [])), (52, (15, 60, 2, 0, 0, [])), (55, (1, 2, 4, 0, 0, [])), (57, (13, 61, 0, 0, 0, [])), (60, (0, 1, 0, 0, 0, [])), (61, (54, 0, 0, 0, 0, [])), (62, (1, 2, 5, 0, 0, [])), (64, (0, 1, 0, 0, 2, [])), (65, (1, 2, 4, 0, 0, [])), (67, (6, 0, 0, 0, 0, [])), (68, (15, 76, 2, 0, 0, [])), (71, (1, 2, 5, 0, 0, [])), (73, (13, 77, 0, 0, 0, [])), (76, (0, 1, 0, 0, 0, [])), (77, (54, 0, 0, 0, 0, []))]
set_option maxRecDepth 20000 in
theorem ceX7_letsGo {l : Launch} {X : Nat × (Nat → Int32)} {d : Nat} : tbX7_letsGo l X d = ctb l X d U0 cdX7_letsGo := cec (cp18) <| cec (cp37) <| cec (cp0 io_45_11) <| cec (cp0 io_18_4) <| cec (cp1) <| cec (cp6) <| cec (cp4) <| cec (cp42) <| cec (cp2) <| cec (cp18) <| cec (cp1) <| cec (cp42) <| cec (cp2) <| cec (cp18) <| cec (cp0 io_7_6) <| cec (cp1) <| cec (cp4) <| cec (cp42) <| cec (cp2) <| cec (cp1) <| cec (cp14_1) <| cec (cp1) <| cec (cp1) <| cec (cp15_2) <| cec (cp1) <| cec (cp13) <| cec (cp0 io_0_0) <| cec (cp54) <| cec (cp1) <| cec (cp0 io_1_1) <| cec (cp15_1) <| cec (cp1) <| cec (cp1) <| cec (cp15_2) <| cec (cp1) <| cec (cp13) <| cec (cp0 io_0_0) <| cec (cp54) <| cec (cp1) <| cec (cp0 io_2_2) <| cec (cp1) <| cec (cp6) <| cec (cp15_2) <| cec (cp1) <| cec (cp13) <| cec (cp0 io_0_0) <| cec (cp54) <| cen
noncomputable def cdX7_dayOn : List (Nat × Cd) := [(0, (18, 1, 1, 0, 0, [])), (1, (0, 2, 0, 0, 23, [])), (3, (35, 0, 0, 0, 0, [])), (4, (42, 0, 0, 0, 0, [])), (5, (0, 1, 0, 0, 1, [])), (6, (4, 0, 0, 0, 0, [])), (7, (46, 0, 0, 0, 0, [])), (8, (18, 1, 1, 0, 0, [])), (9, (0, 2, 0, 0, 24, [])), (11, (0, 1, 0, 0, 0, [])), (12, (46, 0, 0, 0, 0, [])), (13, (0, 1, 0, 0, 0, [])), (14, (2, 1, 3, 0, 0, [])), (15, (1, 1, 3, 0, 0, [])), (16, (18, 1, 0, 0, 0, [])), (17, (37, 7, 15, 2, 0, [])), (20, (0, 1, 0, 0, 5, [])), (21, (42, 0, 0, 0, 0, [])), (22, (15, 87, 3, 0, 0, [])), (25, (1, 1, 2, 0, 0, [])), (26, (14, 81, 1, 0, 0, [])), (29, (18, 1, 1, 0, 0, [])), (30, (0, 2, 0, 0, 23, [])), (32, (42, 0, 0, 0, 0, [])), (33, (18, 1, 0, 0, 0, [])), (34, (37, 7, 15, 2, 0, [])), (37, (0, 2, 0, 0, 35, [])), (39, (0, 1, 0, 0, 2, [])), (40, (1, 1, 3, 0, 0, [])), (41, (6, 0, 0, 0, 0, [])), (42, (4, 0, 0, 0, 0, [])), (43, (0, 1, 0, 0, 1, [])), (44, (4, 0, 0, 0, 0, [])), (45, (42, 0, 0, 0, 0, [])), (46, (22, 0, 0, 0, 0, [])), (47, (14, 81, 1, 0, 0, [])), (50, (18, 1, 1, 0, 0, [])), (51, (18, 1, 1, 0, 0, [])), (52, (0, 2, 0, 0, 18, [])), (54, (1, 1, 3, 0, 0, [])), (55, (4, 0, 0, 0, 0, [])), (56, (42, 0, 0, 0, 0, [])), (57, (42, 0, 0, 0, 0, [])), (58, (14, 81, 5, 0, 0, [])), (61, (18, 1, 1, 0, 0, [])), (62, (0, 2, 0, 0, 6, [])), (64, (18, 1, 1, 0, 0, [])), (65, (0, 2, 0, 0, 18, [])), (67, (1, 1, 3, 0, 0, [])), (68, (4, 0, 0, 0, 0, [])), (69, (42, 0, 0, 0, 0, [])), (70, (4, 0, 0, 0, 0, [])), (71, (35, 0, 0, 0, 0, [])), (72, (42, 0, 0, 0, 0, [])), (73, (18, 1, 0, 0, 0, [])), (74, (37, 7, 24, 2, 0, [])), (77, (1, 1, 3, 0, 0, [])), (78, (42, 0, 0, 0, 0, [])), (79, (4, 0, 0, 0, 0, [])), (80, (46, 0, 0, 0, 0, [])), (81, (3, 3, 0, 0, 1, [])), (84, (13, 15, 0, 0, 0, [])), (87, (0, 1, 0, 0, 0, [])), (88, (2, 1, 3, 0, 0, [])), (89, (1, 1, 3, 0, 0, [])), (90, (18, 1, 0, 0, 0, [])), (91, (37, 7, 15, 2, 0, [])), (94, (0, 1, 0, 0, 4, [])), (95, (42, 0, 0, 0, 0, [])), (96, (15, 214, 3, 0, 0, [])), (99, (18, 1, 1, 0, 0, [])), (100, (1, 1, 3, 0, 0, [])), (101, (42, 0, 0, 0, 0, [])), (102, (14, 109, 1, 0, 0, [])), (105, (0, 1, 0, 0, 0, [])), (106, (13, 115, 0, 0, 0, [])), (109, (18, 1, 0, 0, 0, [])), (110, (18, 1, 1, 0, 0, [])), (111, (1, 1, 3, 0, 0, [])), (112, (51, 192, 7, 2, 0, [])), (115, (2, 2, 4, 0, 0, [])), (117, (1, 2, 4, 0, 0, [])), (119, (14, 125, 1, 0, 0, [])), (122, (13, 208, 0, 0, 0, [])), (125, (18, 1, 1, 0, 0, [])), (126, (0, 2, 0, 0, 6, [])), (128, (1, 1, 3, 0, 0, [])), (129, (4, 0, 0, 0, 0, [])), (130, (35, 0, 0, 0, 0, [])), (131, (42, 0, 0, 0, 0, [])), (132, (1, 2, 4, 0, 0, [])), (134, (5, 0, 0, 0, 0, [])), (135, (46, 0, 0, 0, 0, [])), (136, (18, 1, 1, 0, 0, [])), (137, (0, 2, 0, 0, 12, [])), (139, (1, 1, 3, 0, 0, [])), (140, (4, 0, 0, 0, 0, [])), (141, (35, 0, 0, 0, 0, [])), (142, (42, 0, 0, 0, 0, [])), (143, (0, 1, 0, 0, 1, [])), (144, (4, 0, 0, 0, 0, [])), (145, (46, 0, 0, 0, 0, [])), (146, (18, 1, 1, 0, 0, [])), (147, (0, 2, 0, 0, 24, [])), (149, (35, 0, 0, 0, 0, [])), (150, (42, 0, 0, 0, 0, [])), (151, (0, 1, 0, 0, 1, [])), (152, (18, 1, 0, 0, 0, [])), (153, (37, 7, 15, 2, 0, [])), (156, (0, 2, 0, 0, 11, [])), (158, (0, 1, 0, 0, 4, [])), (159, (1, 1, 3, 0, 0, [])), (160, (6, 0, 0, 0, 0, [])), (161, (4, 0, 0, 0, 0, [])), (162, (0, 1, 0, 0, 3, [])), (163, (4, 0, 0, 0, 0, [])), (164, (42, 0, 0, 0, 0, [])), (165, (10, 0, 0, 0, 0, [])), (166, (8, 0, 0, 0, 0, [])), (167, (46, 0, 0, 0, 0, [])), (168, (18, 1, 1, 0, 0, [])), (169, (1, 1, 3, 0, 0, [])), (170, (35, 0, 0, 0, 0, [])), (171, (42, 0, 0, 0, 0, [])), (172, (18, 1, 0, 0, 0, [])), (173, (37, 7, 15, 2, 0, [])), (176, (0, 2, 0, 0, 11, [])), (178, (0, 1, 0, 0, 4, [])), (179, (1, 1, 3, 0, 0, [])), (180, (6, 0, 0, 0, 0, [])), (181, (4, 0, 0, 0, 0, [])), (182, (0, 1, 0, 0, 2, [])), (183, (4, 0, 0, 0, 0, [])), (184, (42, 0, 0, 0, 0, [])), (185, (5, 0, 0, 0, 0, [])), (186, (46, 0, 0, 0, 0, [])), (187, (18, 1, 1, 0, 0, [])), (188, (1, 1, 3, 0, 0, [])), (189, (42, 0, 0, 0, 0, [])), (190, (0, 1, 0, 0, 1, [])), (191, (15, 197, 2, 0, 0, [])), (194, (13, 208, 0, 0, 0, [])), (197, (18, 1, 1, 0, 0, [])), (198, (1, 1, 3, 0, 0, [])), (199, (0, 1, 0, 0, 0, [])), (200, (46, 0, 0, 0, 0, [])), (201, (18, 1, 1, 0, 0, [])), (202, (0, 2, 0, 0, 6, [])), (204, (1, 1, 3, 0, 0, [])), (205, (4, 0, 0, 0, 0, [])), (206, (0, 1, 0, 0, 0, [])), (207, (46, 0, 0, 0, 0, [])), (208, (3, 3, 0, 0, 1, [])), (211, (13, 89, 0, 0, 0, [])), (214, (57, 0, 0, 0, 0, []))]
set_option maxRecDepth 20000 in
theorem ceX7_dayOn {l : Launch} {X : Nat × (Nat → Int32)} {d : Nat} : tbX7_dayOn l X d = ctb l X d U0 cdX7_dayOn := cec (cp18) <| cec (cp0 io_51_23) <| cec (cp35) <| cec (cp42) <| cec (cp0 io_1_1) <| cec (cp4) <| cec (cp46) <| cec (cp18) <| cec (cp0 io_8_24) <| cec (cp0 io_0_0) <| cec (cp46) <| cec (cp0 io_0_0) <| cec (cp2) <| cec (cp1) <| cec (cp18) <| cec (cp37) <| cec (cp0 io_5_5) <| cec (cp42) <| cec (cp15_3) <| cec (cp1) <| cec (cp14_1) <| cec (cp18) <| cec (cp0 io_51_23) <| cec (cp42) <| cec (cp18) <| cec (cp37) <| cec (cp0 io_47_35) <| cec (cp0 io_2_2) <| cec (cp1) <| cec (cp6) <| cec (cp4) <| cec (cp0 io_1_1) <| cec (cp4) <| cec (cp42) <| cec (cp22) <| cec (cp14_1) <| cec (cp18) <| cec (cp18) <| cec (cp0 io_46_18) <| cec (cp1) <| cec (cp4) <| cec (cp42) <| cec (cp42) <| cec (cp14_5) <| cec (cp18) <| cec (cp0 io_7_6) <| cec (cp18) <| cec (cp0 io_46_18) <| cec (cp1) <| cec (cp4) <| cec (cp42) <| cec (cp4) <| cec (cp35) <| cec (cp42) <| cec (cp18) <| cec (cp37) <| cec (cp1) <| cec (cp42) <| cec (cp4) <| cec (cp46) <| cec (cp3 io_1_1) <| cec (cp13) <| cec (cp0 io_0_0) <| cec (cp2) <| cec (cp1) <| cec (cp18) <| cec (cp37) <| cec (cp0 io_18_4) <| cec (cp42) <| cec (cp15_3) <| cec (cp18) <| cec (cp1) <| cec (cp42) <| cec (cp14_1) <| cec (cp0 io_0_0) <| cec (cp13) <| cec (cp18) <| cec (cp18) <| cec (cp1) <| cec (cp51 u0_192) <| cec (cp2) <| cec (cp1) <| cec (cp14_1) <| cec (cp13) <| cec (cp18) <| cec (cp0 io_7_6) <| cec (cp1) <| cec (cp4) <| cec (cp35) <| cec (cp42) <| cec (cp1) <| cec (cp5) <| cec (cp46) <| cec (cp18) <| cec (cp0 io_39_12) <| cec (cp1) <| cec (cp4) <| cec (cp35) <| cec (cp42) <| cec (cp0 io_1_1) <| cec (cp4) <| cec (cp46) <| cec (cp18) <| cec (cp0 io_8_24) <| cec (cp35) <| cec (cp42) <| cec (cp0 io_1_1) <| cec (cp18) <| cec (cp37) <| cec (cp0 io_45_11) <| cec (cp0 io_18_4) <| cec (cp1) <| cec (cp6) <| cec (cp4) <| cec (cp0 io_11_3) <| cec (cp4) <| cec (cp42) <| cec (cp10) <| cec (cp8) <| cec (cp46) <| cec (cp18) <| cec (cp1) <| cec (cp35) <| cec (cp42) <| cec (cp18) <| cec (cp37) <| cec (cp0 io_45_11) <| cec (cp0 io_18_4) <| cec (cp1) <| cec (cp6) <| cec (cp4) <| cec (cp0 io_2_2) <| cec (cp4) <| cec (cp42) <| cec (cp5) <| cec (cp46) <| cec (cp18) <| cec (cp1) <| cec (cp42) <| cec (cp0 io_1_1) <| cec (cp15_2) <| cec (cp13) <| cec (cp18) <| cec (cp1) <| cec (cp0 io_0_0) <| cec (cp46) <| cec (cp18) <| cec (cp0 io_7_6) <| cec (cp1) <| cec (cp4) <| cec (cp0 io_0_0) <| cec (cp46) <| cec (cp3 io_1_1) <| cec (cp13) <| cec (cp57) <| cen
noncomputable def cdX7_daysOn : List (Nat × Cd) := [(0, (18, 1, 0, 0, 0, [])), (1, (0, 1, 0, 0, 0, [])), (2, (51, 191, 7, 1, 0, [])), (5, (18, 1, 0, 0, 0, [])), (6, (37, 7, 19, 2, 0, [])), (9, (0, 1, 0, 0, 0, [])), (10, (18, 1, 0, 0, 0, [])), (11, (37, 7, 25, 2, 0, [])), (14, (0, 1, 0, 0, 0, [])), (15, (0, 2, 0, 0, 25, [])), (17, (58, 152, 0, 0, 0, [])), (20, (0, 1, 0, 0, 0, [])), (21, (2, 1, 2, 0, 0, [])), (22, (1, 1, 2, 0, 0, [])), (23, (1, 1, 1, 0, 0, [])), (24, (15, 42, 3, 0, 0, [])), (27, (18, 1, 0, 0, 0, [])), (28, (18, 1, 0, 0, 0, [])), (29, (37, 7, 25, 2, 0, [])), (32, (0, 1, 0, 0, 0, [])), (33, (51, 193, 7, 2, 0, [])), (36, (3, 2, 0, 0, 1, [])), (39, (13, 22, 0, 0, 0, [])), (42, (57, 0, 0, 0, 0, []))]
set_option maxRecDepth 20000 in
theorem ceX7_daysOn {l : Launch} {X : Nat × (Nat → Int32)} {d : Nat} : tbX7_daysOn l X d = ctb l X d U0 cdX7_daysOn := cec (cp18) <| cec (cp0 io_0_0) <| cec (cp51 u0_191) <| cec (cp18) <| cec (cp37) <| cec (cp0 io_0_0) <| cec (cp18) <| cec (cp37) <| cec (cp0 io_0_0) <| cec (cp0 io_44_25) <| cec (cp58 u0_152) <| cec (cp0 io_0_0) <| cec (cp2) <| cec (cp1) <| cec (cp1) <| cec (cp15_3) <| cec (cp18) <| cec (cp18) <| cec (cp37) <| cec (cp0 io_0_0) <| cec (cp51 u0_193) <| cec (cp3 io_1_1) <| cec (cp13) <| cec (cp57) <| cen
noncomputable def cdX7_letsOf : List (Nat × Cd) := [(0, (0, 1, 0, 0, 0, [])), (1, (2, 1, 2, 0, 0, [])), (2, (0, 1, 0, 0, 0, [])), (3, (2, 1, 3, 0, 0, [])), (4, (1, 1, 3, 0, 0, [])), (5, (18, 1, 0, 0, 0, [])), (6, (37, 7, 15, 2, 0, [])), (9, (0, 1, 0, 0, 4, [])), (10, (42, 0, 0, 0, 0, [])), (11, (15, 29, 3, 0, 0, [])), (14, (1, 1, 2, 0, 0, [])), (15, (18, 1, 1, 0, 0, [])), (16, (0, 2, 0, 0, 12, [])), (18, (1, 1, 3, 0, 0, [])), (19, (4, 0, 0, 0, 0, [])), (20, (42, 0, 0, 0, 0, [])), (21, (4, 0, 0, 0, 0, [])), (22, (2, 1, 2, 0, 0, [])), (23, (3, 3, 0, 0, 1, [])), (26, (13, 4, 0, 0, 0, [])), (29, (1, 1, 2, 0, 0, [])), (30, (54, 0, 0, 0, 0, []))]
set_option maxRecDepth 20000 in
theorem ceX7_letsOf {l : Launch} {X : Nat × (Nat → Int32)} {d : Nat} : tbX7_letsOf l X d = ctb l X d U0 cdX7_letsOf := cec (cp0 io_0_0) <| cec (cp2) <| cec (cp0 io_0_0) <| cec (cp2) <| cec (cp1) <| cec (cp18) <| cec (cp37) <| cec (cp0 io_18_4) <| cec (cp42) <| cec (cp15_3) <| cec (cp1) <| cec (cp18) <| cec (cp0 io_39_12) <| cec (cp1) <| cec (cp4) <| cec (cp42) <| cec (cp4) <| cec (cp2) <| cec (cp3 io_1_1) <| cec (cp13) <| cec (cp1) <| cec (cp54) <| cen
noncomputable def cdX7_fallenOn : List (Nat × Cd) := [(0, (0, 1, 0, 0, 0, [])), (1, (2, 1, 2, 0, 0, [])), (2, (0, 1, 0, 0, 0, [])), (3, (2, 1, 3, 0, 0, [])), (4, (1, 1, 3, 0, 0, [])), (5, (18, 1, 0, 0, 0, [])), (6, (37, 7, 15, 2, 0, [])), (9, (0, 1, 0, 0, 4, [])), (10, (42, 0, 0, 0, 0, [])), (11, (15, 36, 3, 0, 0, [])), (14, (1, 1, 2, 0, 0, [])), (15, (18, 1, 1, 0, 0, [])), (16, (1, 1, 3, 0, 0, [])), (17, (42, 0, 0, 0, 0, [])), (18, (14, 27, 1, 0, 0, [])), (21, (0, 1, 0, 0, 1, [])), (22, (1, 1, 3, 0, 0, [])), (23, (10, 0, 0, 0, 0, [])), (24, (13, 28, 0, 0, 0, [])), (27, (0, 1, 0, 0, 0, [])), (28, (8, 0, 0, 0, 0, [])), (29, (2, 1, 2, 0, 0, [])), (30, (3, 3, 0, 0, 1, [])), (33, (13, 4, 0, 0, 0, [])), (36, (1, 1, 2, 0, 0, [])), (37, (54, 0, 0, 0, 0, []))]
set_option maxRecDepth 20000 in
theorem ceX7_fallenOn {l : Launch} {X : Nat × (Nat → Int32)} {d : Nat} : tbX7_fallenOn l X d = ctb l X d U0 cdX7_fallenOn := cec (cp0 io_0_0) <| cec (cp2) <| cec (cp0 io_0_0) <| cec (cp2) <| cec (cp1) <| cec (cp18) <| cec (cp37) <| cec (cp0 io_18_4) <| cec (cp42) <| cec (cp15_3) <| cec (cp1) <| cec (cp18) <| cec (cp1) <| cec (cp42) <| cec (cp14_1) <| cec (cp0 io_1_1) <| cec (cp1) <| cec (cp10) <| cec (cp13) <| cec (cp0 io_0_0) <| cec (cp8) <| cec (cp2) <| cec (cp3 io_1_1) <| cec (cp13) <| cec (cp1) <| cec (cp54) <| cen
noncomputable def cdX7_canonOf : List (Nat × Cd) := [(0, (0, 1, 0, 0, 0, [])), (1, (2, 1, 2, 0, 0, [])), (2, (1, 1, 2, 0, 0, [])), (3, (18, 1, 0, 0, 0, [])), (4, (37, 7, 15, 2, 0, [])), (7, (0, 1, 0, 0, 5, [])), (8, (42, 0, 0, 0, 0, [])), (9, (15, 33, 3, 0, 0, [])), (12, (18, 1, 0, 0, 0, [])), (13, (37, 7, 19, 2, 0, [])), (16, (0, 2, 0, 0, 18, [])), (18, (1, 1, 2, 0, 0, [])), (19, (4, 0, 0, 0, 0, [])), (20, (42, 0, 0, 0, 0, [])), (21, (1, 1, 1, 0, 0, [])), (22, (15, 27, 1, 0, 0, [])), (25, (1, 1, 2, 0, 0, [])), (26, (54, 0, 0, 0, 0, [])), (27, (3, 2, 0, 0, 1, [])), (30, (13, 2, 0, 0, 0, [])), (33, (0, 2, 0, 0, (-2), [])), (35, (54, 0, 0, 0, 0, []))]
set_option maxRecDepth 20000 in
theorem ceX7_canonOf {l : Launch} {X : Nat × (Nat → Int32)} {d : Nat} : tbX7_canonOf l X d = ctb l X d U0 cdX7_canonOf := cec (cp0 io_0_0) <| cec (cp2) <| cec (cp1) <| cec (cp18) <| cec (cp37) <| cec (cp0 io_5_5) <| cec (cp42) <| cec (cp15_3) <| cec (cp18) <| cec (cp37) <| cec (cp0 io_46_18) <| cec (cp1) <| cec (cp4) <| cec (cp42) <| cec (cp1) <| cec (cp15_1) <| cec (cp1) <| cec (cp54) <| cec (cp3 io_1_1) <| cec (cp13) <| cec (cp0 io_3_m2) <| cec (cp54) <| cen
noncomputable def cdX7_face : List (Nat × Cd) := [(0, (18, 1, 0, 0, 0, [])), (1, (51, 146, 7, 0, 0, [])), (4, (18, 1, 0, 0, 0, [])), (5, (1, 1, 1, 0, 0, [])), (6, (51, 185, 7, 1, 0, [])), (9, (14, 22, 0, 0, 0, [])), (12, (1, 1, 2, 0, 0, [])), (13, (0, 1, 0, 0, 0, [])), (14, (0, 2, 0, 0, 6, [])), (16, (52, 149, 0, 3, 0, [])), (19, (14, 28, 1, 0, 0, [])), (22, (18, 1, 0, 0, 0, [])), (23, (0, 1, 0, 0, 1, [])), (24, (51, 147, 7, 1, 0, [])), (27, (54, 0, 0, 0, 0, [])), (28, (1, 1, 2, 0, 0, [])), (29, (16, 128, 0, 0, 0, [68, 80, 87, 97, 112, 122])), (68, (18, 1, 0, 0, 0, [])), (69, (37, 7, 15, 2, 0, [])), (72, (0, 2, 0, 0, 11, [])), (74, (0, 1, 0, 0, 4, [])), (75, (1, 1, 1, 0, 0, [])), (76, (6, 0, 0, 0, 0, [])), (77, (4, 0, 0, 0, 0, [])), (78, (42, 0, 0, 0, 0, [])), (79, (54, 0, 0, 0, 0, [])), (80, (18, 1, 0, 0, 0, [])), (81, (37, 7, 19, 2, 0, [])), (84, (1, 1, 1, 0, 0, [])), (85, (42, 0, 0, 0, 0, [])), (86, (54, 0, 0, 0, 0, [])), (87, (18, 1, 0, 0, 0, [])), (88, (37, 7, 19, 2, 0, [])), (91, (0, 2, 0, 0, 6, [])), (93, (1, 1, 1, 0, 0, [])), (94, (4, 0, 0, 0, 0, [])), (95, (42, 0, 0, 0, 0, [])), (96, (54, 0, 0, 0, 0, [])), (97, (18, 1, 0, 0, 0, [])), (98, (37, 7, 19, 2, 0, [])), (101, (1, 1, 1, 0, 0, [])), (102, (42, 0, 0, 0, 0, [])), (103, (14, 110, 1, 0, 0, [])), (106, (0, 1, 0, 0, 1, [])), (107, (13, 111, 0, 0, 0, [])), (110, (0, 1, 0, 0, 0, [])), (111, (54, 0, 0, 0, 0, [])), (112, (18, 1, 0, 0, 0, [])), (113, (37, 7, 19, 2, 0, [])), (116, (0, 2, 0, 0, 12, [])), (118, (1, 1, 1, 0, 0, [])), (119, (4, 0, 0, 0, 0, [])), (120, (42, 0, 0, 0, 0, [])), (121, (54, 0, 0, 0, 0, [])), (122, (18, 1, 0, 0, 0, [])), (123, (1, 1, 1, 0, 0, [])), (124, (51, 197, 7, 1, 0, [])), (127, (54, 0, 0, 0, 0, [])), (128, (18, 1, 0, 0, 0, [])), (129, (37, 7, 15, 2, 0, [])), (132, (0, 2, 0, 0, 11, [])), (134, (0, 1, 0, 0, 4, [])), (135, (1, 1, 1, 0, 0, [])), (136, (6, 0, 0, 0, 0, [])), (137, (4, 0, 0, 0, 0, [])), (138, (0, 1, 0, 0, 3, [])), (139, (4, 0, 0, 0, 0, [])), (140, (42, 0, 0, 0, 0, [])), (141, (54, 0, 0, 0, 0, []))]
set_option maxRecDepth 20000 in
theorem ceX7_face {l : Launch} {X : Nat × (Nat → Int32)} {d : Nat} : tbX7_face l X d = ctb l X d U0 cdX7_face := cec (cp18) <| cec (cp51 u0_146) <| cec (cp18) <| cec (cp1) <| cec (cp51 u0_185) <| cec (cp14_0) <| cec (cp1) <| cec (cp0 io_0_0) <| cec (cp0 io_7_6) <| cec (cp52 u0_149) <| cec (cp14_1) <| cec (cp18) <| cec (cp0 io_1_1) <| cec (cp51 u0_147) <| cec (cp54) <| cec (cp1) <| cec (cp16) <| cec (cp18) <| cec (cp37) <| cec (cp0 io_45_11) <| cec (cp0 io_18_4) <| cec (cp1) <| cec (cp6) <| cec (cp4) <| cec (cp42) <| cec (cp54) <| cec (cp18) <| cec (cp37) <| cec (cp1) <| cec (cp42) <| cec (cp54) <| cec (cp18) <| cec (cp37) <| cec (cp0 io_7_6) <| cec (cp1) <| cec (cp4) <| cec (cp42) <| cec (cp54) <| cec (cp18) <| cec (cp37) <| cec (cp1) <| cec (cp42) <| cec (cp14_1) <| cec (cp0 io_1_1) <| cec (cp13) <| cec (cp0 io_0_0) <| cec (cp54) <| cec (cp18) <| cec (cp37) <| cec (cp0 io_39_12) <| cec (cp1) <| cec (cp4) <| cec (cp42) <| cec (cp54) <| cec (cp18) <| cec (cp1) <| cec (cp51 u0_197) <| cec (cp54) <| cec (cp18) <| cec (cp37) <| cec (cp0 io_45_11) <| cec (cp0 io_18_4) <| cec (cp1) <| cec (cp6) <| cec (cp4) <| cec (cp0 io_11_3) <| cec (cp4) <| cec (cp42) <| cec (cp54) <| cen
noncomputable def cdX7_canon : List (Nat × Cd) := [(0, (18, 1, 0, 0, 0, [])), (1, (51, 146, 7, 0, 0, [])), (4, (18, 1, 0, 0, 0, [])), (5, (1, 1, 1, 0, 0, [])), (6, (51, 186, 7, 1, 0, [])), (9, (14, 21, 0, 0, 0, [])), (12, (1, 1, 2, 0, 0, [])), (13, (0, 1, 0, 0, 0, [])), (14, (0, 1, 0, 0, 2, [])), (15, (52, 149, 0, 3, 0, [])), (18, (14, 27, 1, 0, 0, [])), (21, (18, 1, 0, 0, 0, [])), (22, (0, 1, 0, 0, 1, [])), (23, (51, 147, 7, 1, 0, [])), (26, (54, 0, 0, 0, 0, [])), (27, (1, 1, 2, 0, 0, [])), (28, (14, 43, 1, 0, 0, [])), (31, (18, 1, 0, 0, 0, [])), (32, (37, 7, 19, 2, 0, [])), (35, (0, 2, 0, 0, 18, [])), (37, (1, 1, 1, 0, 0, [])), (38, (4, 0, 0, 0, 0, [])), (39, (42, 0, 0, 0, 0, [])), (40, (13, 58, 0, 0, 0, [])), (43, (18, 1, 0, 0, 0, [])), (44, (37, 7, 15, 2, 0, [])), (47, (0, 2, 0, 0, 35, [])), (49, (0, 1, 0, 0, 2, [])), (50, (1, 1, 1, 0, 0, [])), (51, (6, 0, 0, 0, 0, [])), (52, (4, 0, 0, 0, 0, [])), (53, (1, 1, 2, 0, 0, [])), (54, (4, 0, 0, 0, 0, [])), (55, (0, 1, 0, 0, 1, [])), (56, (5, 0, 0, 0, 0, [])), (57, (42, 0, 0, 0, 0, [])), (58, (54, 0, 0, 0, 0, []))]
set_option maxRecDepth 20000 in
theorem ceX7_canon {l : Launch} {X : Nat × (Nat → Int32)} {d : Nat} : tbX7_canon l X d = ctb l X d U0 cdX7_canon := cec (cp18) <| cec (cp51 u0_146) <| cec (cp18) <| cec (cp1) <| cec (cp51 u0_186) <| cec (cp14_0) <| cec (cp1) <| cec (cp0 io_0_0) <| cec (cp0 io_2_2) <| cec (cp52 u0_149) <| cec (cp14_1) <| cec (cp18) <| cec (cp0 io_1_1) <| cec (cp51 u0_147) <| cec (cp54) <| cec (cp1) <| cec (cp14_1) <| cec (cp18) <| cec (cp37) <| cec (cp0 io_46_18) <| cec (cp1) <| cec (cp4) <| cec (cp42) <| cec (cp13) <| cec (cp18) <| cec (cp37) <| cec (cp0 io_47_35) <| cec (cp0 io_2_2) <| cec (cp1) <| cec (cp6) <| cec (cp4) <| cec (cp1) <| cec (cp4) <| cec (cp0 io_1_1) <| cec (cp5) <| cec (cp42) <| cec (cp54) <| cen
noncomputable def cdX7_faceOver : List (Nat × Cd) := [(0, (0, 1, 0, 0, 0, [])), (1, (2, 1, 2, 0, 0, [])), (2, (1, 1, 2, 0, 0, [])), (3, (18, 1, 0, 0, 0, [])), (4, (37, 7, 15, 2, 0, [])), (7, (0, 1, 0, 0, 4, [])), (8, (42, 0, 0, 0, 0, [])), (9, (15, 37, 3, 0, 0, [])), (12, (18, 1, 0, 0, 0, [])), (13, (37, 7, 15, 2, 0, [])), (16, (0, 2, 0, 0, 11, [])), (18, (0, 1, 0, 0, 4, [])), (19, (1, 1, 2, 0, 0, [])), (20, (6, 0, 0, 0, 0, [])), (21, (4, 0, 0, 0, 0, [])), (22, (0, 1, 0, 0, 3, [])), (23, (4, 0, 0, 0, 0, [])), (24, (42, 0, 0, 0, 0, [])), (25, (1, 1, 1, 0, 0, [])), (26, (15, 31, 1, 0, 0, [])), (29, (1, 1, 2, 0, 0, [])), (30, (54, 0, 0, 0, 0, [])), (31, (3, 2, 0, 0, 1, [])), (34, (13, 2, 0, 0, 0, [])), (37, (0, 2, 0, 0, (-2), [])), (39, (54, 0, 0, 0, 0, []))]
set_option maxRecDepth 20000 in
theorem ceX7_faceOver {l : Launch} {X : Nat × (Nat → Int32)} {d : Nat} : tbX7_faceOver l X d = ctb l X d U0 cdX7_faceOver := cec (cp0 io_0_0) <| cec (cp2) <| cec (cp1) <| cec (cp18) <| cec (cp37) <| cec (cp0 io_18_4) <| cec (cp42) <| cec (cp15_3) <| cec (cp18) <| cec (cp37) <| cec (cp0 io_45_11) <| cec (cp0 io_18_4) <| cec (cp1) <| cec (cp6) <| cec (cp4) <| cec (cp0 io_11_3) <| cec (cp4) <| cec (cp42) <| cec (cp1) <| cec (cp15_1) <| cec (cp1) <| cec (cp54) <| cec (cp3 io_1_1) <| cec (cp13) <| cec (cp0 io_3_m2) <| cec (cp54) <| cen
noncomputable def cdX7_isWall : List (Nat × Cd) := [(0, (1, 1, 1, 0, 0, [])), (1, (18, 1, 0, 0, 0, [])), (2, (37, 7, 26, 0, 0, [])), (5, (15, 26, 0, 0, 0, [])), (8, (18, 1, 0, 0, 0, [])), (9, (37, 7, 15, 2, 0, [])), (12, (0, 2, 0, 0, 10, [])), (14, (42, 0, 0, 0, 0, [])), (15, (1, 1, 1, 0, 0, [])), (16, (52, 150, 0, 2, 0, [])), (19, (14, 26, 0, 0, 0, [])), (22, (0, 1, 0, 0, 1, [])), (23, (13, 27, 0, 0, 0, [])), (26, (0, 1, 0, 0, 0, [])), (27, (55, 0, 0, 0, 0, []))]
set_option maxRecDepth 20000 in
theorem ceX7_isWall {l : Launch} {X : Nat × (Nat → Int32)} {d : Nat} : tbX7_isWall l X d = ctb l X d U0 cdX7_isWall := cec (cp1) <| cec (cp18) <| cec (cp37) <| cec (cp15_0) <| cec (cp18) <| cec (cp37) <| cec (cp0 io_20_10) <| cec (cp42) <| cec (cp1) <| cec (cp52 u0_150) <| cec (cp14_0) <| cec (cp0 io_1_1) <| cec (cp13) <| cec (cp0 io_0_0) <| cec (cp55) <| cen
noncomputable def cdX7_stepFrom : List (Nat × Cd) := [(0, (1, 1, 1, 0, 0, [])), (1, (18, 1, 0, 0, 0, [])), (2, (37, 7, 15, 2, 0, [])), (5, (0, 1, 0, 0, 0, [])), (6, (42, 0, 0, 0, 0, [])), (7, (22, 0, 0, 0, 0, [])), (8, (1, 1, 2, 0, 0, [])), (9, (0, 1, 0, 0, 1, [])), (10, (15, 17, 1, 0, 0, [])), (13, (0, 1, 0, 0, 1, [])), (14, (13, 27, 0, 0, 0, [])), (17, (1, 1, 2, 0, 0, [])), (18, (0, 1, 0, 0, 3, [])), (19, (15, 26, 1, 0, 0, [])), (22, (0, 1, 0, 0, (-1), [])), (23, (13, 27, 0, 0, 0, [])), (26, (0, 1, 0, 0, 0, [])), (27, (4, 0, 0, 0, 0, [])), (28, (2, 1, 3, 0, 0, [])), (29, (1, 1, 1, 0, 0, [])), (30, (18, 1, 0, 0, 0, [])), (31, (37, 7, 15, 2, 0, [])), (34, (0, 1, 0, 0, 0, [])), (35, (42, 0, 0, 0, 0, [])), (36, (21, 0, 0, 0, 0, [])), (37, (1, 1, 2, 0, 0, [])), (38, (0, 1, 0, 0, 2, [])), (39, (15, 46, 1, 0, 0, [])), (42, (0, 1, 0, 0, 1, [])), (43, (13, 55, 0, 0, 0, [])), (46, (1, 1, 2, 0, 0, [])), (47, (14, 54, 1, 0, 0, [])), (50, (0, 1, 0, 0, (-1), [])), (51, (13, 55, 0, 0, 0, [])), (54, (0, 1, 0, 0, 0, [])), (55, (4, 0, 0, 0, 0, [])), (56, (2, 2, 4, 0, 0, [])), (58, (1, 1, 3, 0, 0, [])), (59, (0, 1, 0, 0, 0, [])), (60, (18, 1, 0, 0, 0, [])), (61, (37, 7, 15, 2, 0, [])), (64, (0, 1, 0, 0, 0, [])), (65, (42, 0, 0, 0, 0, [])), (66, (0, 1, 0, 0, 1, [])), (67, (5, 0, 0, 0, 0, [])), (68, (52, 149, 0, 3, 0, [])), (71, (14, 117, 0, 0, 0, [])), (74, (1, 2, 4, 0, 0, [])), (76, (0, 1, 0, 0, 0, [])), (77, (18, 1, 0, 0, 0, [])), (78, (37, 7, 15, 2, 0, [])), (81, (0, 1, 0, 0, 1, [])), (82, (42, 0, 0, 0, 0, [])), (83, (0, 1, 0, 0, 1, [])), (84, (5, 0, 0, 0, 0, [])), (85, (52, 149, 0, 3, 0, [])), (88, (14, 117, 0, 0, 0, [])), (91, (18, 1, 0, 0, 0, [])), (92, (1, 1, 1, 0, 0, [])), (93, (51, 201, 7, 1, 0, [])), (96, (14, 117, 1, 0, 0, [])), (99, (18, 1, 0, 0, 0, [])), (100, (1, 2, 4, 0, 0, [])), (102, (18, 1, 0, 0, 0, [])), (103, (37, 7, 15, 2, 0, [])), (106, (0, 1, 0, 0, 0, [])), (107, (42, 0, 0, 0, 0, [])), (108, (6, 0, 0, 0, 0, [])), (109, (1, 1, 3, 0, 0, [])), (110, (4, 0, 0, 0, 0, [])), (111, (51, 201, 7, 1, 0, [])), (114, (14, 120, 0, 0, 0, [])), (117, (0, 2, 0, 0, (-2), [])), (119, (54, 0, 0, 0, 0, [])), (120, (1, 2, 4, 0, 0, [])), (122, (18, 1, 0, 0, 0, [])), (123, (37, 7, 15, 2, 0, [])), (126, (0, 1, 0, 0, 0, [])), (127, (42, 0, 0, 0, 0, [])), (128, (6, 0, 0, 0, 0, [])), (129, (1, 1, 3, 0, 0, [])), (130, (4, 0, 0, 0, 0, [])), (131, (54, 0, 0, 0, 0, []))]
set_option maxRecDepth 20000 in
theorem ceX7_stepFrom {l : Launch} {X : Nat × (Nat → Int32)} {d : Nat} : tbX7_stepFrom l X d = ctb l X d U0 cdX7_stepFrom := cec (cp1) <| cec (cp18) <| cec (cp37) <| cec (cp0 io_0_0) <| cec (cp42) <| cec (cp22) <| cec (cp1) <| cec (cp0 io_1_1) <| cec (cp15_1) <| cec (cp0 io_1_1) <| cec (cp13) <| cec (cp1) <| cec (cp0 io_11_3) <| cec (cp15_1) <| cec (cp0 io_6_m1) <| cec (cp13) <| cec (cp0 io_0_0) <| cec (cp4) <| cec (cp2) <| cec (cp1) <| cec (cp18) <| cec (cp37) <| cec (cp0 io_0_0) <| cec (cp42) <| cec (cp21) <| cec (cp1) <| cec (cp0 io_2_2) <| cec (cp15_1) <| cec (cp0 io_1_1) <| cec (cp13) <| cec (cp1) <| cec (cp14_1) <| cec (cp0 io_6_m1) <| cec (cp13) <| cec (cp0 io_0_0) <| cec (cp4) <| cec (cp2) <| cec (cp1) <| cec (cp0 io_0_0) <| cec (cp18) <| cec (cp37) <| cec (cp0 io_0_0) <| cec (cp42) <| cec (cp0 io_1_1) <| cec (cp5) <| cec (cp52 u0_149) <| cec (cp14_0) <| cec (cp1) <| cec (cp0 io_0_0) <| cec (cp18) <| cec (cp37) <| cec (cp0 io_1_1) <| cec (cp42) <| cec (cp0 io_1_1) <| cec (cp5) <| cec (cp52 u0_149) <| cec (cp14_0) <| cec (cp18) <| cec (cp1) <| cec (cp51 u0_201) <| cec (cp14_1) <| cec (cp18) <| cec (cp1) <| cec (cp18) <| cec (cp37) <| cec (cp0 io_0_0) <| cec (cp42) <| cec (cp6) <| cec (cp1) <| cec (cp4) <| cec (cp51 u0_201) <| cec (cp14_0) <| cec (cp0 io_3_m2) <| cec (cp54) <| cec (cp1) <| cec (cp18) <| cec (cp37) <| cec (cp0 io_0_0) <| cec (cp42) <| cec (cp6) <| cec (cp1) <| cec (cp4) <| cec (cp54) <| cen
noncomputable def cdX7_beside : List (Nat × Cd) := [(0, (0, 1, 0, 0, 0, [])), (1, (2, 1, 2, 0, 0, [])), (2, (0, 1, 0, 0, 0, [])), (3, (2, 1, 3, 0, 0, [])), (4, (1, 1, 3, 0, 0, [])), (5, (0, 1, 0, 0, 4, [])), (6, (15, 39, 3, 0, 0, [])), (9, (1, 1, 2, 0, 0, [])), (10, (18, 1, 0, 0, 0, [])), (11, (1, 1, 1, 0, 0, [])), (12, (1, 1, 3, 0, 0, [])), (13, (51, 202, 7, 2, 0, [])), (16, (14, 23, 3, 0, 0, [])), (19, (0, 1, 0, 0, 0, [])), (20, (13, 31, 0, 0, 0, [])), (23, (0, 1, 0, 0, 1, [])), (24, (18, 1, 0, 0, 0, [])), (25, (1, 1, 1, 0, 0, [])), (26, (1, 1, 3, 0, 0, [])), (27, (51, 202, 7, 2, 0, [])), (30, (10, 0, 0, 0, 0, [])), (31, (8, 0, 0, 0, 0, [])), (32, (2, 1, 2, 0, 0, [])), (33, (3, 3, 0, 0, 1, [])), (36, (13, 4, 0, 0, 0, [])), (39, (1, 1, 2, 0, 0, [])), (40, (54, 0, 0, 0, 0, []))]
set_option maxRecDepth 20000 in
theorem ceX7_beside {l : Launch} {X : Nat × (Nat → Int32)} {d : Nat} : tbX7_beside l X d = ctb l X d U0 cdX7_beside := cec (cp0 io_0_0) <| cec (cp2) <| cec (cp0 io_0_0) <| cec (cp2) <| cec (cp1) <| cec (cp0 io_18_4) <| cec (cp15_3) <| cec (cp1) <| cec (cp18) <| cec (cp1) <| cec (cp1) <| cec (cp51 u0_202) <| cec (cp14_3) <| cec (cp0 io_0_0) <| cec (cp13) <| cec (cp0 io_1_1) <| cec (cp18) <| cec (cp1) <| cec (cp1) <| cec (cp51 u0_202) <| cec (cp10) <| cec (cp8) <| cec (cp2) <| cec (cp3 io_1_1) <| cec (cp13) <| cec (cp1) <| cec (cp54) <| cen
noncomputable def cdX7_cell : List (Nat × Cd) := [(0, (18, 1, 0, 0, 0, [])), (1, (51, 146, 7, 0, 0, [])), (4, (18, 1, 0, 0, 0, [])), (5, (0, 1, 0, 0, (-1), [])), (6, (38, 7, 26, 0, 0, [])), (9, (18, 1, 0, 0, 0, [])), (10, (1, 1, 1, 0, 0, [])), (11, (51, 188, 7, 1, 0, [])), (14, (14, 26, 0, 0, 0, [])), (17, (1, 1, 2, 0, 0, [])), (18, (0, 1, 0, 0, 0, [])), (19, (0, 1, 0, 0, 3, [])), (20, (52, 149, 0, 3, 0, [])), (23, (14, 32, 1, 0, 0, [])), (26, (18, 1, 0, 0, 0, [])), (27, (0, 1, 0, 0, 1, [])), (28, (51, 147, 7, 1, 0, [])), (31, (54, 0, 0, 0, 0, [])), (32, (1, 1, 2, 0, 0, [])), (33, (16, 90, 0, 0, 0, [60, 72, 78])), (60, (18, 1, 0, 0, 0, [])), (61, (37, 7, 15, 2, 0, [])), (64, (0, 2, 0, 0, 10, [])), (66, (42, 0, 0, 0, 0, [])), (67, (1, 1, 1, 0, 0, [])), (68, (11, 0, 0, 0, 0, [])), (69, (0, 1, 0, 0, 1, [])), (70, (7, 0, 0, 0, 0, [])), (71, (54, 0, 0, 0, 0, [])), (72, (18, 1, 0, 0, 0, [])), (73, (1, 1, 1, 0, 0, [])), (74, (51, 200, 7, 1, 0, [])), (77, (54, 0, 0, 0, 0, [])), (78, (18, 1, 0, 0, 0, [])), (79, (37, 7, 19, 2, 0, [])), (82, (0, 2, 0, 0, 24, [])), (84, (42, 0, 0, 0, 0, [])), (85, (1, 1, 1, 0, 0, [])), (86, (11, 0, 0, 0, 0, [])), (87, (0, 1, 0, 0, 1, [])), (88, (7, 0, 0, 0, 0, [])), (89, (54, 0, 0, 0, 0, [])), (90, (18, 1, 0, 0, 0, [])), (91, (1, 1, 1, 0, 0, [])), (92, (51, 203, 7, 1, 0, [])), (95, (54, 0, 0, 0, 0, []))]
set_option maxRecDepth 20000 in
theorem ceX7_cell {l : Launch} {X : Nat × (Nat → Int32)} {d : Nat} : tbX7_cell l X d = ctb l X d U0 cdX7_cell := cec (cp18) <| cec (cp51 u0_146) <| cec (cp18) <| cec (cp0 io_6_m1) <| cec (cp38) <| cec (cp18) <| cec (cp1) <| cec (cp51 u0_188) <| cec (cp14_0) <| cec (cp1) <| cec (cp0 io_0_0) <| cec (cp0 io_11_3) <| cec (cp52 u0_149) <| cec (cp14_1) <| cec (cp18) <| cec (cp0 io_1_1) <| cec (cp51 u0_147) <| cec (cp54) <| cec (cp1) <| cec (cp16) <| cec (cp18) <| cec (cp37) <| cec (cp0 io_20_10) <| cec (cp42) <| cec (cp1) <| cec (cp11) <| cec (cp0 io_1_1) <| cec (cp7) <| cec (cp54) <| cec (cp18) <| cec (cp1) <| cec (cp51 u0_200) <| cec (cp54) <| cec (cp18) <| cec (cp37) <| cec (cp0 io_8_24) <| cec (cp42) <| cec (cp1) <| cec (cp11) <| cec (cp0 io_1_1) <| cec (cp7) <| cec (cp54) <| cec (cp18) <| cec (cp1) <| cec (cp51 u0_203) <| cec (cp54) <| cen
noncomputable def cdX7_burden : List (Nat × Cd) := [(0, (18, 1, 0, 0, 0, [])), (1, (51, 146, 7, 0, 0, [])), (4, (18, 1, 0, 0, 0, [])), (5, (37, 7, 14, 0, 0, [])), (8, (14, 17, 1, 0, 0, [])), (11, (18, 1, 0, 0, 0, [])), (12, (0, 1, 0, 0, 1, [])), (13, (51, 147, 7, 1, 0, [])), (16, (54, 0, 0, 0, 0, [])), (17, (0, 1, 0, 0, 0, [])), (18, (2, 1, 1, 0, 0, [])), (19, (0, 1, 0, 0, 0, [])), (20, (2, 1, 2, 0, 0, [])), (21, (1, 1, 2, 0, 0, [])), (22, (18, 1, 0, 0, 0, [])), (23, (37, 7, 15, 2, 0, [])), (26, (0, 1, 0, 0, 4, [])), (27, (42, 0, 0, 0, 0, [])), (28, (15, 49, 3, 0, 0, [])), (31, (1, 1, 1, 0, 0, [])), (32, (18, 1, 0, 0, 0, [])), (33, (37, 7, 19, 2, 0, [])), (36, (0, 2, 0, 0, 6, [])), (38, (1, 1, 2, 0, 0, [])), (39, (4, 0, 0, 0, 0, [])), (40, (42, 0, 0, 0, 0, [])), (41, (4, 0, 0, 0, 0, [])), (42, (2, 1, 1, 0, 0, [])), (43, (3, 2, 0, 0, 1, [])), (46, (13, 21, 0, 0, 0, [])), (49, (1, 1, 1, 0, 0, [])), (50, (54, 0, 0, 0, 0, []))]
set_option maxRecDepth 20000 in
theorem ceX7_burden {l : Launch} {X : Nat × (Nat → Int32)} {d : Nat} : tbX7_burden l X d = ctb l X d U0 cdX7_burden := cec (cp18) <| cec (cp51 u0_146) <| cec (cp18) <| cec (cp37) <| cec (cp14_1) <| cec (cp18) <| cec (cp0 io_1_1) <| cec (cp51 u0_147) <| cec (cp54) <| cec (cp0 io_0_0) <| cec (cp2) <| cec (cp0 io_0_0) <| cec (cp2) <| cec (cp1) <| cec (cp18) <| cec (cp37) <| cec (cp0 io_18_4) <| cec (cp42) <| cec (cp15_3) <| cec (cp1) <| cec (cp18) <| cec (cp37) <| cec (cp0 io_7_6) <| cec (cp1) <| cec (cp4) <| cec (cp42) <| cec (cp4) <| cec (cp2) <| cec (cp3 io_1_1) <| cec (cp13) <| cec (cp1) <| cec (cp54) <| cen
noncomputable def cdX7_aheadWhy : List (Nat × Cd) := [(0, (18, 1, 0, 0, 0, [])), (1, (1, 1, 1, 0, 0, [])), (2, (1, 1, 3, 0, 0, [])), (3, (1, 1, 2, 0, 0, [])), (4, (0, 2, 0, 0, 60, [])), (6, (52, 149, 0, 3, 0, [])), (9, (51, 190, 7, 2, 0, [])), (12, (54, 0, 0, 0, 0, []))]
set_option maxRecDepth 20000 in
theorem ceX7_aheadWhy {l : Launch} {X : Nat × (Nat → Int32)} {d : Nat} : tbX7_aheadWhy l X d = ctb l X d U0 cdX7_aheadWhy := cec (cp18) <| cec (cp1) <| cec (cp1) <| cec (cp1) <| cec (cp0 io_30_60) <| cec (cp52 u0_149) <| cec (cp51 u0_190) <| cec (cp54) <| cen
noncomputable def cdX7_bears : List (Nat × Cd) := [(0, (18, 1, 0, 0, 0, [])), (1, (51, 146, 7, 0, 0, [])), (4, (18, 1, 0, 0, 0, [])), (5, (18, 1, 0, 0, 0, [])), (6, (1, 1, 1, 0, 0, [])), (7, (51, 185, 7, 1, 0, [])), (10, (0, 1, 0, 0, 0, [])), (11, (1, 1, 2, 0, 0, [])), (12, (51, 206, 7, 3, 0, [])), (15, (2, 1, 3, 0, 0, [])), (16, (1, 1, 3, 0, 0, [])), (17, (14, 26, 0, 0, 0, [])), (20, (18, 1, 0, 0, 0, [])), (21, (1, 1, 3, 0, 0, [])), (22, (51, 147, 7, 1, 0, [])), (25, (54, 0, 0, 0, 0, [])), (26, (18, 1, 0, 0, 0, [])), (27, (1, 1, 2, 0, 0, [])), (28, (51, 194, 7, 1, 0, [])), (31, (18, 1, 0, 0, 0, [])), (32, (37, 7, 25, 2, 0, [])), (35, (0, 2, 0, 0, 6, [])), (37, (1, 1, 1, 0, 0, [])), (38, (4, 0, 0, 0, 0, [])), (39, (42, 0, 0, 0, 0, [])), (40, (54, 0, 0, 0, 0, []))]
set_option maxRecDepth 20000 in
theorem ceX7_bears {l : Launch} {X : Nat × (Nat → Int32)} {d : Nat} : tbX7_bears l X d = ctb l X d U0 cdX7_bears := cec (cp18) <| cec (cp51 u0_146) <| cec (cp18) <| cec (cp18) <| cec (cp1) <| cec (cp51 u0_185) <| cec (cp0 io_0_0) <| cec (cp1) <| cec (cp51 u0_206) <| cec (cp2) <| cec (cp1) <| cec (cp14_0) <| cec (cp18) <| cec (cp1) <| cec (cp51 u0_147) <| cec (cp54) <| cec (cp18) <| cec (cp1) <| cec (cp51 u0_194) <| cec (cp18) <| cec (cp37) <| cec (cp0 io_7_6) <| cec (cp1) <| cec (cp4) <| cec (cp42) <| cec (cp54) <| cen
noncomputable def cdX7_holds : List (Nat × Cd) := [(0, (18, 1, 0, 0, 0, [])), (1, (51, 146, 7, 0, 0, [])), (4, (18, 1, 0, 0, 0, [])), (5, (18, 1, 0, 0, 0, [])), (6, (1, 1, 1, 0, 0, [])), (7, (51, 185, 7, 1, 0, [])), (10, (0, 1, 0, 0, 0, [])), (11, (1, 1, 2, 0, 0, [])), (12, (51, 206, 7, 3, 0, [])), (15, (2, 1, 3, 0, 0, [])), (16, (1, 1, 3, 0, 0, [])), (17, (14, 26, 0, 0, 0, [])), (20, (18, 1, 0, 0, 0, [])), (21, (1, 1, 3, 0, 0, [])), (22, (51, 147, 7, 1, 0, [])), (25, (54, 0, 0, 0, 0, [])), (26, (18, 1, 0, 0, 0, [])), (27, (1, 1, 2, 0, 0, [])), (28, (51, 194, 7, 1, 0, [])), (31, (18, 1, 0, 0, 0, [])), (32, (37, 7, 25, 2, 0, [])), (35, (1, 1, 1, 0, 0, [])), (36, (42, 0, 0, 0, 0, [])), (37, (54, 0, 0, 0, 0, []))]
set_option maxRecDepth 20000 in
theorem ceX7_holds {l : Launch} {X : Nat × (Nat → Int32)} {d : Nat} : tbX7_holds l X d = ctb l X d U0 cdX7_holds := cec (cp18) <| cec (cp51 u0_146) <| cec (cp18) <| cec (cp18) <| cec (cp1) <| cec (cp51 u0_185) <| cec (cp0 io_0_0) <| cec (cp1) <| cec (cp51 u0_206) <| cec (cp2) <| cec (cp1) <| cec (cp14_0) <| cec (cp18) <| cec (cp1) <| cec (cp51 u0_147) <| cec (cp54) <| cec (cp18) <| cec (cp1) <| cec (cp51 u0_194) <| cec (cp18) <| cec (cp37) <| cec (cp1) <| cec (cp42) <| cec (cp54) <| cen
noncomputable def cdX7_drops : List (Nat × Cd) := [(0, (18, 1, 0, 0, 0, [])), (1, (51, 146, 7, 0, 0, [])), (4, (18, 1, 0, 0, 0, [])), (5, (18, 1, 0, 0, 0, [])), (6, (1, 1, 1, 0, 0, [])), (7, (51, 185, 7, 1, 0, [])), (10, (0, 1, 0, 0, 0, [])), (11, (1, 1, 2, 0, 0, [])), (12, (51, 206, 7, 3, 0, [])), (15, (2, 1, 3, 0, 0, [])), (16, (1, 1, 3, 0, 0, [])), (17, (14, 26, 0, 0, 0, [])), (20, (18, 1, 0, 0, 0, [])), (21, (1, 1, 3, 0, 0, [])), (22, (51, 147, 7, 1, 0, [])), (25, (54, 0, 0, 0, 0, [])), (26, (18, 1, 0, 0, 0, [])), (27, (1, 1, 2, 0, 0, [])), (28, (51, 194, 7, 1, 0, [])), (31, (18, 1, 0, 0, 0, [])), (32, (37, 7, 25, 2, 0, [])), (35, (0, 2, 0, 0, 12, [])), (37, (1, 1, 1, 0, 0, [])), (38, (4, 0, 0, 0, 0, [])), (39, (42, 0, 0, 0, 0, [])), (40, (18, 1, 0, 0, 0, [])), (41, (37, 7, 19, 2, 0, [])), (44, (0, 2, 0, 0, 12, [])), (46, (1, 1, 1, 0, 0, [])), (47, (4, 0, 0, 0, 0, [])), (48, (42, 0, 0, 0, 0, [])), (49, (5, 0, 0, 0, 0, [])), (50, (54, 0, 0, 0, 0, []))]
set_option maxRecDepth 20000 in
theorem ceX7_drops {l : Launch} {X : Nat × (Nat → Int32)} {d : Nat} : tbX7_drops l X d = ctb l X d U0 cdX7_drops := cec (cp18) <| cec (cp51 u0_146) <| cec (cp18) <| cec (cp18) <| cec (cp1) <| cec (cp51 u0_185) <| cec (cp0 io_0_0) <| cec (cp1) <| cec (cp51 u0_206) <| cec (cp2) <| cec (cp1) <| cec (cp14_0) <| cec (cp18) <| cec (cp1) <| cec (cp51 u0_147) <| cec (cp54) <| cec (cp18) <| cec (cp1) <| cec (cp51 u0_194) <| cec (cp18) <| cec (cp37) <| cec (cp0 io_39_12) <| cec (cp1) <| cec (cp4) <| cec (cp42) <| cec (cp18) <| cec (cp37) <| cec (cp0 io_39_12) <| cec (cp1) <| cec (cp4) <| cec (cp42) <| cec (cp5) <| cec (cp54) <| cen
noncomputable def cdX7_dropsIn : List (Nat × Cd) := [(0, (18, 1, 0, 0, 0, [])), (1, (51, 146, 7, 0, 0, [])), (4, (18, 1, 0, 0, 0, [])), (5, (1, 1, 1, 0, 0, [])), (6, (51, 185, 7, 1, 0, [])), (9, (14, 18, 1, 0, 0, [])), (12, (18, 1, 0, 0, 0, [])), (13, (0, 1, 0, 0, 1, [])), (14, (51, 147, 7, 1, 0, [])), (17, (54, 0, 0, 0, 0, [])), (18, (18, 1, 0, 0, 0, [])), (19, (0, 1, 0, 0, 0, [])), (20, (51, 194, 7, 1, 0, [])), (23, (0, 1, 0, 0, 1, [])), (24, (2, 1, 2, 0, 0, [])), (25, (1, 1, 2, 0, 0, [])), (26, (0, 2, 0, 0, 60, [])), (28, (15, 69, 4, 0, 0, [])), (31, (18, 1, 0, 0, 0, [])), (32, (18, 1, 0, 0, 0, [])), (33, (37, 7, 25, 2, 0, [])), (36, (0, 1, 0, 0, 0, [])), (37, (51, 193, 7, 2, 0, [])), (40, (18, 1, 0, 0, 0, [])), (41, (37, 7, 25, 2, 0, [])), (44, (0, 2, 0, 0, 12, [])), (46, (1, 1, 1, 0, 0, [])), (47, (4, 0, 0, 0, 0, [])), (48, (42, 0, 0, 0, 0, [])), (49, (18, 1, 0, 0, 0, [])), (50, (37, 7, 19, 2, 0, [])), (53, (0, 2, 0, 0, 12, [])), (55, (1, 1, 1, 0, 0, [])), (56, (4, 0, 0, 0, 0, [])), (57, (42, 0, 0, 0, 0, [])), (58, (15, 63, 5, 0, 0, [])), (61, (1, 1, 2, 0, 0, [])), (62, (54, 0, 0, 0, 0, [])), (63, (3, 2, 0, 0, 1, [])), (66, (13, 25, 0, 0, 0, [])), (69, (0, 2, 0, 0, (-2), [])), (71, (54, 0, 0, 0, 0, []))]
set_option maxRecDepth 20000 in
theorem ceX7_dropsIn {l : Launch} {X : Nat × (Nat → Int32)} {d : Nat} : tbX7_dropsIn l X d = ctb l X d U0 cdX7_dropsIn := cec (cp18) <| cec (cp51 u0_146) <| cec (cp18) <| cec (cp1) <| cec (cp51 u0_185) <| cec (cp14_1) <| cec (cp18) <| cec (cp0 io_1_1) <| cec (cp51 u0_147) <| cec (cp54) <| cec (cp18) <| cec (cp0 io_0_0) <| cec (cp51 u0_194) <| cec (cp0 io_1_1) <| cec (cp2) <| cec (cp1) <| cec (cp0 io_30_60) <| cec (cp15_4) <| cec (cp18) <| cec (cp18) <| cec (cp37) <| cec (cp0 io_0_0) <| cec (cp51 u0_193) <| cec (cp18) <| cec (cp37) <| cec (cp0 io_39_12) <| cec (cp1) <| cec (cp4) <| cec (cp42) <| cec (cp18) <| cec (cp37) <| cec (cp0 io_39_12) <| cec (cp1) <| cec (cp4) <| cec (cp42) <| cec (cp15_5) <| cec (cp1) <| cec (cp54) <| cec (cp3 io_1_1) <| cec (cp13) <| cec (cp0 io_3_m2) <| cec (cp54) <| cen
noncomputable def cdX7_fallsIn : List (Nat × Cd) := [(0, (18, 1, 0, 0, 0, [])), (1, (51, 146, 7, 0, 0, [])), (4, (18, 1, 0, 0, 0, [])), (5, (1, 1, 1, 0, 0, [])), (6, (51, 185, 7, 1, 0, [])), (9, (14, 18, 1, 0, 0, [])), (12, (18, 1, 0, 0, 0, [])), (13, (0, 1, 0, 0, 1, [])), (14, (51, 147, 7, 1, 0, [])), (17, (54, 0, 0, 0, 0, [])), (18, (18, 1, 0, 0, 0, [])), (19, (0, 1, 0, 0, 0, [])), (20, (51, 194, 7, 1, 0, [])), (23, (0, 1, 0, 0, 0, [])), (24, (2, 1, 2, 0, 0, [])), (25, (1, 1, 2, 0, 0, [])), (26, (0, 2, 0, 0, 60, [])), (28, (15, 57, 4, 0, 0, [])), (31, (18, 1, 0, 0, 0, [])), (32, (37, 7, 25, 2, 0, [])), (35, (1, 1, 1, 0, 0, [])), (36, (42, 0, 0, 0, 0, [])), (37, (14, 42, 1, 0, 0, [])), (40, (1, 1, 2, 0, 0, [])), (41, (54, 0, 0, 0, 0, [])), (42, (18, 1, 0, 0, 0, [])), (43, (18, 1, 0, 0, 0, [])), (44, (37, 7, 25, 2, 0, [])), (47, (0, 1, 0, 0, 0, [])), (48, (51, 193, 7, 2, 0, [])), (51, (3, 2, 0, 0, 1, [])), (54, (13, 25, 0, 0, 0, [])), (57, (0, 2, 0, 0, (-2), [])), (59, (54, 0, 0, 0, 0, []))]
set_option maxRecDepth 20000 in
theorem ceX7_fallsIn {l : Launch} {X : Nat × (Nat → Int32)} {d : Nat} : tbX7_fallsIn l X d = ctb l X d U0 cdX7_fallsIn := cec (cp18) <| cec (cp51 u0_146) <| cec (cp18) <| cec (cp1) <| cec (cp51 u0_185) <| cec (cp14_1) <| cec (cp18) <| cec (cp0 io_1_1) <| cec (cp51 u0_147) <| cec (cp54) <| cec (cp18) <| cec (cp0 io_0_0) <| cec (cp51 u0_194) <| cec (cp0 io_0_0) <| cec (cp2) <| cec (cp1) <| cec (cp0 io_30_60) <| cec (cp15_4) <| cec (cp18) <| cec (cp37) <| cec (cp1) <| cec (cp42) <| cec (cp14_1) <| cec (cp1) <| cec (cp54) <| cec (cp18) <| cec (cp18) <| cec (cp37) <| cec (cp0 io_0_0) <| cec (cp51 u0_193) <| cec (cp3 io_1_1) <| cec (cp13) <| cec (cp0 io_3_m2) <| cec (cp54) <| cen
noncomputable def cdX7_wet : List (Nat × Cd) := [(0, (18, 1, 0, 0, 0, [])), (1, (51, 146, 7, 0, 0, [])), (4, (18, 1, 0, 0, 0, [])), (5, (18, 1, 0, 0, 0, [])), (6, (37, 7, 14, 0, 0, [])), (9, (0, 1, 0, 0, 1, [])), (10, (1, 1, 1, 0, 0, [])), (11, (51, 206, 7, 3, 0, [])), (14, (2, 1, 2, 0, 0, [])), (15, (1, 1, 2, 0, 0, [])), (16, (14, 25, 0, 0, 0, [])), (19, (18, 1, 0, 0, 0, [])), (20, (1, 1, 2, 0, 0, [])), (21, (51, 147, 7, 1, 0, [])), (24, (54, 0, 0, 0, 0, [])), (25, (18, 1, 0, 0, 0, [])), (26, (1, 1, 1, 0, 0, [])), (27, (51, 194, 7, 1, 0, [])), (30, (18, 1, 0, 0, 0, [])), (31, (37, 7, 25, 2, 0, [])), (34, (0, 2, 0, 0, 24, [])), (36, (42, 0, 0, 0, 0, [])), (37, (54, 0, 0, 0, 0, []))]
set_option maxRecDepth 20000 in
theorem ceX7_wet {l : Launch} {X : Nat × (Nat → Int32)} {d : Nat} : tbX7_wet l X d = ctb l X d U0 cdX7_wet := cec (cp18) <| cec (cp51 u0_146) <| cec (cp18) <| cec (cp18) <| cec (cp37) <| cec (cp0 io_1_1) <| cec (cp1) <| cec (cp51 u0_206) <| cec (cp2) <| cec (cp1) <| cec (cp14_0) <| cec (cp18) <| cec (cp1) <| cec (cp51 u0_147) <| cec (cp54) <| cec (cp18) <| cec (cp1) <| cec (cp51 u0_194) <| cec (cp18) <| cec (cp37) <| cec (cp0 io_8_24) <| cec (cp42) <| cec (cp54) <| cen
noncomputable def cdX7_wetOften : List (Nat × Cd) := [(0, (0, 1, 0, 0, 0, [])), (1, (2, 1, 3, 0, 0, [])), (2, (18, 1, 0, 0, 0, [])), (3, (0, 1, 0, 0, 0, [])), (4, (51, 194, 7, 1, 0, [])), (7, (0, 1, 0, 0, 1, [])), (8, (2, 2, 4, 0, 0, [])), (10, (1, 2, 4, 0, 0, [])), (12, (1, 1, 2, 0, 0, [])), (13, (15, 45, 4, 0, 0, [])), (16, (18, 1, 0, 0, 0, [])), (17, (18, 1, 0, 0, 0, [])), (18, (37, 7, 25, 2, 0, [])), (21, (0, 1, 0, 0, 0, [])), (22, (51, 193, 7, 2, 0, [])), (25, (1, 1, 3, 0, 0, [])), (26, (18, 1, 0, 0, 0, [])), (27, (37, 7, 25, 2, 0, [])), (30, (0, 2, 0, 0, 24, [])), (32, (42, 0, 0, 0, 0, [])), (33, (1, 1, 1, 0, 0, [])), (34, (11, 0, 0, 0, 0, [])), (35, (0, 1, 0, 0, 1, [])), (36, (7, 0, 0, 0, 0, [])), (37, (4, 0, 0, 0, 0, [])), (38, (2, 1, 3, 0, 0, [])), (39, (3, 4, 0, 0, 1, [])), (42, (13, 10, 0, 0, 0, [])), (45, (1, 1, 3, 0, 0, [])), (46, (54, 0, 0, 0, 0, []))]
set_option maxRecDepth 20000 in
theorem ceX7_wetOften {l : Launch} {X : Nat × (Nat → Int32)} {d : Nat} : tbX7_wetOften l X d = ctb l X d U0 cdX7_wetOften := cec (cp0 io_0_0) <| cec (cp2) <| cec (cp18) <| cec (cp0 io_0_0) <| cec (cp51 u0_194) <| cec (cp0 io_1_1) <| cec (cp2) <| cec (cp1) <| cec (cp1) <| cec (cp15_4) <| cec (cp18) <| cec (cp18) <| cec (cp37) <| cec (cp0 io_0_0) <| cec (cp51 u0_193) <| cec (cp1) <| cec (cp18) <| cec (cp37) <| cec (cp0 io_8_24) <| cec (cp42) <| cec (cp1) <| cec (cp11) <| cec (cp0 io_1_1) <| cec (cp7) <| cec (cp4) <| cec (cp2) <| cec (cp3 io_1_1) <| cec (cp13) <| cec (cp1) <| cec (cp54) <| cen
noncomputable def cdX7_wetDays : List (Nat × Cd) := [(0, (18, 1, 0, 0, 0, [])), (1, (51, 146, 7, 0, 0, [])), (4, (18, 1, 0, 0, 0, [])), (5, (18, 1, 0, 0, 0, [])), (6, (1, 1, 1, 0, 0, [])), (7, (51, 188, 7, 1, 0, [])), (10, (0, 1, 0, 0, 0, [])), (11, (1, 1, 2, 0, 0, [])), (12, (51, 206, 7, 3, 0, [])), (15, (2, 1, 3, 0, 0, [])), (16, (1, 1, 3, 0, 0, [])), (17, (14, 28, 0, 0, 0, [])), (20, (18, 1, 0, 0, 0, [])), (21, (1, 1, 3, 0, 0, [])), (22, (51, 147, 7, 1, 0, [])), (25, (13, 34, 0, 0, 0, [])), (28, (18, 1, 0, 0, 0, [])), (29, (1, 1, 1, 0, 0, [])), (30, (1, 1, 2, 0, 0, [])), (31, (51, 213, 7, 2, 0, [])), (34, (54, 0, 0, 0, 0, []))]
set_option maxRecDepth 20000 in
theorem ceX7_wetDays {l : Launch} {X : Nat × (Nat → Int32)} {d : Nat} : tbX7_wetDays l X d = ctb l X d U0 cdX7_wetDays := cec (cp18) <| cec (cp51 u0_146) <| cec (cp18) <| cec (cp18) <| cec (cp1) <| cec (cp51 u0_188) <| cec (cp0 io_0_0) <| cec (cp1) <| cec (cp51 u0_206) <| cec (cp2) <| cec (cp1) <| cec (cp14_0) <| cec (cp18) <| cec (cp1) <| cec (cp51 u0_147) <| cec (cp13) <| cec (cp18) <| cec (cp1) <| cec (cp1) <| cec (cp51 u0_213) <| cec (cp54) <| cen
noncomputable def cdX7_wettest : List (Nat × Cd) := [(0, (18, 1, 0, 0, 0, [])), (1, (51, 146, 7, 0, 0, [])), (4, (18, 1, 0, 0, 0, [])), (5, (37, 7, 14, 0, 0, [])), (8, (14, 17, 1, 0, 0, [])), (11, (18, 1, 0, 0, 0, [])), (12, (0, 1, 0, 0, 1, [])), (13, (51, 147, 7, 1, 0, [])), (16, (54, 0, 0, 0, 0, [])), (17, (0, 1, 0, 0, 0, [])), (18, (2, 1, 1, 0, 0, [])), (19, (18, 1, 0, 0, 0, [])), (20, (0, 1, 0, 0, 0, [])), (21, (0, 2, 0, 0, 60, [])), (23, (51, 213, 7, 2, 0, [])), (26, (2, 1, 2, 0, 0, [])), (27, (0, 1, 0, 0, 1, [])), (28, (2, 1, 3, 0, 0, [])), (29, (1, 1, 3, 0, 0, [])), (30, (18, 1, 0, 0, 0, [])), (31, (51, 187, 7, 0, 0, [])), (34, (15, 66, 3, 0, 0, [])), (37, (18, 1, 0, 0, 0, [])), (38, (1, 1, 3, 0, 0, [])), (39, (0, 2, 0, 0, 60, [])), (41, (51, 213, 7, 2, 0, [])), (44, (2, 2, 4, 0, 0, [])), (46, (1, 2, 4, 0, 0, [])), (48, (1, 1, 2, 0, 0, [])), (49, (15, 55, 4, 0, 0, [])), (52, (13, 60, 0, 0, 0, [])), (55, (1, 1, 3, 0, 0, [])), (56, (2, 1, 1, 0, 0, [])), (57, (1, 2, 4, 0, 0, [])), (59, (2, 1, 2, 0, 0, [])), (60, (3, 3, 0, 0, 1, [])), (63, (13, 29, 0, 0, 0, [])), (66, (1, 1, 1, 0, 0, [])), (67, (54, 0, 0, 0, 0, []))]
set_option maxRecDepth 20000 in
theorem ceX7_wettest {l : Launch} {X : Nat × (Nat → Int32)} {d : Nat} : tbX7_wettest l X d = ctb l X d U0 cdX7_wettest := cec (cp18) <| cec (cp51 u0_146) <| cec (cp18) <| cec (cp37) <| cec (cp14_1) <| cec (cp18) <| cec (cp0 io_1_1) <| cec (cp51 u0_147) <| cec (cp54) <| cec (cp0 io_0_0) <| cec (cp2) <| cec (cp18) <| cec (cp0 io_0_0) <| cec (cp0 io_30_60) <| cec (cp51 u0_213) <| cec (cp2) <| cec (cp0 io_1_1) <| cec (cp2) <| cec (cp1) <| cec (cp18) <| cec (cp51 u0_187) <| cec (cp15_3) <| cec (cp18) <| cec (cp1) <| cec (cp0 io_30_60) <| cec (cp51 u0_213) <| cec (cp2) <| cec (cp1) <| cec (cp1) <| cec (cp15_4) <| cec (cp13) <| cec (cp1) <| cec (cp2) <| cec (cp1) <| cec (cp2) <| cec (cp3 io_1_1) <| cec (cp13) <| cec (cp1) <| cec (cp54) <| cen
noncomputable def cdX7_sunny : List (Nat × Cd) := [(0, (18, 1, 0, 0, 0, [])), (1, (51, 146, 7, 0, 0, [])), (4, (18, 1, 0, 0, 0, [])), (5, (37, 7, 14, 0, 0, [])), (8, (14, 17, 1, 0, 0, [])), (11, (18, 1, 0, 0, 0, [])), (12, (0, 1, 0, 0, 1, [])), (13, (51, 147, 7, 1, 0, [])), (16, (54, 0, 0, 0, 0, [])), (17, (18, 1, 0, 0, 0, [])), (18, (0, 1, 0, 0, 0, [])), (19, (51, 194, 7, 1, 0, [])), (22, (0, 1, 0, 0, 1, [])), (23, (2, 1, 1, 0, 0, [])), (24, (1, 1, 1, 0, 0, [])), (25, (0, 2, 0, 0, 60, [])), (27, (15, 57, 4, 0, 0, [])), (30, (18, 1, 0, 0, 0, [])), (31, (18, 1, 0, 0, 0, [])), (32, (37, 7, 25, 2, 0, [])), (35, (0, 1, 0, 0, 0, [])), (36, (51, 193, 7, 2, 0, [])), (39, (18, 1, 0, 0, 0, [])), (40, (37, 7, 25, 2, 0, [])), (43, (0, 2, 0, 0, 24, [])), (45, (42, 0, 0, 0, 0, [])), (46, (14, 51, 1, 0, 0, [])), (49, (1, 1, 1, 0, 0, [])), (50, (54, 0, 0, 0, 0, [])), (51, (3, 1, 0, 0, 1, [])), (54, (13, 24, 0, 0, 0, [])), (57, (0, 2, 0, 0, (-2), [])), (59, (54, 0, 0, 0, 0, []))]
set_option maxRecDepth 20000 in
theorem ceX7_sunny {l : Launch} {X : Nat × (Nat → Int32)} {d : Nat} : tbX7_sunny l X d = ctb l X d U0 cdX7_sunny := cec (cp18) <| cec (cp51 u0_146) <| cec (cp18) <| cec (cp37) <| cec (cp14_1) <| cec (cp18) <| cec (cp0 io_1_1) <| cec (cp51 u0_147) <| cec (cp54) <| cec (cp18) <| cec (cp0 io_0_0) <| cec (cp51 u0_194) <| cec (cp0 io_1_1) <| cec (cp2) <| cec (cp1) <| cec (cp0 io_30_60) <| cec (cp15_4) <| cec (cp18) <| cec (cp18) <| cec (cp37) <| cec (cp0 io_0_0) <| cec (cp51 u0_193) <| cec (cp18) <| cec (cp37) <| cec (cp0 io_8_24) <| cec (cp42) <| cec (cp14_1) <| cec (cp1) <| cec (cp54) <| cec (cp3 io_1_1) <| cec (cp13) <| cec (cp0 io_3_m2) <| cec (cp54) <| cen
noncomputable def cdX7_heaviest : List (Nat × Cd) := [(0, (18, 1, 0, 0, 0, [])), (1, (51, 146, 7, 0, 0, [])), (4, (18, 1, 0, 0, 0, [])), (5, (37, 7, 14, 0, 0, [])), (8, (14, 17, 1, 0, 0, [])), (11, (18, 1, 0, 0, 0, [])), (12, (0, 1, 0, 0, 1, [])), (13, (51, 147, 7, 1, 0, [])), (16, (54, 0, 0, 0, 0, [])), (17, (0, 1, 0, 0, 0, [])), (18, (2, 1, 1, 0, 0, [])), (19, (18, 1, 0, 0, 0, [])), (20, (0, 1, 0, 0, 0, [])), (21, (51, 194, 7, 1, 0, [])), (24, (0, 1, 0, 0, 1, [])), (25, (2, 1, 2, 0, 0, [])), (26, (1, 1, 2, 0, 0, [])), (27, (0, 2, 0, 0, 60, [])), (29, (15, 92, 4, 0, 0, [])), (32, (18, 1, 0, 0, 0, [])), (33, (18, 1, 0, 0, 0, [])), (34, (37, 7, 25, 2, 0, [])), (37, (0, 1, 0, 0, 0, [])), (38, (51, 193, 7, 2, 0, [])), (41, (0, 1, 0, 0, 0, [])), (42, (2, 1, 3, 0, 0, [])), (43, (1, 1, 3, 0, 0, [])), (44, (18, 1, 0, 0, 0, [])), (45, (37, 7, 15, 2, 0, [])), (48, (0, 1, 0, 0, 4, [])), (49, (42, 0, 0, 0, 0, [])), (50, (15, 86, 3, 0, 0, [])), (53, (18, 1, 0, 0, 0, [])), (54, (37, 7, 25, 2, 0, [])), (57, (0, 2, 0, 0, 6, [])), (59, (1, 1, 3, 0, 0, [])), (60, (4, 0, 0, 0, 0, [])), (61, (42, 0, 0, 0, 0, [])), (62, (1, 1, 1, 0, 0, [])), (63, (15, 78, 5, 0, 0, [])), (66, (18, 1, 0, 0, 0, [])), (67, (37, 7, 25, 2, 0, [])), (70, (0, 2, 0, 0, 6, [])), (72, (1, 1, 3, 0, 0, [])), (73, (4, 0, 0, 0, 0, [])), (74, (42, 0, 0, 0, 0, [])), (75, (13, 79, 0, 0, 0, [])), (78, (1, 1, 1, 0, 0, [])), (79, (2, 1, 1, 0, 0, [])), (80, (3, 3, 0, 0, 1, [])), (83, (13, 43, 0, 0, 0, [])), (86, (3, 2, 0, 0, 1, [])), (89, (13, 26, 0, 0, 0, [])), (92, (1, 1, 1, 0, 0, [])), (93, (54, 0, 0, 0, 0, []))]
set_option maxRecDepth 20000 in
theorem ceX7_heaviest {l : Launch} {X : Nat × (Nat → Int32)} {d : Nat} : tbX7_heaviest l X d = ctb l X d U0 cdX7_heaviest := cec (cp18) <| cec (cp51 u0_146) <| cec (cp18) <| cec (cp37) <| cec (cp14_1) <| cec (cp18) <| cec (cp0 io_1_1) <| cec (cp51 u0_147) <| cec (cp54) <| cec (cp0 io_0_0) <| cec (cp2) <| cec (cp18) <| cec (cp0 io_0_0) <| cec (cp51 u0_194) <| cec (cp0 io_1_1) <| cec (cp2) <| cec (cp1) <| cec (cp0 io_30_60) <| cec (cp15_4) <| cec (cp18) <| cec (cp18) <| cec (cp37) <| cec (cp0 io_0_0) <| cec (cp51 u0_193) <| cec (cp0 io_0_0) <| cec (cp2) <| cec (cp1) <| cec (cp18) <| cec (cp37) <| cec (cp0 io_18_4) <| cec (cp42) <| cec (cp15_3) <| cec (cp18) <| cec (cp37) <| cec (cp0 io_7_6) <| cec (cp1) <| cec (cp4) <| cec (cp42) <| cec (cp1) <| cec (cp15_5) <| cec (cp18) <| cec (cp37) <| cec (cp0 io_7_6) <| cec (cp1) <| cec (cp4) <| cec (cp42) <| cec (cp13) <| cec (cp1) <| cec (cp2) <| cec (cp3 io_1_1) <| cec (cp13) <| cec (cp3 io_1_1) <| cec (cp13) <| cec (cp1) <| cec (cp54) <| cen
noncomputable def cdX7_fallen : List (Nat × Cd) := [(0, (18, 1, 0, 0, 0, [])), (1, (51, 146, 7, 0, 0, [])), (4, (18, 1, 0, 0, 0, [])), (5, (18, 1, 0, 0, 0, [])), (6, (37, 7, 14, 0, 0, [])), (9, (0, 1, 0, 0, 0, [])), (10, (1, 1, 1, 0, 0, [])), (11, (51, 206, 7, 3, 0, [])), (14, (2, 1, 2, 0, 0, [])), (15, (1, 1, 2, 0, 0, [])), (16, (14, 25, 0, 0, 0, [])), (19, (18, 1, 0, 0, 0, [])), (20, (1, 1, 2, 0, 0, [])), (21, (51, 147, 7, 1, 0, [])), (24, (54, 0, 0, 0, 0, [])), (25, (18, 1, 0, 0, 0, [])), (26, (1, 1, 1, 0, 0, [])), (27, (51, 194, 7, 1, 0, [])), (30, (18, 1, 0, 0, 0, [])), (31, (18, 1, 0, 0, 0, [])), (32, (37, 7, 25, 2, 0, [])), (35, (51, 196, 7, 1, 0, [])), (38, (54, 0, 0, 0, 0, []))]
set_option maxRecDepth 20000 in
theorem ceX7_fallen {l : Launch} {X : Nat × (Nat → Int32)} {d : Nat} : tbX7_fallen l X d = ctb l X d U0 cdX7_fallen := cec (cp18) <| cec (cp51 u0_146) <| cec (cp18) <| cec (cp18) <| cec (cp37) <| cec (cp0 io_0_0) <| cec (cp1) <| cec (cp51 u0_206) <| cec (cp2) <| cec (cp1) <| cec (cp14_0) <| cec (cp18) <| cec (cp1) <| cec (cp51 u0_147) <| cec (cp54) <| cec (cp18) <| cec (cp1) <| cec (cp51 u0_194) <| cec (cp18) <| cec (cp18) <| cec (cp37) <| cec (cp51 u0_196) <| cec (cp54) <| cen
noncomputable def cdX7_planAsNow : List (Nat × Cd) := [(0, (0, 1, 0, 0, 0, [])), (1, (2, 1, 1, 0, 0, [])), (2, (1, 1, 1, 0, 0, [])), (3, (18, 1, 0, 0, 0, [])), (4, (37, 7, 15, 2, 0, [])), (7, (0, 1, 0, 0, 5, [])), (8, (42, 0, 0, 0, 0, [])), (9, (15, 33, 3, 0, 0, [])), (12, (18, 1, 0, 0, 0, [])), (13, (37, 7, 27, 2, 0, [])), (16, (1, 1, 1, 0, 0, [])), (17, (18, 1, 0, 0, 0, [])), (18, (37, 7, 19, 2, 0, [])), (21, (0, 2, 0, 0, 18, [])), (23, (1, 1, 1, 0, 0, [])), (24, (4, 0, 0, 0, 0, [])), (25, (42, 0, 0, 0, 0, [])), (26, (46, 0, 0, 0, 0, [])), (27, (3, 1, 0, 0, 1, [])), (30, (13, 2, 0, 0, 0, [])), (33, (57, 0, 0, 0, 0, []))]
set_option maxRecDepth 20000 in
theorem ceX7_planAsNow {l : Launch} {X : Nat × (Nat → Int32)} {d : Nat} : tbX7_planAsNow l X d = ctb l X d U0 cdX7_planAsNow := cec (cp0 io_0_0) <| cec (cp2) <| cec (cp1) <| cec (cp18) <| cec (cp37) <| cec (cp0 io_5_5) <| cec (cp42) <| cec (cp15_3) <| cec (cp18) <| cec (cp37) <| cec (cp1) <| cec (cp18) <| cec (cp37) <| cec (cp0 io_46_18) <| cec (cp1) <| cec (cp4) <| cec (cp42) <| cec (cp46) <| cec (cp3 io_1_1) <| cec (cp13) <| cec (cp57) <| cen
noncomputable def cdX7_goByPlan : List (Nat × Cd) := [(0, (18, 1, 0, 0, 0, [])), (1, (0, 1, 0, 0, 0, [])), (2, (51, 191, 7, 1, 0, [])), (5, (18, 1, 0, 0, 0, [])), (6, (37, 7, 19, 2, 0, [])), (9, (0, 1, 0, 0, 0, [])), (10, (18, 1, 0, 0, 0, [])), (11, (37, 7, 25, 2, 0, [])), (14, (0, 1, 0, 0, 0, [])), (15, (0, 2, 0, 0, 25, [])), (17, (58, 152, 0, 0, 0, [])), (20, (0, 1, 0, 0, 0, [])), (21, (2, 1, 2, 0, 0, [])), (22, (1, 1, 2, 0, 0, [])), (23, (18, 1, 0, 0, 0, [])), (24, (37, 7, 15, 2, 0, [])), (27, (0, 1, 0, 0, 5, [])), (28, (42, 0, 0, 0, 0, [])), (29, (15, 53, 3, 0, 0, [])), (32, (18, 1, 0, 0, 0, [])), (33, (37, 7, 25, 2, 0, [])), (36, (0, 2, 0, 0, 18, [])), (38, (1, 1, 2, 0, 0, [])), (39, (4, 0, 0, 0, 0, [])), (40, (18, 1, 0, 0, 0, [])), (41, (37, 7, 27, 2, 0, [])), (44, (1, 1, 2, 0, 0, [])), (45, (42, 0, 0, 0, 0, [])), (46, (46, 0, 0, 0, 0, [])), (47, (3, 2, 0, 0, 1, [])), (50, (13, 22, 0, 0, 0, [])), (53, (0, 1, 0, 0, 0, [])), (54, (2, 1, 2, 0, 0, [])), (55, (1, 1, 2, 0, 0, [])), (56, (1, 1, 1, 0, 0, [])), (57, (15, 75, 3, 0, 0, [])), (60, (18, 1, 0, 0, 0, [])), (61, (18, 1, 0, 0, 0, [])), (62, (37, 7, 25, 2, 0, [])), (65, (0, 1, 0, 0, 0, [])), (66, (51, 193, 7, 2, 0, [])), (69, (3, 2, 0, 0, 1, [])), (72, (13, 55, 0, 0, 0, [])), (75, (18, 1, 0, 0, 0, [])), (76, (18, 1, 0, 0, 0, [])), (77, (18, 1, 0, 0, 0, [])), (78, (37, 7, 25, 2, 0, [])), (81, (51, 196, 7, 1, 0, [])), (84, (52, 151, 0, 1, 0, [])), (87, (18, 1, 0, 0, 0, [])), (88, (18, 1, 0, 0, 0, [])), (89, (37, 7, 19, 2, 0, [])), (92, (51, 196, 7, 1, 0, [])), (95, (52, 151, 0, 1, 0, [])), (98, (5, 0, 0, 0, 0, [])), (99, (38, 7, 29, 0, 0, [])), (102, (18, 1, 0, 0, 0, [])), (103, (18, 1, 0, 0, 0, [])), (104, (18, 1, 0, 0, 0, [])), (105, (37, 7, 25, 2, 0, [])), (108, (51, 195, 7, 1, 0, [])), (111, (18, 1, 0, 0, 0, [])), (112, (18, 1, 0, 0, 0, [])), (113, (37, 7, 19, 2, 0, [])), (116, (51, 195, 7, 1, 0, [])), (119, (5, 0, 0, 0, 0, [])), (120, (38, 7, 30, 0, 0, [])), (123, (57, 0, 0, 0, 0, []))]
set_option maxRecDepth 20000 in
theorem ceX7_goByPlan {l : Launch} {X : Nat × (Nat → Int32)} {d : Nat} : tbX7_goByPlan l X d = ctb l X d U0 cdX7_goByPlan := cec (cp18) <| cec (cp0 io_0_0) <| cec (cp51 u0_191) <| cec (cp18) <| cec (cp37) <| cec (cp0 io_0_0) <| cec (cp18) <| cec (cp37) <| cec (cp0 io_0_0) <| cec (cp0 io_44_25) <| cec (cp58 u0_152) <| cec (cp0 io_0_0) <| cec (cp2) <| cec (cp1) <| cec (cp18) <| cec (cp37) <| cec (cp0 io_5_5) <| cec (cp42) <| cec (cp15_3) <| cec (cp18) <| cec (cp37) <| cec (cp0 io_46_18) <| cec (cp1) <| cec (cp4) <| cec (cp18) <| cec (cp37) <| cec (cp1) <| cec (cp42) <| cec (cp46) <| cec (cp3 io_1_1) <| cec (cp13) <| cec (cp0 io_0_0) <| cec (cp2) <| cec (cp1) <| cec (cp1) <| cec (cp15_3) <| cec (cp18) <| cec (cp18) <| cec (cp37) <| cec (cp0 io_0_0) <| cec (cp51 u0_193) <| cec (cp3 io_1_1) <| cec (cp13) <| cec (cp18) <| cec (cp18) <| cec (cp18) <| cec (cp37) <| cec (cp51 u0_196) <| cec (cp52 u0_151) <| cec (cp18) <| cec (cp18) <| cec (cp37) <| cec (cp51 u0_196) <| cec (cp52 u0_151) <| cec (cp5) <| cec (cp38) <| cec (cp18) <| cec (cp18) <| cec (cp18) <| cec (cp37) <| cec (cp51 u0_195) <| cec (cp18) <| cec (cp18) <| cec (cp37) <| cec (cp51 u0_195) <| cec (cp5) <| cec (cp38) <| cec (cp57) <| cen
noncomputable def cdX7_mayHave : List (Nat × Cd) := [(0, (18, 1, 0, 0, 0, [])), (1, (37, 7, 19, 2, 0, [])), (4, (1, 1, 2, 0, 0, [])), (5, (42, 0, 0, 0, 0, [])), (6, (14, 30, 5, 0, 0, [])), (9, (18, 1, 0, 0, 0, [])), (10, (1, 1, 2, 0, 0, [])), (11, (51, 197, 7, 1, 0, [])), (14, (14, 26, 2, 0, 0, [])), (17, (18, 1, 0, 0, 0, [])), (18, (1, 1, 2, 0, 0, [])), (19, (51, 197, 7, 1, 0, [])), (22, (1, 1, 1, 0, 0, [])), (23, (15, 30, 1, 0, 0, [])), (26, (0, 1, 0, 0, 1, [])), (27, (13, 31, 0, 0, 0, [])), (30, (0, 1, 0, 0, 0, [])), (31, (55, 0, 0, 0, 0, []))]
set_option maxRecDepth 20000 in
theorem ceX7_mayHave {l : Launch} {X : Nat × (Nat → Int32)} {d : Nat} : tbX7_mayHave l X d = ctb l X d U0 cdX7_mayHave := cec (cp18) <| cec (cp37) <| cec (cp1) <| cec (cp42) <| cec (cp14_5) <| cec (cp18) <| cec (cp1) <| cec (cp51 u0_197) <| cec (cp14_2) <| cec (cp18) <| cec (cp1) <| cec (cp51 u0_197) <| cec (cp1) <| cec (cp15_1) <| cec (cp0 io_1_1) <| cec (cp13) <| cec (cp0 io_0_0) <| cec (cp55) <| cen
noncomputable def cdX7_planWhy : List (Nat × Cd) := [(0, (18, 1, 0, 0, 0, [])), (1, (1, 1, 1, 0, 0, [])), (2, (1, 1, 2, 0, 0, [])), (3, (0, 1, 0, 0, 1, [])), (4, (0, 2, 0, 0, 30, [])), (6, (52, 149, 0, 3, 0, [])), (9, (51, 190, 7, 2, 0, [])), (12, (54, 0, 0, 0, 0, []))]
set_option maxRecDepth 20000 in
theorem ceX7_planWhy {l : Launch} {X : Nat × (Nat → Int32)} {d : Nat} : tbX7_planWhy l X d = ctb l X d U0 cdX7_planWhy := cec (cp18) <| cec (cp1) <| cec (cp1) <| cec (cp0 io_1_1) <| cec (cp0 io_25_30) <| cec (cp52 u0_149) <| cec (cp51 u0_190) <| cec (cp54) <| cen
noncomputable def cdX7_dropsIf : List (Nat × Cd) := [(0, (18, 1, 0, 0, 0, [])), (1, (51, 146, 7, 0, 0, [])), (4, (18, 1, 0, 0, 0, [])), (5, (18, 1, 0, 0, 0, [])), (6, (1, 1, 1, 0, 0, [])), (7, (51, 186, 7, 1, 0, [])), (10, (14, 25, 0, 0, 0, [])), (13, (18, 1, 0, 0, 0, [])), (14, (1, 1, 2, 0, 0, [])), (15, (51, 185, 7, 1, 0, [])), (18, (14, 25, 0, 0, 0, [])), (21, (0, 1, 0, 0, 1, [])), (22, (13, 26, 0, 0, 0, [])), (25, (0, 1, 0, 0, 0, [])), (26, (1, 1, 3, 0, 0, [])), (27, (51, 222, 7, 2, 0, [])), (30, (2, 2, 4, 0, 0, [])), (32, (1, 2, 4, 0, 0, [])), (34, (14, 49, 1, 0, 0, [])), (37, (18, 1, 0, 0, 0, [])), (38, (1, 1, 1, 0, 0, [])), (39, (1, 1, 2, 0, 0, [])), (40, (51, 221, 7, 2, 0, [])), (43, (14, 49, 1, 0, 0, [])), (46, (0, 1, 0, 0, 5, [])), (47, (2, 2, 4, 0, 0, [])), (49, (1, 2, 4, 0, 0, [])), (51, (14, 61, 0, 0, 0, [])), (54, (18, 1, 0, 0, 0, [])), (55, (1, 2, 4, 0, 0, [])), (57, (51, 147, 7, 1, 0, [])), (60, (54, 0, 0, 0, 0, [])), (61, (18, 1, 0, 0, 0, [])), (62, (51, 219, 7, 0, 0, [])), (65, (18, 1, 0, 0, 0, [])), (66, (37, 7, 27, 2, 0, [])), (69, (1, 1, 1, 0, 0, [])), (70, (1, 1, 2, 0, 0, [])), (71, (46, 0, 0, 0, 0, [])), (72, (18, 1, 0, 0, 0, [])), (73, (1, 1, 3, 0, 0, [])), (74, (51, 220, 7, 1, 0, [])), (77, (18, 1, 0, 0, 0, [])), (78, (37, 7, 30, 0, 0, [])), (81, (54, 0, 0, 0, 0, []))]
set_option maxRecDepth 20000 in
theorem ceX7_dropsIf {l : Launch} {X : Nat × (Nat → Int32)} {d : Nat} : tbX7_dropsIf l X d = ctb l X d U0 cdX7_dropsIf := cec (cp18) <| cec (cp51 u0_146) <| cec (cp18) <| cec (cp18) <| cec (cp1) <| cec (cp51 u0_186) <| cec (cp14_0) <| cec (cp18) <| cec (cp1) <| cec (cp51 u0_185) <| cec (cp14_0) <| cec (cp0 io_1_1) <| cec (cp13) <| cec (cp0 io_0_0) <| cec (cp1) <| cec (cp51 u0_222) <| cec (cp2) <| cec (cp1) <| cec (cp14_1) <| cec (cp18) <| cec (cp1) <| cec (cp1) <| cec (cp51 u0_221) <| cec (cp14_1) <| cec (cp0 io_5_5) <| cec (cp2) <| cec (cp1) <| cec (cp14_0) <| cec (cp18) <| cec (cp1) <| cec (cp51 u0_147) <| cec (cp54) <| cec (cp18) <| cec (cp51 u0_219) <| cec (cp18) <| cec (cp37) <| cec (cp1) <| cec (cp1) <| cec (cp46) <| cec (cp18) <| cec (cp1) <| cec (cp51 u0_220) <| cec (cp18) <| cec (cp37) <| cec (cp54) <| cen
noncomputable def cdX7_isBest : List (Nat × Cd) := [(0, (18, 1, 0, 0, 0, [])), (1, (1, 1, 1, 0, 0, [])), (2, (51, 220, 7, 1, 0, [])), (5, (18, 1, 0, 0, 0, [])), (6, (37, 7, 31, 0, 0, [])), (9, (14, 47, 2, 0, 0, [])), (12, (18, 1, 0, 0, 0, [])), (13, (37, 7, 29, 0, 0, [])), (16, (18, 1, 0, 0, 0, [])), (17, (37, 7, 31, 0, 0, [])), (20, (15, 45, 4, 0, 0, [])), (23, (18, 1, 0, 0, 0, [])), (24, (37, 7, 29, 0, 0, [])), (27, (18, 1, 0, 0, 0, [])), (28, (37, 7, 31, 0, 0, [])), (31, (15, 47, 1, 0, 0, [])), (34, (18, 1, 0, 0, 0, [])), (35, (37, 7, 30, 0, 0, [])), (38, (18, 1, 0, 0, 0, [])), (39, (37, 7, 32, 0, 0, [])), (42, (15, 47, 2, 0, 0, [])), (45, (0, 1, 0, 0, 0, [])), (46, (55, 0, 0, 0, 0, [])), (47, (18, 1, 0, 0, 0, [])), (48, (18, 1, 0, 0, 0, [])), (49, (37, 7, 29, 0, 0, [])), (52, (38, 7, 31, 0, 0, [])), (55, (18, 1, 0, 0, 0, [])), (56, (18, 1, 0, 0, 0, [])), (57, (37, 7, 30, 0, 0, [])), (60, (38, 7, 32, 0, 0, [])), (63, (18, 1, 0, 0, 0, [])), (64, (37, 7, 27, 2, 0, [])), (67, (0, 1, 0, 0, 0, [])), (68, (18, 1, 0, 0, 0, [])), (69, (37, 7, 28, 2, 0, [])), (72, (0, 1, 0, 0, 0, [])), (73, (0, 1, 0, 0, 5, [])), (74, (58, 152, 0, 0, 0, [])), (77, (0, 1, 0, 0, 1, [])), (78, (55, 0, 0, 0, 0, []))]
set_option maxRecDepth 20000 in
theorem ceX7_isBest {l : Launch} {X : Nat × (Nat → Int32)} {d : Nat} : tbX7_isBest l X d = ctb l X d U0 cdX7_isBest := cec (cp18) <| cec (cp1) <| cec (cp51 u0_220) <| cec (cp18) <| cec (cp37) <| cec (cp14_2) <| cec (cp18) <| cec (cp37) <| cec (cp18) <| cec (cp37) <| cec (cp15_4) <| cec (cp18) <| cec (cp37) <| cec (cp18) <| cec (cp37) <| cec (cp15_1) <| cec (cp18) <| cec (cp37) <| cec (cp18) <| cec (cp37) <| cec (cp15_2) <| cec (cp0 io_0_0) <| cec (cp55) <| cec (cp18) <| cec (cp18) <| cec (cp37) <| cec (cp38) <| cec (cp18) <| cec (cp18) <| cec (cp37) <| cec (cp38) <| cec (cp18) <| cec (cp37) <| cec (cp0 io_0_0) <| cec (cp18) <| cec (cp37) <| cec (cp0 io_0_0) <| cec (cp0 io_5_5) <| cec (cp58 u0_152) <| cec (cp0 io_1_1) <| cec (cp55) <| cen
noncomputable def cdX7_faceFor : List (Nat × Cd) := [(0, (18, 1, 0, 0, 0, [])), (1, (51, 146, 7, 0, 0, [])), (4, (18, 1, 0, 0, 0, [])), (5, (18, 1, 0, 0, 0, [])), (6, (1, 1, 1, 0, 0, [])), (7, (51, 186, 7, 1, 0, [])), (10, (1, 1, 2, 0, 0, [])), (11, (51, 222, 7, 2, 0, [])), (14, (2, 1, 3, 0, 0, [])), (15, (1, 1, 3, 0, 0, [])), (16, (14, 25, 0, 0, 0, [])), (19, (18, 1, 0, 0, 0, [])), (20, (1, 1, 3, 0, 0, [])), (21, (51, 147, 7, 1, 0, [])), (24, (54, 0, 0, 0, 0, [])), (25, (0, 2, 0, 0, (-2), [])), (27, (2, 2, 4, 0, 0, [])), (29, (18, 1, 0, 0, 0, [])), (30, (0, 2, 0, 0, (-2), [])), (32, (38, 7, 31, 0, 0, [])), (35, (18, 1, 0, 0, 0, [])), (36, (51, 219, 7, 0, 0, [])), (39, (0, 1, 0, 0, 0, [])), (40, (2, 2, 5, 0, 0, [])), (42, (1, 2, 5, 0, 0, [])), (44, (18, 1, 0, 0, 0, [])), (45, (37, 7, 15, 2, 0, [])), (48, (0, 1, 0, 0, 4, [])), (49, (42, 0, 0, 0, 0, [])), (50, (15, 92, 3, 0, 0, [])), (53, (18, 1, 0, 0, 0, [])), (54, (1, 1, 1, 0, 0, [])), (55, (1, 2, 5, 0, 0, [])), (57, (51, 221, 7, 2, 0, [])), (60, (14, 66, 1, 0, 0, [])), (63, (13, 86, 0, 0, 0, [])), (66, (18, 1, 0, 0, 0, [])), (67, (37, 7, 27, 2, 0, [])), (70, (1, 1, 1, 0, 0, [])), (71, (1, 2, 5, 0, 0, [])), (73, (46, 0, 0, 0, 0, [])), (74, (18, 1, 0, 0, 0, [])), (75, (1, 1, 2, 0, 0, [])), (76, (51, 224, 7, 1, 0, [])), (79, (14, 86, 0, 0, 0, [])), (82, (1, 2, 5, 0, 0, [])), (84, (2, 2, 4, 0, 0, [])), (86, (3, 5, 0, 0, 1, [])), (89, (13, 42, 0, 0, 0, [])), (92, (1, 2, 4, 0, 0, [])), (94, (54, 0, 0, 0, 0, []))]
set_option maxRecDepth 20000 in
theorem ceX7_faceFor {l : Launch} {X : Nat × (Nat → Int32)} {d : Nat} : tbX7_faceFor l X d = ctb l X d U0 cdX7_faceFor := cec (cp18) <| cec (cp51 u0_146) <| cec (cp18) <| cec (cp18) <| cec (cp1) <| cec (cp51 u0_186) <| cec (cp1) <| cec (cp51 u0_222) <| cec (cp2) <| cec (cp1) <| cec (cp14_0) <| cec (cp18) <| cec (cp1) <| cec (cp51 u0_147) <| cec (cp54) <| cec (cp0 io_3_m2) <| cec (cp2) <| cec (cp18) <| cec (cp0 io_3_m2) <| cec (cp38) <| cec (cp18) <| cec (cp51 u0_219) <| cec (cp0 io_0_0) <| cec (cp2) <| cec (cp1) <| cec (cp18) <| cec (cp37) <| cec (cp0 io_18_4) <| cec (cp42) <| cec (cp15_3) <| cec (cp18) <| cec (cp1) <| cec (cp1) <| cec (cp51 u0_221) <| cec (cp14_1) <| cec (cp13) <| cec (cp18) <| cec (cp37) <| cec (cp1) <| cec (cp1) <| cec (cp46) <| cec (cp18) <| cec (cp1) <| cec (cp51 u0_224) <| cec (cp14_0) <| cec (cp1) <| cec (cp2) <| cec (cp3 io_1_1) <| cec (cp13) <| cec (cp1) <| cec (cp54) <| cen
noncomputable def cdX7_tryPlans : List (Nat × Cd) := [(0, (1, 1, 1, 0, 0, [])), (1, (18, 1, 0, 0, 0, [])), (2, (37, 7, 15, 2, 0, [])), (5, (0, 1, 0, 0, 5, [])), (6, (42, 0, 0, 0, 0, [])), (7, (15, 17, 1, 0, 0, [])), (10, (18, 1, 0, 0, 0, [])), (11, (1, 1, 3, 0, 0, [])), (12, (51, 224, 7, 1, 0, [])), (15, (36, 0, 0, 0, 0, [])), (16, (57, 0, 0, 0, 0, [])), (17, (0, 1, 0, 0, 0, [])), (18, (2, 2, 4, 0, 0, [])), (20, (1, 2, 4, 0, 0, [])), (22, (18, 1, 0, 0, 0, [])), (23, (37, 7, 15, 2, 0, [])), (26, (0, 1, 0, 0, 4, [])), (27, (42, 0, 0, 0, 0, [])), (28, (15, 81, 3, 0, 0, [])), (31, (18, 1, 0, 0, 0, [])), (32, (37, 7, 19, 2, 0, [])), (35, (1, 2, 4, 0, 0, [])), (37, (42, 0, 0, 0, 0, [])), (38, (14, 75, 0, 0, 0, [])), (41, (1, 1, 2, 0, 0, [])), (42, (1, 2, 4, 0, 0, [])), (44, (52, 150, 0, 2, 0, [])), (47, (14, 53, 0, 0, 0, [])), (50, (13, 75, 0, 0, 0, [])), (53, (18, 1, 0, 0, 0, [])), (54, (37, 7, 27, 2, 0, [])), (57, (1, 1, 1, 0, 0, [])), (58, (1, 2, 4, 0, 0, [])), (60, (46, 0, 0, 0, 0, [])), (61, (18, 1, 0, 0, 0, [])), (62, (1, 1, 1, 0, 0, [])), (63, (0, 1, 0, 0, 1, [])), (64, (4, 0, 0, 0, 0, [])), (65, (1, 1, 2, 0, 0, [])), (66, (0, 1, 0, 0, 1, [])), (67, (1, 2, 4, 0, 0, [])), (69, (10, 0, 0, 0, 0, [])), (70, (8, 0, 0, 0, 0, [])), (71, (1, 1, 3, 0, 0, [])), (72, (51, 226, 7, 3, 0, [])), (75, (3, 4, 0, 0, 1, [])), (78, (13, 20, 0, 0, 0, [])), (81, (57, 0, 0, 0, 0, []))]
set_option maxRecDepth 20000 in
theorem ceX7_tryPlans {l : Launch} {X : Nat × (Nat → Int32)} {d : Nat} : tbX7_tryPlans l X d = ctb l X d U0 cdX7_tryPlans := cec (cp1) <| cec (cp18) <| cec (cp37) <| cec (cp0 io_5_5) <| cec (cp42) <| cec (cp15_1) <| cec (cp18) <| cec (cp1) <| cec (cp51 u0_224) <| cec (cp36) <| cec (cp57) <| cec (cp0 io_0_0) <| cec (cp2) <| cec (cp1) <| cec (cp18) <| cec (cp37) <| cec (cp0 io_18_4) <| cec (cp42) <| cec (cp15_3) <| cec (cp18) <| cec (cp37) <| cec (cp1) <| cec (cp42) <| cec (cp14_0) <| cec (cp1) <| cec (cp1) <| cec (cp52 u0_150) <| cec (cp14_0) <| cec (cp13) <| cec (cp18) <| cec (cp37) <| cec (cp1) <| cec (cp1) <| cec (cp46) <| cec (cp18) <| cec (cp1) <| cec (cp0 io_1_1) <| cec (cp4) <| cec (cp1) <| cec (cp0 io_1_1) <| cec (cp1) <| cec (cp10) <| cec (cp8) <| cec (cp1) <| cec (cp51 u0_226) <| cec (cp3 io_1_1) <| cec (cp13) <| cec (cp57) <| cen
noncomputable def cdX7_seekMatch : List (Nat × Cd) := [(0, (18, 1, 0, 0, 0, [])), (1, (0, 2, 0, 0, (-2), [])), (3, (38, 7, 31, 0, 0, [])), (6, (18, 1, 0, 0, 0, [])), (7, (0, 2, 0, 0, (-2), [])), (9, (38, 7, 32, 0, 0, [])), (12, (18, 1, 0, 0, 0, [])), (13, (0, 1, 0, 0, 0, [])), (14, (0, 1, 0, 0, 0, [])), (15, (1, 1, 1, 0, 0, [])), (16, (51, 226, 7, 3, 0, [])), (19, (57, 0, 0, 0, 0, []))]
set_option maxRecDepth 20000 in
theorem ceX7_seekMatch {l : Launch} {X : Nat × (Nat → Int32)} {d : Nat} : tbX7_seekMatch l X d = ctb l X d U0 cdX7_seekMatch := cec (cp18) <| cec (cp0 io_3_m2) <| cec (cp38) <| cec (cp18) <| cec (cp0 io_3_m2) <| cec (cp38) <| cec (cp18) <| cec (cp0 io_0_0) <| cec (cp0 io_0_0) <| cec (cp1) <| cec (cp51 u0_226) <| cec (cp57) <| cen
noncomputable def cdX7_match : List (Nat × Cd) := [(0, (18, 1, 0, 0, 0, [])), (1, (51, 146, 7, 0, 0, [])), (4, (18, 1, 0, 0, 0, [])), (5, (18, 1, 0, 0, 0, [])), (6, (37, 7, 14, 0, 0, [])), (9, (1, 1, 1, 0, 0, [])), (10, (51, 222, 7, 2, 0, [])), (13, (2, 1, 2, 0, 0, [])), (14, (1, 1, 2, 0, 0, [])), (15, (14, 24, 0, 0, 0, [])), (18, (18, 1, 0, 0, 0, [])), (19, (1, 1, 2, 0, 0, [])), (20, (51, 147, 7, 1, 0, [])), (23, (54, 0, 0, 0, 0, [])), (24, (18, 1, 0, 0, 0, [])), (25, (1, 1, 1, 0, 0, [])), (26, (51, 227, 7, 1, 0, [])), (29, (18, 1, 0, 0, 0, [])), (30, (37, 7, 31, 0, 0, [])), (33, (54, 0, 0, 0, 0, []))]
set_option maxRecDepth 20000 in
theorem ceX7_match {l : Launch} {X : Nat × (Nat → Int32)} {d : Nat} : tbX7_match l X d = ctb l X d U0 cdX7_match := cec (cp18) <| cec (cp51 u0_146) <| cec (cp18) <| cec (cp18) <| cec (cp37) <| cec (cp1) <| cec (cp51 u0_222) <| cec (cp2) <| cec (cp1) <| cec (cp14_0) <| cec (cp18) <| cec (cp1) <| cec (cp51 u0_147) <| cec (cp54) <| cec (cp18) <| cec (cp1) <| cec (cp51 u0_227) <| cec (cp18) <| cec (cp37) <| cec (cp54) <| cen
noncomputable def cdX7_matchDrops : List (Nat × Cd) := [(0, (18, 1, 0, 0, 0, [])), (1, (51, 146, 7, 0, 0, [])), (4, (18, 1, 0, 0, 0, [])), (5, (18, 1, 0, 0, 0, [])), (6, (37, 7, 14, 0, 0, [])), (9, (1, 1, 1, 0, 0, [])), (10, (51, 222, 7, 2, 0, [])), (13, (2, 1, 2, 0, 0, [])), (14, (1, 1, 2, 0, 0, [])), (15, (14, 24, 0, 0, 0, [])), (18, (18, 1, 0, 0, 0, [])), (19, (1, 1, 2, 0, 0, [])), (20, (51, 147, 7, 1, 0, [])), (23, (54, 0, 0, 0, 0, [])), (24, (18, 1, 0, 0, 0, [])), (25, (1, 1, 1, 0, 0, [])), (26, (51, 227, 7, 1, 0, [])), (29, (18, 1, 0, 0, 0, [])), (30, (37, 7, 32, 0, 0, [])), (33, (54, 0, 0, 0, 0, []))]
set_option maxRecDepth 20000 in
theorem ceX7_matchDrops {l : Launch} {X : Nat × (Nat → Int32)} {d : Nat} : tbX7_matchDrops l X d = ctb l X d U0 cdX7_matchDrops := cec (cp18) <| cec (cp51 u0_146) <| cec (cp18) <| cec (cp18) <| cec (cp37) <| cec (cp1) <| cec (cp51 u0_222) <| cec (cp2) <| cec (cp1) <| cec (cp14_0) <| cec (cp18) <| cec (cp1) <| cec (cp51 u0_147) <| cec (cp54) <| cec (cp18) <| cec (cp1) <| cec (cp51 u0_227) <| cec (cp18) <| cec (cp37) <| cec (cp54) <| cen
noncomputable def cdX7_matchAt : List (Nat × Cd) := [(0, (18, 1, 0, 0, 0, [])), (1, (51, 146, 7, 0, 0, [])), (4, (18, 1, 0, 0, 0, [])), (5, (18, 1, 0, 0, 0, [])), (6, (1, 1, 1, 0, 0, [])), (7, (51, 186, 7, 1, 0, [])), (10, (1, 1, 2, 0, 0, [])), (11, (51, 222, 7, 2, 0, [])), (14, (2, 1, 3, 0, 0, [])), (15, (1, 1, 3, 0, 0, [])), (16, (14, 25, 0, 0, 0, [])), (19, (18, 1, 0, 0, 0, [])), (20, (1, 1, 3, 0, 0, [])), (21, (51, 147, 7, 1, 0, [])), (24, (54, 0, 0, 0, 0, [])), (25, (18, 1, 0, 0, 0, [])), (26, (1, 1, 2, 0, 0, [])), (27, (51, 227, 7, 1, 0, [])), (30, (18, 1, 0, 0, 0, [])), (31, (37, 7, 31, 0, 0, [])), (34, (14, 45, 3, 0, 0, [])), (37, (18, 1, 0, 0, 0, [])), (38, (0, 1, 0, 0, 1, [])), (39, (51, 147, 7, 1, 0, [])), (42, (13, 51, 0, 0, 0, [])), (45, (18, 1, 0, 0, 0, [])), (46, (37, 7, 28, 2, 0, [])), (49, (1, 1, 1, 0, 0, [])), (50, (42, 0, 0, 0, 0, [])), (51, (54, 0, 0, 0, 0, []))]
set_option maxRecDepth 20000 in
theorem ceX7_matchAt {l : Launch} {X : Nat × (Nat → Int32)} {d : Nat} : tbX7_matchAt l X d = ctb l X d U0 cdX7_matchAt := cec (cp18) <| cec (cp51 u0_146) <| cec (cp18) <| cec (cp18) <| cec (cp1) <| cec (cp51 u0_186) <| cec (cp1) <| cec (cp51 u0_222) <| cec (cp2) <| cec (cp1) <| cec (cp14_0) <| cec (cp18) <| cec (cp1) <| cec (cp51 u0_147) <| cec (cp54) <| cec (cp18) <| cec (cp1) <| cec (cp51 u0_227) <| cec (cp18) <| cec (cp37) <| cec (cp14_3) <| cec (cp18) <| cec (cp0 io_1_1) <| cec (cp51 u0_147) <| cec (cp13) <| cec (cp18) <| cec (cp37) <| cec (cp1) <| cec (cp42) <| cec (cp54) <| cen
noncomputable def cdX7_stepsOf : List (Nat × Cd) := [(0, (18, 1, 0, 0, 0, [])), (1, (1, 1, 2, 0, 0, [])), (2, (0, 1, 0, 0, 0, [])), (3, (51, 232, 7, 2, 0, [])), (6, (18, 1, 0, 0, 0, [])), (7, (37, 7, 33, 2, 0, [])), (10, (1, 1, 1, 0, 0, [])), (11, (42, 0, 0, 0, 0, [])), (12, (0, 3, 0, 0, 100000000, [])), (15, (15, 23, 1, 0, 0, [])), (18, (0, 2, 0, 0, (-2), [])), (20, (13, 29, 0, 0, 0, [])), (23, (18, 1, 0, 0, 0, [])), (24, (37, 7, 33, 2, 0, [])), (27, (1, 1, 1, 0, 0, [])), (28, (42, 0, 0, 0, 0, [])), (29, (54, 0, 0, 0, 0, []))]
set_option maxRecDepth 20000 in
theorem ceX7_stepsOf {l : Launch} {X : Nat × (Nat → Int32)} {d : Nat} : tbX7_stepsOf l X d = ctb l X d U0 cdX7_stepsOf := cec (cp18) <| cec (cp1) <| cec (cp0 io_0_0) <| cec (cp51 u0_232) <| cec (cp18) <| cec (cp37) <| cec (cp1) <| cec (cp42) <| cec (cp0 io_53_100000000) <| cec (cp15_1) <| cec (cp0 io_3_m2) <| cec (cp13) <| cec (cp18) <| cec (cp37) <| cec (cp1) <| cec (cp42) <| cec (cp54) <| cen
noncomputable def cdX7_steps : List (Nat × Cd) := [(0, (18, 1, 0, 0, 0, [])), (1, (51, 146, 7, 0, 0, [])), (4, (18, 1, 0, 0, 0, [])), (5, (0, 1, 0, 0, (-1), [])), (6, (38, 7, 26, 0, 0, [])), (9, (18, 1, 0, 0, 0, [])), (10, (1, 1, 1, 0, 0, [])), (11, (51, 188, 7, 1, 0, [])), (14, (14, 25, 0, 0, 0, [])), (17, (18, 1, 0, 0, 0, [])), (18, (1, 1, 2, 0, 0, [])), (19, (51, 188, 7, 1, 0, [])), (22, (14, 31, 1, 0, 0, [])), (25, (18, 1, 0, 0, 0, [])), (26, (0, 1, 0, 0, 1, [])), (27, (51, 147, 7, 1, 0, [])), (30, (54, 0, 0, 0, 0, [])), (31, (18, 1, 0, 0, 0, [])), (32, (1, 1, 1, 0, 0, [])), (33, (1, 1, 2, 0, 0, [])), (34, (51, 233, 7, 2, 0, [])), (37, (54, 0, 0, 0, 0, []))]
set_option maxRecDepth 20000 in
theorem ceX7_steps {l : Launch} {X : Nat × (Nat → Int32)} {d : Nat} : tbX7_steps l X d = ctb l X d U0 cdX7_steps := cec (cp18) <| cec (cp51 u0_146) <| cec (cp18) <| cec (cp0 io_6_m1) <| cec (cp38) <| cec (cp18) <| cec (cp1) <| cec (cp51 u0_188) <| cec (cp14_0) <| cec (cp18) <| cec (cp1) <| cec (cp51 u0_188) <| cec (cp14_1) <| cec (cp18) <| cec (cp0 io_1_1) <| cec (cp51 u0_147) <| cec (cp54) <| cec (cp18) <| cec (cp1) <| cec (cp1) <| cec (cp51 u0_233) <| cec (cp54) <| cen
noncomputable def cdX7_wayOf : List (Nat × Cd) := [(0, (18, 1, 0, 0, 0, [])), (1, (0, 1, 0, 0, (-1), [])), (2, (38, 7, 26, 0, 0, [])), (5, (18, 1, 0, 0, 0, [])), (6, (1, 1, 2, 0, 0, [])), (7, (51, 194, 7, 1, 0, [])), (10, (18, 1, 0, 0, 0, [])), (11, (18, 1, 0, 0, 0, [])), (12, (37, 7, 15, 2, 0, [])), (15, (0, 2, 0, 0, 45, [])), (17, (0, 1, 0, 0, 2, [])), (18, (1, 1, 1, 0, 0, [])), (19, (6, 0, 0, 0, 0, [])), (20, (4, 0, 0, 0, 0, [])), (21, (0, 1, 0, 0, 1, [])), (22, (4, 0, 0, 0, 0, [])), (23, (42, 0, 0, 0, 0, [])), (24, (18, 1, 0, 0, 0, [])), (25, (37, 7, 25, 2, 0, [])), (28, (0, 2, 0, 0, 24, [])), (30, (42, 0, 0, 0, 0, [])), (31, (51, 232, 7, 2, 0, [])), (34, (18, 1, 0, 0, 0, [])), (35, (37, 7, 33, 2, 0, [])), (38, (18, 1, 0, 0, 0, [])), (39, (37, 7, 15, 2, 0, [])), (42, (0, 2, 0, 0, 45, [])), (44, (0, 1, 0, 0, 2, [])), (45, (1, 1, 1, 0, 0, [])), (46, (6, 0, 0, 0, 0, [])), (47, (4, 0, 0, 0, 0, [])), (48, (42, 0, 0, 0, 0, [])), (49, (42, 0, 0, 0, 0, [])), (50, (2, 1, 3, 0, 0, [])), (51, (1, 1, 3, 0, 0, [])), (52, (0, 3, 0, 0, 100000000, [])), (55, (15, 63, 1, 0, 0, [])), (58, (0, 2, 0, 0, (-2), [])), (60, (13, 64, 0, 0, 0, [])), (63, (1, 1, 3, 0, 0, [])), (64, (54, 0, 0, 0, 0, []))]
set_option maxRecDepth 20000 in
theorem ceX7_wayOf {l : Launch} {X : Nat × (Nat → Int32)} {d : Nat} : tbX7_wayOf l X d = ctb l X d U0 cdX7_wayOf := cec (cp18) <| cec (cp0 io_6_m1) <| cec (cp38) <| cec (cp18) <| cec (cp1) <| cec (cp51 u0_194) <| cec (cp18) <| cec (cp18) <| cec (cp37) <| cec (cp0 io_48_45) <| cec (cp0 io_2_2) <| cec (cp1) <| cec (cp6) <| cec (cp4) <| cec (cp0 io_1_1) <| cec (cp4) <| cec (cp42) <| cec (cp18) <| cec (cp37) <| cec (cp0 io_8_24) <| cec (cp42) <| cec (cp51 u0_232) <| cec (cp18) <| cec (cp37) <| cec (cp18) <| cec (cp37) <| cec (cp0 io_48_45) <| cec (cp0 io_2_2) <| cec (cp1) <| cec (cp6) <| cec (cp4) <| cec (cp42) <| cec (cp42) <| cec (cp2) <| cec (cp1) <| cec (cp0 io_53_100000000) <| cec (cp15_1) <| cec (cp0 io_3_m2) <| cec (cp13) <| cec (cp1) <| cec (cp54) <| cen
noncomputable def cdX7_wets : List (Nat × Cd) := [(0, (18, 1, 0, 0, 0, [])), (1, (51, 146, 7, 0, 0, [])), (4, (18, 1, 0, 0, 0, [])), (5, (18, 1, 0, 0, 0, [])), (6, (1, 1, 1, 0, 0, [])), (7, (51, 189, 7, 1, 0, [])), (10, (0, 1, 0, 0, 1, [])), (11, (1, 1, 2, 0, 0, [])), (12, (51, 206, 7, 3, 0, [])), (15, (2, 1, 3, 0, 0, [])), (16, (1, 1, 3, 0, 0, [])), (17, (14, 26, 0, 0, 0, [])), (20, (18, 1, 0, 0, 0, [])), (21, (1, 1, 3, 0, 0, [])), (22, (51, 147, 7, 1, 0, [])), (25, (54, 0, 0, 0, 0, [])), (26, (18, 1, 0, 0, 0, [])), (27, (1, 1, 1, 0, 0, [])), (28, (1, 1, 2, 0, 0, [])), (29, (51, 235, 7, 2, 0, [])), (32, (2, 2, 4, 0, 0, [])), (34, (1, 2, 4, 0, 0, [])), (36, (14, 44, 3, 0, 0, [])), (39, (0, 2, 0, 0, (-2), [])), (41, (13, 50, 0, 0, 0, [])), (44, (1, 2, 4, 0, 0, [])), (46, (0, 3, 0, 0, 1000, [])), (49, (21, 0, 0, 0, 0, [])), (50, (54, 0, 0, 0, 0, []))]
set_option maxRecDepth 20000 in
theorem ceX7_wets {l : Launch} {X : Nat × (Nat → Int32)} {d : Nat} : tbX7_wets l X d = ctb l X d U0 cdX7_wets := cec (cp18) <| cec (cp51 u0_146) <| cec (cp18) <| cec (cp18) <| cec (cp1) <| cec (cp51 u0_189) <| cec (cp0 io_1_1) <| cec (cp1) <| cec (cp51 u0_206) <| cec (cp2) <| cec (cp1) <| cec (cp14_0) <| cec (cp18) <| cec (cp1) <| cec (cp51 u0_147) <| cec (cp54) <| cec (cp18) <| cec (cp1) <| cec (cp1) <| cec (cp51 u0_235) <| cec (cp2) <| cec (cp1) <| cec (cp14_3) <| cec (cp0 io_3_m2) <| cec (cp13) <| cec (cp1) <| cec (cp0 io_52_1000) <| cec (cp21) <| cec (cp54) <| cen
noncomputable def cdX7_way : List (Nat × Cd) := [(0, (18, 1, 0, 0, 0, [])), (1, (51, 146, 7, 0, 0, [])), (4, (18, 1, 0, 0, 0, [])), (5, (18, 1, 0, 0, 0, [])), (6, (1, 1, 1, 0, 0, [])), (7, (51, 189, 7, 1, 0, [])), (10, (0, 1, 0, 0, 1, [])), (11, (1, 1, 2, 0, 0, [])), (12, (51, 206, 7, 3, 0, [])), (15, (2, 1, 3, 0, 0, [])), (16, (1, 1, 3, 0, 0, [])), (17, (14, 26, 0, 0, 0, [])), (20, (18, 1, 0, 0, 0, [])), (21, (1, 1, 3, 0, 0, [])), (22, (51, 147, 7, 1, 0, [])), (25, (54, 0, 0, 0, 0, [])), (26, (18, 1, 0, 0, 0, [])), (27, (1, 1, 1, 0, 0, [])), (28, (1, 1, 2, 0, 0, [])), (29, (51, 235, 7, 2, 0, [])), (32, (2, 2, 4, 0, 0, [])), (34, (1, 2, 4, 0, 0, [])), (36, (14, 44, 3, 0, 0, [])), (39, (0, 2, 0, 0, (-2), [])), (41, (13, 50, 0, 0, 0, [])), (44, (1, 2, 4, 0, 0, [])), (46, (0, 3, 0, 0, 1000, [])), (49, (22, 0, 0, 0, 0, [])), (50, (54, 0, 0, 0, 0, []))]
set_option maxRecDepth 20000 in
theorem ceX7_way {l : Launch} {X : Nat × (Nat → Int32)} {d : Nat} : tbX7_way l X d = ctb l X d U0 cdX7_way := cec (cp18) <| cec (cp51 u0_146) <| cec (cp18) <| cec (cp18) <| cec (cp1) <| cec (cp51 u0_189) <| cec (cp0 io_1_1) <| cec (cp1) <| cec (cp51 u0_206) <| cec (cp2) <| cec (cp1) <| cec (cp14_0) <| cec (cp18) <| cec (cp1) <| cec (cp51 u0_147) <| cec (cp54) <| cec (cp18) <| cec (cp1) <| cec (cp1) <| cec (cp51 u0_235) <| cec (cp2) <| cec (cp1) <| cec (cp14_3) <| cec (cp0 io_3_m2) <| cec (cp13) <| cec (cp1) <| cec (cp0 io_52_1000) <| cec (cp22) <| cec (cp54) <| cen
noncomputable def cdX7_wayAt : List (Nat × Cd) := [(0, (18, 1, 0, 0, 0, [])), (1, (51, 146, 7, 0, 0, [])), (4, (18, 1, 0, 0, 0, [])), (5, (1, 1, 1, 0, 0, [])), (6, (51, 189, 7, 1, 0, [])), (9, (14, 18, 1, 0, 0, [])), (12, (18, 1, 0, 0, 0, [])), (13, (0, 1, 0, 0, 1, [])), (14, (51, 147, 7, 1, 0, [])), (17, (54, 0, 0, 0, 0, [])), (18, (1, 1, 2, 0, 0, [])), (19, (0, 1, 0, 0, 1, [])), (20, (0, 2, 0, 0, 60, [])), (22, (52, 149, 0, 3, 0, [])), (25, (14, 34, 1, 0, 0, [])), (28, (18, 1, 0, 0, 0, [])), (29, (0, 1, 0, 0, 2, [])), (30, (51, 147, 7, 1, 0, [])), (33, (54, 0, 0, 0, 0, [])), (34, (18, 1, 0, 0, 0, [])), (35, (1, 1, 1, 0, 0, [])), (36, (1, 1, 2, 0, 0, [])), (37, (51, 235, 7, 2, 0, [])), (40, (2, 2, 4, 0, 0, [])), (42, (1, 2, 4, 0, 0, [])), (44, (14, 63, 2, 0, 0, [])), (47, (1, 1, 3, 0, 0, [])), (48, (0, 1, 0, 0, 0, [])), (49, (1, 2, 4, 0, 0, [])), (51, (0, 3, 0, 0, 1000, [])), (54, (22, 0, 0, 0, 0, [])), (55, (0, 1, 0, 0, 1, [])), (56, (5, 0, 0, 0, 0, [])), (57, (52, 149, 0, 3, 0, [])), (60, (14, 69, 1, 0, 0, [])), (63, (18, 1, 0, 0, 0, [])), (64, (0, 1, 0, 0, 1, [])), (65, (51, 147, 7, 1, 0, [])), (68, (54, 0, 0, 0, 0, [])), (69, (18, 1, 0, 0, 0, [])), (70, (37, 7, 15, 2, 0, [])), (73, (0, 2, 0, 0, 45, [])), (75, (0, 1, 0, 0, 2, [])), (76, (1, 1, 1, 0, 0, [])), (77, (6, 0, 0, 0, 0, [])), (78, (4, 0, 0, 0, 0, [])), (79, (42, 0, 0, 0, 0, [])), (80, (2, 2, 5, 0, 0, [])), (82, (0, 1, 0, 0, 0, [])), (83, (2, 2, 6, 0, 0, [])), (85, (1, 2, 6, 0, 0, [])), (87, (1, 1, 3, 0, 0, [])), (88, (15, 175, 4, 0, 0, [])), (91, (0, 1, 0, 0, 0, [])), (92, (2, 2, 7, 0, 0, [])), (94, (18, 1, 0, 0, 0, [])), (95, (1, 2, 5, 0, 0, [])), (97, (1, 2, 7, 0, 0, [])), (99, (51, 202, 7, 2, 0, [])), (102, (14, 144, 2, 0, 0, [])), (105, (18, 1, 0, 0, 0, [])), (106, (37, 7, 33, 2, 0, [])), (109, (18, 1, 0, 0, 0, [])), (110, (1, 2, 5, 0, 0, [])), (112, (1, 2, 7, 0, 0, [])), (114, (51, 202, 7, 2, 0, [])), (117, (42, 0, 0, 0, 0, [])), (118, (0, 1, 0, 0, 1, [])), (119, (4, 0, 0, 0, 0, [])), (120, (18, 1, 0, 0, 0, [])), (121, (1, 2, 5, 0, 0, [])), (123, (18, 1, 0, 0, 0, [])), (124, (37, 7, 25, 2, 0, [])), (127, (0, 2, 0, 0, 24, [])), (129, (42, 0, 0, 0, 0, [])), (130, (51, 231, 7, 2, 0, [])), (133, (4, 0, 0, 0, 0, [])), (134, (18, 1, 0, 0, 0, [])), (135, (37, 7, 33, 2, 0, [])), (138, (1, 2, 5, 0, 0, [])), (140, (42, 0, 0, 0, 0, [])), (141, (15, 150, 0, 0, 0, [])), (144, (3, 7, 0, 0, 1, [])), (147, (13, 94, 0, 0, 0, [])), (150, (1, 2, 6, 0, 0, [])), (152, (1, 1, 3, 0, 0, [])), (153, (15, 159, 1, 0, 0, [])), (156, (1, 2, 7, 0, 0, [])), (158, (54, 0, 0, 0, 0, [])), (159, (18, 1, 0, 0, 0, [])), (160, (1, 2, 5, 0, 0, [])), (162, (1, 2, 7, 0, 0, [])), (164, (51, 202, 7, 2, 0, [])), (167, (2, 2, 5, 0, 0, [])), (169, (3, 6, 0, 0, 1, [])), (172, (13, 85, 0, 0, 0, [])), (175, (18, 1, 0, 0, 0, [])), (176, (0, 1, 0, 0, 1, [])), (177, (51, 147, 7, 1, 0, [])), (180, (54, 0, 0, 0, 0, []))]
set_option maxRecDepth 20000 in
theorem ceX7_wayAt {l : Launch} {X : Nat × (Nat → Int32)} {d : Nat} : tbX7_wayAt l X d = ctb l X d U0 cdX7_wayAt := cec (cp18) <| cec (cp51 u0_146) <| cec (cp18) <| cec (cp1) <| cec (cp51 u0_189) <| cec (cp14_1) <| cec (cp18) <| cec (cp0 io_1_1) <| cec (cp51 u0_147) <| cec (cp54) <| cec (cp1) <| cec (cp0 io_1_1) <| cec (cp0 io_30_60) <| cec (cp52 u0_149) <| cec (cp14_1) <| cec (cp18) <| cec (cp0 io_2_2) <| cec (cp51 u0_147) <| cec (cp54) <| cec (cp18) <| cec (cp1) <| cec (cp1) <| cec (cp51 u0_235) <| cec (cp2) <| cec (cp1) <| cec (cp14_2) <| cec (cp1) <| cec (cp0 io_0_0) <| cec (cp1) <| cec (cp0 io_52_1000) <| cec (cp22) <| cec (cp0 io_1_1) <| cec (cp5) <| cec (cp52 u0_149) <| cec (cp14_1) <| cec (cp18) <| cec (cp0 io_1_1) <| cec (cp51 u0_147) <| cec (cp54) <| cec (cp18) <| cec (cp37) <| cec (cp0 io_48_45) <| cec (cp0 io_2_2) <| cec (cp1) <| cec (cp6) <| cec (cp4) <| cec (cp42) <| cec (cp2) <| cec (cp0 io_0_0) <| cec (cp2) <| cec (cp1) <| cec (cp1) <| cec (cp15_4) <| cec (cp0 io_0_0) <| cec (cp2) <| cec (cp18) <| cec (cp1) <| cec (cp1) <| cec (cp51 u0_202) <| cec (cp14_2) <| cec (cp18) <| cec (cp37) <| cec (cp18) <| cec (cp1) <| cec (cp1) <| cec (cp51 u0_202) <| cec (cp42) <| cec (cp0 io_1_1) <| cec (cp4) <| cec (cp18) <| cec (cp1) <| cec (cp18) <| cec (cp37) <| cec (cp0 io_8_24) <| cec (cp42) <| cec (cp51 u0_231) <| cec (cp4) <| cec (cp18) <| cec (cp37) <| cec (cp1) <| cec (cp42) <| cec (cp15_0) <| cec (cp3 io_1_1) <| cec (cp13) <| cec (cp1) <| cec (cp1) <| cec (cp15_1) <| cec (cp1) <| cec (cp54) <| cec (cp18) <| cec (cp1) <| cec (cp1) <| cec (cp51 u0_202) <| cec (cp2) <| cec (cp3 io_1_1) <| cec (cp13) <| cec (cp18) <| cec (cp0 io_1_1) <| cec (cp51 u0_147) <| cec (cp54) <| cen
noncomputable def cdX7_dryDay : List (Nat × Cd) := [(0, (18, 1, 0, 0, 0, [])), (1, (51, 146, 7, 0, 0, [])), (4, (18, 1, 0, 0, 0, [])), (5, (1, 1, 1, 0, 0, [])), (6, (51, 189, 7, 1, 0, [])), (9, (14, 18, 1, 0, 0, [])), (12, (18, 1, 0, 0, 0, [])), (13, (0, 1, 0, 0, 1, [])), (14, (51, 147, 7, 1, 0, [])), (17, (54, 0, 0, 0, 0, [])), (18, (0, 1, 0, 0, 1, [])), (19, (2, 1, 2, 0, 0, [])), (20, (1, 1, 2, 0, 0, [])), (21, (0, 2, 0, 0, 60, [])), (23, (15, 52, 4, 0, 0, [])), (26, (18, 1, 0, 0, 0, [])), (27, (1, 1, 1, 0, 0, [])), (28, (1, 1, 2, 0, 0, [])), (29, (51, 235, 7, 2, 0, [])), (32, (2, 1, 3, 0, 0, [])), (33, (1, 1, 3, 0, 0, [])), (34, (14, 46, 2, 0, 0, [])), (37, (1, 1, 3, 0, 0, [])), (38, (0, 3, 0, 0, 1000, [])), (41, (15, 46, 3, 0, 0, [])), (44, (1, 1, 2, 0, 0, [])), (45, (54, 0, 0, 0, 0, [])), (46, (3, 2, 0, 0, 1, [])), (49, (13, 20, 0, 0, 0, [])), (52, (0, 2, 0, 0, (-2), [])), (54, (54, 0, 0, 0, 0, []))]
set_option maxRecDepth 20000 in
theorem ceX7_dryDay {l : Launch} {X : Nat × (Nat → Int32)} {d : Nat} : tbX7_dryDay l X d = ctb l X d U0 cdX7_dryDay := cec (cp18) <| cec (cp51 u0_146) <| cec (cp18) <| cec (cp1) <| cec (cp51 u0_189) <| cec (cp14_1) <| cec (cp18) <| cec (cp0 io_1_1) <| cec (cp51 u0_147) <| cec (cp54) <| cec (cp0 io_1_1) <| cec (cp2) <| cec (cp1) <| cec (cp0 io_30_60) <| cec (cp15_4) <| cec (cp18) <| cec (cp1) <| cec (cp1) <| cec (cp51 u0_235) <| cec (cp2) <| cec (cp1) <| cec (cp14_2) <| cec (cp1) <| cec (cp0 io_52_1000) <| cec (cp15_3) <| cec (cp1) <| cec (cp54) <| cec (cp3 io_1_1) <| cec (cp13) <| cec (cp0 io_3_m2) <| cec (cp54) <| cen
noncomputable def cdX7_allSteps : List (Nat × Cd) := [(0, (0, 1, 0, 0, 0, [])), (1, (2, 1, 1, 0, 0, [])), (2, (0, 1, 0, 0, 0, [])), (3, (2, 1, 2, 0, 0, [])), (4, (1, 1, 2, 0, 0, [])), (5, (18, 1, 0, 0, 0, [])), (6, (37, 7, 15, 2, 0, [])), (9, (0, 2, 0, 0, 6, [])), (11, (42, 0, 0, 0, 0, [])), (12, (15, 63, 3, 0, 0, [])), (15, (18, 1, 0, 0, 0, [])), (16, (18, 1, 0, 0, 0, [])), (17, (37, 7, 15, 2, 0, [])), (20, (0, 2, 0, 0, 45, [])), (22, (0, 1, 0, 0, 2, [])), (23, (1, 1, 2, 0, 0, [])), (24, (6, 0, 0, 0, 0, [])), (25, (4, 0, 0, 0, 0, [])), (26, (42, 0, 0, 0, 0, [])), (27, (18, 1, 0, 0, 0, [])), (28, (37, 7, 15, 2, 0, [])), (31, (0, 2, 0, 0, 45, [])), (33, (0, 1, 0, 0, 2, [])), (34, (1, 1, 2, 0, 0, [])), (35, (6, 0, 0, 0, 0, [])), (36, (4, 0, 0, 0, 0, [])), (37, (0, 1, 0, 0, 1, [])), (38, (4, 0, 0, 0, 0, [])), (39, (42, 0, 0, 0, 0, [])), (40, (51, 233, 7, 2, 0, [])), (43, (2, 1, 3, 0, 0, [])), (44, (1, 1, 1, 0, 0, [])), (45, (1, 1, 3, 0, 0, [])), (46, (14, 54, 3, 0, 0, [])), (49, (0, 2, 0, 0, 60, [])), (51, (13, 55, 0, 0, 0, [])), (54, (1, 1, 3, 0, 0, [])), (55, (4, 0, 0, 0, 0, [])), (56, (2, 1, 1, 0, 0, [])), (57, (3, 2, 0, 0, 1, [])), (60, (13, 4, 0, 0, 0, [])), (63, (1, 1, 1, 0, 0, [])), (64, (54, 0, 0, 0, 0, []))]
set_option maxRecDepth 20000 in
theorem ceX7_allSteps {l : Launch} {X : Nat × (Nat → Int32)} {d : Nat} : tbX7_allSteps l X d = ctb l X d U0 cdX7_allSteps := cec (cp0 io_0_0) <| cec (cp2) <| cec (cp0 io_0_0) <| cec (cp2) <| cec (cp1) <| cec (cp18) <| cec (cp37) <| cec (cp0 io_7_6) <| cec (cp42) <| cec (cp15_3) <| cec (cp18) <| cec (cp18) <| cec (cp37) <| cec (cp0 io_48_45) <| cec (cp0 io_2_2) <| cec (cp1) <| cec (cp6) <| cec (cp4) <| cec (cp42) <| cec (cp18) <| cec (cp37) <| cec (cp0 io_48_45) <| cec (cp0 io_2_2) <| cec (cp1) <| cec (cp6) <| cec (cp4) <| cec (cp0 io_1_1) <| cec (cp4) <| cec (cp42) <| cec (cp51 u0_233) <| cec (cp2) <| cec (cp1) <| cec (cp1) <| cec (cp14_3) <| cec (cp0 io_30_60) <| cec (cp13) <| cec (cp1) <| cec (cp4) <| cec (cp2) <| cec (cp3 io_1_1) <| cec (cp13) <| cec (cp1) <| cec (cp54) <| cen
noncomputable def cdX7_gate : List (Nat × Cd) := [(0, (18, 1, 0, 0, 0, [])), (1, (51, 146, 7, 0, 0, [])), (4, (18, 1, 0, 0, 0, [])), (5, (37, 7, 14, 0, 0, [])), (8, (14, 17, 1, 0, 0, [])), (11, (18, 1, 0, 0, 0, [])), (12, (0, 1, 0, 0, 1, [])), (13, (51, 147, 7, 1, 0, [])), (16, (54, 0, 0, 0, 0, [])), (17, (0, 2, 0, 0, (-2), [])), (19, (2, 1, 1, 0, 0, [])), (20, (0, 3, 0, 0, 100000000, [])), (23, (2, 1, 2, 0, 0, [])), (24, (0, 1, 0, 0, 0, [])), (25, (2, 1, 3, 0, 0, [])), (26, (1, 1, 3, 0, 0, [])), (27, (18, 1, 0, 0, 0, [])), (28, (51, 187, 7, 0, 0, [])), (31, (15, 82, 3, 0, 0, [])), (34, (18, 1, 0, 0, 0, [])), (35, (37, 7, 15, 2, 0, [])), (38, (0, 2, 0, 0, 10, [])), (40, (42, 0, 0, 0, 0, [])), (41, (1, 1, 3, 0, 0, [])), (42, (52, 150, 0, 2, 0, [])), (45, (14, 51, 1, 0, 0, [])), (48, (13, 76, 0, 0, 0, [])), (51, (18, 1, 0, 0, 0, [])), (52, (1, 1, 3, 0, 0, [])), (53, (38, 7, 26, 0, 0, [])), (56, (18, 1, 0, 0, 0, [])), (57, (51, 240, 7, 0, 0, [])), (60, (2, 2, 4, 0, 0, [])), (62, (1, 2, 4, 0, 0, [])), (64, (1, 1, 2, 0, 0, [])), (65, (15, 71, 2, 0, 0, [])), (68, (13, 76, 0, 0, 0, [])), (71, (1, 1, 3, 0, 0, [])), (72, (2, 1, 1, 0, 0, [])), (73, (1, 2, 4, 0, 0, [])), (75, (2, 1, 2, 0, 0, [])), (76, (3, 3, 0, 0, 1, [])), (79, (13, 26, 0, 0, 0, [])), (82, (18, 1, 0, 0, 0, [])), (83, (0, 1, 0, 0, (-1), [])), (84, (38, 7, 26, 0, 0, [])), (87, (1, 1, 1, 0, 0, [])), (88, (54, 0, 0, 0, 0, []))]
set_option maxRecDepth 20000 in
theorem ceX7_gate {l : Launch} {X : Nat × (Nat → Int32)} {d : Nat} : tbX7_gate l X d = ctb l X d U0 cdX7_gate := cec (cp18) <| cec (cp51 u0_146) <| cec (cp18) <| cec (cp37) <| cec (cp14_1) <| cec (cp18) <| cec (cp0 io_1_1) <| cec (cp51 u0_147) <| cec (cp54) <| cec (cp0 io_3_m2) <| cec (cp2) <| cec (cp0 io_53_100000000) <| cec (cp2) <| cec (cp0 io_0_0) <| cec (cp2) <| cec (cp1) <| cec (cp18) <| cec (cp51 u0_187) <| cec (cp15_3) <| cec (cp18) <| cec (cp37) <| cec (cp0 io_20_10) <| cec (cp42) <| cec (cp1) <| cec (cp52 u0_150) <| cec (cp14_1) <| cec (cp13) <| cec (cp18) <| cec (cp1) <| cec (cp38) <| cec (cp18) <| cec (cp51 u0_240) <| cec (cp2) <| cec (cp1) <| cec (cp1) <| cec (cp15_2) <| cec (cp13) <| cec (cp1) <| cec (cp2) <| cec (cp1) <| cec (cp2) <| cec (cp3 io_1_1) <| cec (cp13) <| cec (cp18) <| cec (cp0 io_6_m1) <| cec (cp38) <| cec (cp1) <| cec (cp54) <| cen
noncomputable def cdX7_wrongBy : List (Nat × Cd) := [(0, (18, 1, 0, 0, 0, [])), (1, (1, 1, 1, 0, 0, [])), (2, (51, 191, 7, 1, 0, [])), (5, (18, 1, 0, 0, 0, [])), (6, (37, 7, 17, 2, 0, [])), (9, (0, 1, 0, 0, 0, [])), (10, (18, 1, 0, 0, 0, [])), (11, (37, 7, 25, 2, 0, [])), (14, (0, 1, 0, 0, 0, [])), (15, (0, 2, 0, 0, 25, [])), (17, (58, 152, 0, 0, 0, [])), (20, (0, 1, 0, 0, 0, [])), (21, (2, 1, 2, 0, 0, [])), (22, (1, 1, 2, 0, 0, [])), (23, (0, 2, 0, 0, 6, [])), (25, (15, 41, 3, 0, 0, [])), (28, (18, 1, 0, 0, 0, [])), (29, (37, 7, 34, 2, 0, [])), (32, (1, 1, 2, 0, 0, [])), (33, (0, 1, 0, 0, 0, [])), (34, (46, 0, 0, 0, 0, [])), (35, (3, 2, 0, 0, 1, [])), (38, (13, 22, 0, 0, 0, [])), (41, (0, 1, 0, 0, 1, [])), (42, (2, 1, 2, 0, 0, [])), (43, (1, 1, 2, 0, 0, [])), (44, (0, 2, 0, 0, 40, [])), (46, (15, 110, 4, 0, 0, [])), (49, (18, 1, 0, 0, 0, [])), (50, (18, 1, 0, 0, 0, [])), (51, (37, 7, 25, 2, 0, [])), (54, (0, 1, 0, 0, 0, [])), (55, (51, 193, 7, 2, 0, [])), (58, (0, 1, 0, 0, 0, [])), (59, (2, 1, 3, 0, 0, [])), (60, (1, 1, 3, 0, 0, [])), (61, (18, 1, 0, 0, 0, [])), (62, (37, 7, 15, 2, 0, [])), (65, (0, 1, 0, 0, 4, [])), (66, (42, 0, 0, 0, 0, [])), (67, (15, 104, 3, 0, 0, [])), (70, (18, 1, 0, 0, 0, [])), (71, (37, 7, 25, 2, 0, [])), (74, (0, 2, 0, 0, 12, [])), (76, (1, 1, 3, 0, 0, [])), (77, (4, 0, 0, 0, 0, [])), (78, (42, 0, 0, 0, 0, [])), (79, (14, 98, 5, 0, 0, [])), (82, (18, 1, 0, 0, 0, [])), (83, (37, 7, 34, 2, 0, [])), (86, (1, 1, 3, 0, 0, [])), (87, (42, 0, 0, 0, 0, [])), (88, (14, 98, 1, 0, 0, [])), (91, (18, 1, 0, 0, 0, [])), (92, (37, 7, 34, 2, 0, [])), (95, (1, 1, 3, 0, 0, [])), (96, (1, 1, 2, 0, 0, [])), (97, (46, 0, 0, 0, 0, [])), (98, (3, 3, 0, 0, 1, [])), (101, (13, 60, 0, 0, 0, [])), (104, (3, 2, 0, 0, 1, [])), (107, (13, 43, 0, 0, 0, [])), (110, (0, 1, 0, 0, 0, [])), (111, (2, 1, 2, 0, 0, [])), (112, (1, 1, 2, 0, 0, [])), (113, (18, 1, 0, 0, 0, [])), (114, (37, 7, 15, 2, 0, [])), (117, (0, 1, 0, 0, 4, [])), (118, (42, 0, 0, 0, 0, [])), (119, (15, 160, 3, 0, 0, [])), (122, (18, 1, 0, 0, 0, [])), (123, (37, 7, 15, 2, 0, [])), (126, (0, 2, 0, 0, 61, [])), (128, (1, 1, 2, 0, 0, [])), (129, (4, 0, 0, 0, 0, [])), (130, (42, 0, 0, 0, 0, [])), (131, (14, 154, 5, 0, 0, [])), (134, (18, 1, 0, 0, 0, [])), (135, (37, 7, 34, 2, 0, [])), (138, (1, 1, 2, 0, 0, [])), (139, (42, 0, 0, 0, 0, [])), (140, (18, 1, 0, 0, 0, [])), (141, (37, 7, 15, 2, 0, [])), (144, (0, 2, 0, 0, 61, [])), (146, (1, 1, 2, 0, 0, [])), (147, (4, 0, 0, 0, 0, [])), (148, (42, 0, 0, 0, 0, [])), (149, (15, 154, 0, 0, 0, [])), (152, (1, 1, 2, 0, 0, [])), (153, (54, 0, 0, 0, 0, [])), (154, (3, 2, 0, 0, 1, [])), (157, (13, 112, 0, 0, 0, [])), (160, (0, 2, 0, 0, (-2), [])), (162, (54, 0, 0, 0, 0, []))]
set_option maxRecDepth 20000 in
theorem ceX7_wrongBy {l : Launch} {X : Nat × (Nat → Int32)} {d : Nat} : tbX7_wrongBy l X d = ctb l X d U0 cdX7_wrongBy := cec (cp18) <| cec (cp1) <| cec (cp51 u0_191) <| cec (cp18) <| cec (cp37) <| cec (cp0 io_0_0) <| cec (cp18) <| cec (cp37) <| cec (cp0 io_0_0) <| cec (cp0 io_44_25) <| cec (cp58 u0_152) <| cec (cp0 io_0_0) <| cec (cp2) <| cec (cp1) <| cec (cp0 io_7_6) <| cec (cp15_3) <| cec (cp18) <| cec (cp37) <| cec (cp1) <| cec (cp0 io_0_0) <| cec (cp46) <| cec (cp3 io_1_1) <| cec (cp13) <| cec (cp0 io_1_1) <| cec (cp2) <| cec (cp1) <| cec (cp0 io_26_40) <| cec (cp15_4) <| cec (cp18) <| cec (cp18) <| cec (cp37) <| cec (cp0 io_0_0) <| cec (cp51 u0_193) <| cec (cp0 io_0_0) <| cec (cp2) <| cec (cp1) <| cec (cp18) <| cec (cp37) <| cec (cp0 io_18_4) <| cec (cp42) <| cec (cp15_3) <| cec (cp18) <| cec (cp37) <| cec (cp0 io_39_12) <| cec (cp1) <| cec (cp4) <| cec (cp42) <| cec (cp14_5) <| cec (cp18) <| cec (cp37) <| cec (cp1) <| cec (cp42) <| cec (cp14_1) <| cec (cp18) <| cec (cp37) <| cec (cp1) <| cec (cp1) <| cec (cp46) <| cec (cp3 io_1_1) <| cec (cp13) <| cec (cp3 io_1_1) <| cec (cp13) <| cec (cp0 io_0_0) <| cec (cp2) <| cec (cp1) <| cec (cp18) <| cec (cp37) <| cec (cp0 io_18_4) <| cec (cp42) <| cec (cp15_3) <| cec (cp18) <| cec (cp37) <| cec (cp0 io_50_61) <| cec (cp1) <| cec (cp4) <| cec (cp42) <| cec (cp14_5) <| cec (cp18) <| cec (cp37) <| cec (cp1) <| cec (cp42) <| cec (cp18) <| cec (cp37) <| cec (cp0 io_50_61) <| cec (cp1) <| cec (cp4) <| cec (cp42) <| cec (cp15_0) <| cec (cp1) <| cec (cp54) <| cec (cp3 io_1_1) <| cec (cp13) <| cec (cp0 io_3_m2) <| cec (cp54) <| cen
noncomputable def cdX7_seekSets : List (Nat × Cd) := [(0, (0, 1, 0, 0, (-1), [])), (1, (2, 1, 2, 0, 0, [])), (2, (18, 1, 0, 0, 0, [])), (3, (0, 1, 0, 0, 0, [])), (4, (38, 7, 36, 0, 0, [])), (7, (18, 1, 0, 0, 0, [])), (8, (0, 1, 0, 0, 0, [])), (9, (38, 7, 37, 0, 0, [])), (12, (18, 1, 0, 0, 0, [])), (13, (0, 1, 0, 0, 1, [])), (14, (18, 1, 0, 0, 0, [])), (15, (37, 7, 15, 2, 0, [])), (18, (0, 2, 0, 0, 7, [])), (20, (42, 0, 0, 0, 0, [])), (21, (10, 0, 0, 0, 0, [])), (22, (0, 1, 0, 0, 1, [])), (23, (5, 0, 0, 0, 0, [])), (24, (38, 7, 38, 0, 0, [])), (27, (0, 1, 0, 0, 0, [])), (28, (2, 1, 3, 0, 0, [])), (29, (1, 1, 3, 0, 0, [])), (30, (0, 1, 0, 0, 4, [])), (31, (15, 47, 3, 0, 0, [])), (34, (18, 1, 0, 0, 0, [])), (35, (37, 7, 35, 2, 0, [])), (38, (1, 1, 3, 0, 0, [])), (39, (0, 1, 0, 0, 0, [])), (40, (46, 0, 0, 0, 0, [])), (41, (3, 3, 0, 0, 1, [])), (44, (13, 29, 0, 0, 0, [])), (47, (0, 1, 0, 0, 0, [])), (48, (2, 1, 3, 0, 0, [])), (49, (1, 1, 3, 0, 0, [])), (50, (0, 1, 0, 0, 1, [])), (51, (18, 1, 0, 0, 0, [])), (52, (37, 7, 15, 2, 0, [])), (55, (0, 2, 0, 0, 7, [])), (57, (42, 0, 0, 0, 0, [])), (58, (10, 0, 0, 0, 0, [])), (59, (15, 158, 3, 0, 0, [])), (62, (18, 1, 0, 0, 0, [])), (63, (1, 1, 3, 0, 0, [])), (64, (51, 242, 7, 1, 0, [])), (67, (0, 2, 0, 0, (-2), [])), (69, (15, 75, 0, 0, 0, [])), (72, (13, 152, 0, 0, 0, [])), (75, (18, 1, 0, 0, 0, [])), (76, (37, 7, 36, 0, 0, [])), (79, (1, 1, 1, 0, 0, [])), (80, (15, 85, 1, 0, 0, [])), (83, (1, 1, 3, 0, 0, [])), (84, (2, 1, 2, 0, 0, [])), (85, (18, 1, 0, 0, 0, [])), (86, (34, 0, 0, 0, 0, [])), (87, (37, 7, 36, 0, 0, [])), (90, (0, 1, 0, 0, 1, [])), (91, (4, 0, 0, 0, 0, [])), (92, (38, 7, 36, 0, 0, [])), (95, (18, 1, 0, 0, 0, [])), (96, (34, 0, 0, 0, 0, [])), (97, (37, 7, 37, 0, 0, [])), (100, (1, 1, 3, 0, 0, [])), (101, (8, 0, 0, 0, 0, [])), (102, (38, 7, 37, 0, 0, [])), (105, (18, 1, 0, 0, 0, [])), (106, (34, 0, 0, 0, 0, [])), (107, (37, 7, 38, 0, 0, [])), (110, (1, 1, 3, 0, 0, [])), (111, (7, 0, 0, 0, 0, [])), (112, (38, 7, 38, 0, 0, [])), (115, (0, 1, 0, 0, 0, [])), (116, (2, 2, 4, 0, 0, [])), (118, (1, 2, 4, 0, 0, [])), (120, (18, 1, 0, 0, 0, [])), (121, (37, 7, 15, 2, 0, [])), (124, (0, 2, 0, 0, 7, [])), (126, (42, 0, 0, 0, 0, [])), (127, (15, 152, 3, 0, 0, [])), (130, (18, 1, 0, 0, 0, [])), (131, (37, 7, 35, 2, 0, [])), (134, (1, 2, 4, 0, 0, [])), (136, (35, 0, 0, 0, 0, [])), (137, (42, 0, 0, 0, 0, [])), (138, (1, 1, 3, 0, 0, [])), (139, (1, 2, 4, 0, 0, [])), (141, (11, 0, 0, 0, 0, [])), (142, (0, 1, 0, 0, 1, [])), (143, (7, 0, 0, 0, 0, [])), (144, (4, 0, 0, 0, 0, [])), (145, (46, 0, 0, 0, 0, [])), (146, (3, 4, 0, 0, 1, [])), (149, (13, 118, 0, 0, 0, [])), (152, (3, 3, 0, 0, 1, [])), (155, (13, 49, 0, 0, 0, [])), (158, (18, 1, 0, 0, 0, [])), (159, (37, 7, 36, 0, 0, [])), (162, (14, 170, 1, 0, 0, [])), (165, (18, 1, 0, 0, 0, [])), (166, (0, 1, 0, 0, 0, [])), (167, (38, 7, 38, 0, 0, [])), (170, (1, 1, 2, 0, 0, [])), (171, (54, 0, 0, 0, 0, []))]
set_option maxRecDepth 20000 in
theorem ceX7_seekSets {l : Launch} {X : Nat × (Nat → Int32)} {d : Nat} : tbX7_seekSets l X d = ctb l X d U0 cdX7_seekSets := cec (cp0 io_6_m1) <| cec (cp2) <| cec (cp18) <| cec (cp0 io_0_0) <| cec (cp38) <| cec (cp18) <| cec (cp0 io_0_0) <| cec (cp38) <| cec (cp18) <| cec (cp0 io_1_1) <| cec (cp18) <| cec (cp37) <| cec (cp0 io_22_7) <| cec (cp42) <| cec (cp10) <| cec (cp0 io_1_1) <| cec (cp5) <| cec (cp38) <| cec (cp0 io_0_0) <| cec (cp2) <| cec (cp1) <| cec (cp0 io_18_4) <| cec (cp15_3) <| cec (cp18) <| cec (cp37) <| cec (cp1) <| cec (cp0 io_0_0) <| cec (cp46) <| cec (cp3 io_1_1) <| cec (cp13) <| cec (cp0 io_0_0) <| cec (cp2) <| cec (cp1) <| cec (cp0 io_1_1) <| cec (cp18) <| cec (cp37) <| cec (cp0 io_22_7) <| cec (cp42) <| cec (cp10) <| cec (cp15_3) <| cec (cp18) <| cec (cp1) <| cec (cp51 u0_242) <| cec (cp0 io_3_m2) <| cec (cp15_0) <| cec (cp13) <| cec (cp18) <| cec (cp37) <| cec (cp1) <| cec (cp15_1) <| cec (cp1) <| cec (cp2) <| cec (cp18) <| cec (cp34) <| cec (cp37) <| cec (cp0 io_1_1) <| cec (cp4) <| cec (cp38) <| cec (cp18) <| cec (cp34) <| cec (cp37) <| cec (cp1) <| cec (cp8) <| cec (cp38) <| cec (cp18) <| cec (cp34) <| cec (cp37) <| cec (cp1) <| cec (cp7) <| cec (cp38) <| cec (cp0 io_0_0) <| cec (cp2) <| cec (cp1) <| cec (cp18) <| cec (cp37) <| cec (cp0 io_22_7) <| cec (cp42) <| cec (cp15_3) <| cec (cp18) <| cec (cp37) <| cec (cp1) <| cec (cp35) <| cec (cp42) <| cec (cp1) <| cec (cp1) <| cec (cp11) <| cec (cp0 io_1_1) <| cec (cp7) <| cec (cp4) <| cec (cp46) <| cec (cp3 io_1_1) <| cec (cp13) <| cec (cp3 io_1_1) <| cec (cp13) <| cec (cp18) <| cec (cp37) <| cec (cp14_1) <| cec (cp18) <| cec (cp0 io_0_0) <| cec (cp38) <| cec (cp1) <| cec (cp54) <| cen
noncomputable def cdX7_fits : List (Nat × Cd) := [(0, (18, 1, 0, 0, 0, [])), (1, (51, 146, 7, 0, 0, [])), (4, (18, 1, 0, 0, 0, [])), (5, (37, 7, 14, 0, 0, [])), (8, (14, 17, 1, 0, 0, [])), (11, (18, 1, 0, 0, 0, [])), (12, (0, 1, 0, 0, 1, [])), (13, (51, 147, 7, 1, 0, [])), (16, (54, 0, 0, 0, 0, [])), (17, (18, 1, 0, 0, 0, [])), (18, (0, 1, 0, 0, (-1), [])), (19, (51, 243, 7, 1, 0, [])), (22, (36, 0, 0, 0, 0, [])), (23, (18, 1, 0, 0, 0, [])), (24, (37, 7, 36, 0, 0, [])), (27, (54, 0, 0, 0, 0, []))]
set_option maxRecDepth 20000 in
theorem ceX7_fits {l : Launch} {X : Nat × (Nat → Int32)} {d : Nat} : tbX7_fits l X d = ctb l X d U0 cdX7_fits := cec (cp18) <| cec (cp51 u0_146) <| cec (cp18) <| cec (cp37) <| cec (cp14_1) <| cec (cp18) <| cec (cp0 io_1_1) <| cec (cp51 u0_147) <| cec (cp54) <| cec (cp18) <| cec (cp0 io_6_m1) <| cec (cp51 u0_243) <| cec (cp36) <| cec (cp18) <| cec (cp37) <| cec (cp54) <| cen
noncomputable def cdX7_fitAt : List (Nat × Cd) := [(0, (18, 1, 0, 0, 0, [])), (1, (51, 146, 7, 0, 0, [])), (4, (18, 1, 0, 0, 0, [])), (5, (37, 7, 14, 0, 0, [])), (8, (14, 15, 0, 0, 0, [])), (11, (1, 1, 1, 0, 0, [])), (12, (14, 21, 3, 0, 0, [])), (15, (18, 1, 0, 0, 0, [])), (16, (0, 1, 0, 0, 1, [])), (17, (51, 147, 7, 1, 0, [])), (20, (54, 0, 0, 0, 0, [])), (21, (18, 1, 0, 0, 0, [])), (22, (1, 1, 1, 0, 0, [])), (23, (51, 243, 7, 1, 0, [])), (26, (2, 1, 2, 0, 0, [])), (27, (1, 1, 2, 0, 0, [])), (28, (14, 39, 3, 0, 0, [])), (31, (18, 1, 0, 0, 0, [])), (32, (0, 1, 0, 0, 1, [])), (33, (51, 147, 7, 1, 0, [])), (36, (13, 40, 0, 0, 0, [])), (39, (1, 1, 2, 0, 0, [])), (40, (54, 0, 0, 0, 0, []))]
set_option maxRecDepth 20000 in
theorem ceX7_fitAt {l : Launch} {X : Nat × (Nat → Int32)} {d : Nat} : tbX7_fitAt l X d = ctb l X d U0 cdX7_fitAt := cec (cp18) <| cec (cp51 u0_146) <| cec (cp18) <| cec (cp37) <| cec (cp14_0) <| cec (cp1) <| cec (cp14_3) <| cec (cp18) <| cec (cp0 io_1_1) <| cec (cp51 u0_147) <| cec (cp54) <| cec (cp18) <| cec (cp1) <| cec (cp51 u0_243) <| cec (cp2) <| cec (cp1) <| cec (cp14_3) <| cec (cp18) <| cec (cp0 io_1_1) <| cec (cp51 u0_147) <| cec (cp13) <| cec (cp1) <| cec (cp54) <| cen
noncomputable def cdX7_could : List (Nat × Cd) := [(0, (18, 1, 0, 0, 0, [])), (1, (51, 146, 7, 0, 0, [])), (4, (18, 1, 0, 0, 0, [])), (5, (37, 7, 14, 0, 0, [])), (8, (14, 17, 1, 0, 0, [])), (11, (18, 1, 0, 0, 0, [])), (12, (0, 1, 0, 0, 1, [])), (13, (51, 147, 7, 1, 0, [])), (16, (54, 0, 0, 0, 0, [])), (17, (18, 1, 0, 0, 0, [])), (18, (0, 1, 0, 0, (-1), [])), (19, (51, 243, 7, 1, 0, [])), (22, (36, 0, 0, 0, 0, [])), (23, (18, 1, 0, 0, 0, [])), (24, (37, 7, 37, 0, 0, [])), (27, (54, 0, 0, 0, 0, []))]
set_option maxRecDepth 20000 in
theorem ceX7_could {l : Launch} {X : Nat × (Nat → Int32)} {d : Nat} : tbX7_could l X d = ctb l X d U0 cdX7_could := cec (cp18) <| cec (cp51 u0_146) <| cec (cp18) <| cec (cp37) <| cec (cp14_1) <| cec (cp18) <| cec (cp0 io_1_1) <| cec (cp51 u0_147) <| cec (cp54) <| cec (cp18) <| cec (cp0 io_6_m1) <| cec (cp51 u0_243) <| cec (cp36) <| cec (cp18) <| cec (cp37) <| cec (cp54) <| cen
noncomputable def cdX7_surely : List (Nat × Cd) := [(0, (18, 1, 0, 0, 0, [])), (1, (51, 146, 7, 0, 0, [])), (4, (18, 1, 0, 0, 0, [])), (5, (37, 7, 14, 0, 0, [])), (8, (14, 17, 1, 0, 0, [])), (11, (18, 1, 0, 0, 0, [])), (12, (0, 1, 0, 0, 1, [])), (13, (51, 147, 7, 1, 0, [])), (16, (54, 0, 0, 0, 0, [])), (17, (18, 1, 0, 0, 0, [])), (18, (0, 1, 0, 0, (-1), [])), (19, (51, 243, 7, 1, 0, [])), (22, (36, 0, 0, 0, 0, [])), (23, (18, 1, 0, 0, 0, [])), (24, (37, 7, 38, 0, 0, [])), (27, (54, 0, 0, 0, 0, []))]
set_option maxRecDepth 20000 in
theorem ceX7_surely {l : Launch} {X : Nat × (Nat → Int32)} {d : Nat} : tbX7_surely l X d = ctb l X d U0 cdX7_surely := cec (cp18) <| cec (cp51 u0_146) <| cec (cp18) <| cec (cp37) <| cec (cp14_1) <| cec (cp18) <| cec (cp0 io_1_1) <| cec (cp51 u0_147) <| cec (cp54) <| cec (cp18) <| cec (cp0 io_6_m1) <| cec (cp51 u0_243) <| cec (cp36) <| cec (cp18) <| cec (cp37) <| cec (cp54) <| cen
noncomputable def cdX7_leavesOf : List (Nat × Cd) := [(0, (18, 1, 0, 0, 0, [])), (1, (37, 7, 35, 2, 0, [])), (4, (1, 1, 1, 0, 0, [])), (5, (42, 0, 0, 0, 0, [])), (6, (18, 1, 0, 0, 0, [])), (7, (37, 7, 36, 0, 0, [])), (10, (18, 1, 0, 0, 0, [])), (11, (37, 7, 35, 2, 0, [])), (14, (1, 1, 1, 0, 0, [])), (15, (42, 0, 0, 0, 0, [])), (16, (5, 0, 0, 0, 0, [])), (17, (15, 29, 5, 0, 0, [])), (20, (18, 1, 0, 0, 0, [])), (21, (37, 7, 35, 2, 0, [])), (24, (1, 1, 1, 0, 0, [])), (25, (42, 0, 0, 0, 0, [])), (26, (13, 40, 0, 0, 0, [])), (29, (18, 1, 0, 0, 0, [])), (30, (37, 7, 36, 0, 0, [])), (33, (18, 1, 0, 0, 0, [])), (34, (37, 7, 35, 2, 0, [])), (37, (1, 1, 1, 0, 0, [])), (38, (42, 0, 0, 0, 0, [])), (39, (5, 0, 0, 0, 0, [])), (40, (54, 0, 0, 0, 0, []))]
set_option maxRecDepth 20000 in
theorem ceX7_leavesOf {l : Launch} {X : Nat × (Nat → Int32)} {d : Nat} : tbX7_leavesOf l X d = ctb l X d U0 cdX7_leavesOf := cec (cp18) <| cec (cp37) <| cec (cp1) <| cec (cp42) <| cec (cp18) <| cec (cp37) <| cec (cp18) <| cec (cp37) <| cec (cp1) <| cec (cp42) <| cec (cp5) <| cec (cp15_5) <| cec (cp18) <| cec (cp37) <| cec (cp1) <| cec (cp42) <| cec (cp13) <| cec (cp18) <| cec (cp37) <| cec (cp18) <| cec (cp37) <| cec (cp1) <| cec (cp42) <| cec (cp5) <| cec (cp54) <| cen
noncomputable def cdX7_askOf : List (Nat × Cd) := [(0, (18, 1, 0, 0, 0, [])), (1, (0, 1, 0, 0, (-1), [])), (2, (51, 243, 7, 1, 0, [])), (5, (36, 0, 0, 0, 0, [])), (6, (0, 2, 0, 0, (-2), [])), (8, (2, 1, 1, 0, 0, [])), (9, (0, 1, 0, 0, 0, [])), (10, (2, 1, 2, 0, 0, [])), (11, (1, 1, 2, 0, 0, [])), (12, (18, 1, 0, 0, 0, [])), (13, (37, 7, 15, 2, 0, [])), (16, (0, 2, 0, 0, 7, [])), (18, (42, 0, 0, 0, 0, [])), (19, (15, 54, 3, 0, 0, [])), (22, (18, 1, 0, 0, 0, [])), (23, (37, 7, 36, 0, 0, [])), (26, (14, 54, 5, 0, 0, [])), (29, (1, 1, 1, 0, 0, [])), (30, (14, 46, 2, 0, 0, [])), (33, (18, 1, 0, 0, 0, [])), (34, (1, 1, 2, 0, 0, [])), (35, (51, 248, 7, 1, 0, [])), (38, (18, 1, 0, 0, 0, [])), (39, (1, 1, 1, 0, 0, [])), (40, (51, 248, 7, 1, 0, [])), (43, (15, 48, 3, 0, 0, [])), (46, (1, 1, 2, 0, 0, [])), (47, (2, 1, 1, 0, 0, [])), (48, (3, 2, 0, 0, 1, [])), (51, (13, 11, 0, 0, 0, [])), (54, (1, 1, 1, 0, 0, [])), (55, (54, 0, 0, 0, 0, []))]
set_option maxRecDepth 20000 in
theorem ceX7_askOf {l : Launch} {X : Nat × (Nat → Int32)} {d : Nat} : tbX7_askOf l X d = ctb l X d U0 cdX7_askOf := cec (cp18) <| cec (cp0 io_6_m1) <| cec (cp51 u0_243) <| cec (cp36) <| cec (cp0 io_3_m2) <| cec (cp2) <| cec (cp0 io_0_0) <| cec (cp2) <| cec (cp1) <| cec (cp18) <| cec (cp37) <| cec (cp0 io_22_7) <| cec (cp42) <| cec (cp15_3) <| cec (cp18) <| cec (cp37) <| cec (cp14_5) <| cec (cp1) <| cec (cp14_2) <| cec (cp18) <| cec (cp1) <| cec (cp51 u0_248) <| cec (cp18) <| cec (cp1) <| cec (cp51 u0_248) <| cec (cp15_3) <| cec (cp1) <| cec (cp2) <| cec (cp3 io_1_1) <| cec (cp13) <| cec (cp1) <| cec (cp54) <| cen
noncomputable def cdX7_ask : List (Nat × Cd) := [(0, (18, 1, 0, 0, 0, [])), (1, (51, 146, 7, 0, 0, [])), (4, (18, 1, 0, 0, 0, [])), (5, (37, 7, 14, 0, 0, [])), (8, (14, 18, 0, 0, 0, [])), (11, (18, 1, 0, 0, 0, [])), (12, (51, 249, 7, 0, 0, [])), (15, (13, 23, 0, 0, 0, [])), (18, (18, 1, 0, 0, 0, [])), (19, (0, 1, 0, 0, 1, [])), (20, (51, 147, 7, 1, 0, [])), (23, (54, 0, 0, 0, 0, []))]
set_option maxRecDepth 20000 in
theorem ceX7_ask {l : Launch} {X : Nat × (Nat → Int32)} {d : Nat} : tbX7_ask l X d = ctb l X d U0 cdX7_ask := cec (cp18) <| cec (cp51 u0_146) <| cec (cp18) <| cec (cp37) <| cec (cp14_0) <| cec (cp18) <| cec (cp51 u0_249) <| cec (cp13) <| cec (cp18) <| cec (cp0 io_1_1) <| cec (cp51 u0_147) <| cec (cp54) <| cen
noncomputable def cdX7_askLeaves : List (Nat × Cd) := [(0, (18, 1, 0, 0, 0, [])), (1, (51, 146, 7, 0, 0, [])), (4, (18, 1, 0, 0, 0, [])), (5, (37, 7, 14, 0, 0, [])), (8, (14, 17, 1, 0, 0, [])), (11, (18, 1, 0, 0, 0, [])), (12, (0, 1, 0, 0, 1, [])), (13, (51, 147, 7, 1, 0, [])), (16, (54, 0, 0, 0, 0, [])), (17, (18, 1, 0, 0, 0, [])), (18, (51, 249, 7, 0, 0, [])), (21, (2, 1, 1, 0, 0, [])), (22, (1, 1, 1, 0, 0, [])), (23, (14, 31, 3, 0, 0, [])), (26, (0, 2, 0, 0, (-2), [])), (28, (13, 36, 0, 0, 0, [])), (31, (18, 1, 0, 0, 0, [])), (32, (1, 1, 1, 0, 0, [])), (33, (51, 248, 7, 1, 0, [])), (36, (54, 0, 0, 0, 0, []))]
set_option maxRecDepth 20000 in
theorem ceX7_askLeaves {l : Launch} {X : Nat × (Nat → Int32)} {d : Nat} : tbX7_askLeaves l X d = ctb l X d U0 cdX7_askLeaves := cec (cp18) <| cec (cp51 u0_146) <| cec (cp18) <| cec (cp37) <| cec (cp14_1) <| cec (cp18) <| cec (cp0 io_1_1) <| cec (cp51 u0_147) <| cec (cp54) <| cec (cp18) <| cec (cp51 u0_249) <| cec (cp2) <| cec (cp1) <| cec (cp14_3) <| cec (cp0 io_3_m2) <| cec (cp13) <| cec (cp18) <| cec (cp1) <| cec (cp51 u0_248) <| cec (cp54) <| cen
noncomputable def cdX7_judge : List (Nat × Cd) := [(0, (18, 1, 0, 0, 0, [])), (1, (51, 146, 7, 0, 0, [])), (4, (18, 1, 0, 0, 0, [])), (5, (37, 7, 14, 0, 0, [])), (8, (14, 19, 0, 0, 0, [])), (11, (18, 1, 0, 0, 0, [])), (12, (0, 1, 0, 0, 0, [])), (13, (51, 242, 7, 1, 0, [])), (16, (13, 24, 0, 0, 0, [])), (19, (18, 1, 0, 0, 0, [])), (20, (0, 1, 0, 0, 1, [])), (21, (51, 147, 7, 1, 0, [])), (24, (54, 0, 0, 0, 0, []))]
set_option maxRecDepth 20000 in
theorem ceX7_judge {l : Launch} {X : Nat × (Nat → Int32)} {d : Nat} : tbX7_judge l X d = ctb l X d U0 cdX7_judge := cec (cp18) <| cec (cp51 u0_146) <| cec (cp18) <| cec (cp37) <| cec (cp14_0) <| cec (cp18) <| cec (cp0 io_0_0) <| cec (cp51 u0_242) <| cec (cp13) <| cec (cp18) <| cec (cp0 io_1_1) <| cec (cp51 u0_147) <| cec (cp54) <| cen
noncomputable def cdX7_canonHas : List (Nat × Cd) := [(0, (1, 1, 1, 0, 0, [])), (1, (14, 19, 0, 0, 0, [])), (4, (1, 1, 2, 0, 0, [])), (5, (14, 14, 0, 0, 0, [])), (8, (0, 1, 0, 0, 3, [])), (9, (1, 1, 0, 0, 0, [])), (10, (5, 0, 0, 0, 0, [])), (11, (13, 28, 0, 0, 0, [])), (14, (1, 1, 0, 0, 0, [])), (15, (23, 0, 0, 0, 0, [])), (16, (13, 28, 0, 0, 0, [])), (19, (1, 1, 2, 0, 0, [])), (20, (14, 27, 0, 0, 0, [])), (23, (0, 1, 0, 0, 0, [])), (24, (13, 28, 0, 0, 0, [])), (27, (0, 1, 0, 0, 2, [])), (28, (54, 0, 0, 0, 0, []))]
set_option maxRecDepth 20000 in
theorem ceX7_canonHas {l : Launch} {X : Nat × (Nat → Int32)} {d : Nat} : tbX7_canonHas l X d = ctb l X d U0 cdX7_canonHas := cec (cp1) <| cec (cp14_0) <| cec (cp1) <| cec (cp14_0) <| cec (cp0 io_11_3) <| cec (cp1) <| cec (cp5) <| cec (cp13) <| cec (cp1) <| cec (cp23) <| cec (cp13) <| cec (cp1) <| cec (cp14_0) <| cec (cp0 io_0_0) <| cec (cp13) <| cec (cp0 io_2_2) <| cec (cp54) <| cen
noncomputable def cdX7_breadHas : List (Nat × Cd) := [(0, (1, 1, 0, 0, 0, [])), (1, (14, 16, 0, 0, 0, [])), (4, (1, 1, 1, 0, 0, [])), (5, (14, 12, 0, 0, 0, [])), (8, (0, 1, 0, 0, 1, [])), (9, (13, 25, 0, 0, 0, [])), (12, (0, 1, 0, 0, 2, [])), (13, (13, 25, 0, 0, 0, [])), (16, (1, 1, 1, 0, 0, [])), (17, (14, 24, 0, 0, 0, [])), (20, (0, 1, 0, 0, 3, [])), (21, (13, 25, 0, 0, 0, [])), (24, (0, 1, 0, 0, 0, [])), (25, (54, 0, 0, 0, 0, []))]
set_option maxRecDepth 20000 in
theorem ceX7_breadHas {l : Launch} {X : Nat × (Nat → Int32)} {d : Nat} : tbX7_breadHas l X d = ctb l X d U0 cdX7_breadHas := cec (cp1) <| cec (cp14_0) <| cec (cp1) <| cec (cp14_0) <| cec (cp0 io_1_1) <| cec (cp13) <| cec (cp0 io_2_2) <| cec (cp13) <| cec (cp1) <| cec (cp14_0) <| cec (cp0 io_11_3) <| cec (cp13) <| cec (cp0 io_0_0) <| cec (cp54) <| cen
noncomputable def cdX7_sulks : List (Nat × Cd) := [(0, (18, 1, 0, 0, 0, [])), (1, (51, 146, 7, 0, 0, [])), (4, (18, 1, 0, 0, 0, [])), (5, (18, 1, 0, 0, 0, [])), (6, (37, 7, 14, 0, 0, [])), (9, (1, 1, 1, 0, 0, [])), (10, (0, 1, 0, 0, 0, [])), (11, (0, 2, 0, 0, 9, [])), (13, (52, 149, 0, 3, 0, [])), (16, (51, 190, 7, 2, 0, [])), (19, (2, 2, 5, 0, 0, [])), (21, (1, 2, 5, 0, 0, [])), (23, (14, 46, 1, 0, 0, [])), (26, (1, 2, 4, 0, 0, [])), (28, (14, 39, 0, 0, 0, [])), (31, (1, 1, 2, 0, 0, [])), (32, (1, 1, 3, 0, 0, [])), (33, (52, 254, 0, 2, 0, [])), (36, (13, 45, 0, 0, 0, [])), (39, (1, 1, 1, 0, 0, [])), (40, (1, 1, 2, 0, 0, [])), (41, (1, 1, 3, 0, 0, [])), (42, (52, 253, 0, 3, 0, [])), (45, (54, 0, 0, 0, 0, [])), (46, (18, 1, 0, 0, 0, [])), (47, (1, 2, 5, 0, 0, [])), (49, (38, 7, 11, 0, 0, [])), (52, (0, 2, 0, 0, (-100), [])), (54, (54, 0, 0, 0, 0, []))]
set_option maxRecDepth 20000 in
theorem ceX7_sulks {l : Launch} {X : Nat × (Nat → Int32)} {d : Nat} : tbX7_sulks l X d = ctb l X d U0 cdX7_sulks := cec (cp18) <| cec (cp51 u0_146) <| cec (cp18) <| cec (cp18) <| cec (cp37) <| cec (cp1) <| cec (cp0 io_0_0) <| cec (cp0 io_24_9) <| cec (cp52 u0_149) <| cec (cp51 u0_190) <| cec (cp2) <| cec (cp1) <| cec (cp14_1) <| cec (cp1) <| cec (cp14_0) <| cec (cp1) <| cec (cp1) <| cec (cp52 u0_254) <| cec (cp13) <| cec (cp1) <| cec (cp1) <| cec (cp1) <| cec (cp52 u0_253) <| cec (cp54) <| cec (cp18) <| cec (cp1) <| cec (cp38) <| cec (cp0 io_32_m100) <| cec (cp54) <| cen
noncomputable def cdX7_seekRests : List (Nat × Cd) := [(0, (0, 1, 0, 0, 0, [])), (1, (2, 1, 2, 0, 0, [])), (2, (18, 1, 0, 0, 0, [])), (3, (0, 2, 0, 0, (-2), [])), (5, (38, 7, 39, 0, 0, [])), (8, (0, 1, 0, 0, 0, [])), (9, (2, 1, 3, 0, 0, [])), (10, (1, 1, 3, 0, 0, [])), (11, (0, 1, 0, 0, 4, [])), (12, (15, 123, 3, 0, 0, [])), (15, (1, 1, 3, 0, 0, [])), (16, (0, 1, 0, 0, 1, [])), (17, (15, 24, 5, 0, 0, [])), (20, (0, 1, 0, 0, 1, [])), (21, (13, 25, 0, 0, 0, [])), (24, (0, 1, 0, 0, 0, [])), (25, (2, 2, 4, 0, 0, [])), (27, (1, 1, 3, 0, 0, [])), (28, (0, 1, 0, 0, 2, [])), (29, (22, 0, 0, 0, 0, [])), (30, (0, 1, 0, 0, 1, [])), (31, (15, 38, 1, 0, 0, [])), (34, (0, 1, 0, 0, 1, [])), (35, (13, 39, 0, 0, 0, [])), (38, (0, 1, 0, 0, 0, [])), (39, (2, 2, 5, 0, 0, [])), (41, (1, 1, 1, 0, 0, [])), (42, (1, 2, 4, 0, 0, [])), (44, (14, 51, 1, 0, 0, [])), (47, (0, 1, 0, 0, 1, [])), (48, (13, 52, 0, 0, 0, [])), (51, (0, 1, 0, 0, 0, [])), (52, (1, 2, 5, 0, 0, [])), (54, (52, 253, 0, 3, 0, [])), (57, (1, 1, 1, 0, 0, [])), (58, (1, 2, 4, 0, 0, [])), (60, (1, 2, 5, 0, 0, [])), (62, (52, 253, 0, 3, 0, [])), (65, (15, 117, 4, 0, 0, [])), (68, (1, 2, 4, 0, 0, [])), (70, (1, 2, 5, 0, 0, [])), (72, (14, 79, 1, 0, 0, [])), (75, (0, 1, 0, 0, 1, [])), (76, (13, 80, 0, 0, 0, [])), (79, (0, 1, 0, 0, 0, [])), (80, (52, 254, 0, 2, 0, [])), (83, (1, 2, 4, 0, 0, [])), (85, (1, 2, 5, 0, 0, [])), (87, (52, 254, 0, 2, 0, [])), (90, (15, 96, 5, 0, 0, [])), (93, (13, 117, 0, 0, 0, [])), (96, (1, 1, 2, 0, 0, [])), (97, (14, 114, 1, 0, 0, [])), (100, (18, 1, 0, 0, 0, [])), (101, (0, 2, 0, 0, 10, [])), (103, (1, 1, 3, 0, 0, [])), (104, (0, 1, 0, 0, 2, [])), (105, (21, 0, 0, 0, 0, [])), (106, (6, 0, 0, 0, 0, [])), (107, (1, 1, 3, 0, 0, [])), (108, (0, 1, 0, 0, 2, [])), (109, (22, 0, 0, 0, 0, [])), (110, (4, 0, 0, 0, 0, [])), (111, (38, 7, 39, 0, 0, [])), (114, (3, 2, 0, 0, 1, [])), (117, (3, 3, 0, 0, 1, [])), (120, (13, 10, 0, 0, 0, [])), (123, (1, 1, 2, 0, 0, [])), (124, (54, 0, 0, 0, 0, []))]
set_option maxRecDepth 20000 in
theorem ceX7_seekRests {l : Launch} {X : Nat × (Nat → Int32)} {d : Nat} : tbX7_seekRests l X d = ctb l X d U0 cdX7_seekRests := cec (cp0 io_0_0) <| cec (cp2) <| cec (cp18) <| cec (cp0 io_3_m2) <| cec (cp38) <| cec (cp0 io_0_0) <| cec (cp2) <| cec (cp1) <| cec (cp0 io_18_4) <| cec (cp15_3) <| cec (cp1) <| cec (cp0 io_1_1) <| cec (cp15_5) <| cec (cp0 io_1_1) <| cec (cp13) <| cec (cp0 io_0_0) <| cec (cp2) <| cec (cp1) <| cec (cp0 io_2_2) <| cec (cp22) <| cec (cp0 io_1_1) <| cec (cp15_1) <| cec (cp0 io_1_1) <| cec (cp13) <| cec (cp0 io_0_0) <| cec (cp2) <| cec (cp1) <| cec (cp1) <| cec (cp14_1) <| cec (cp0 io_1_1) <| cec (cp13) <| cec (cp0 io_0_0) <| cec (cp1) <| cec (cp52 u0_253) <| cec (cp1) <| cec (cp1) <| cec (cp1) <| cec (cp52 u0_253) <| cec (cp15_4) <| cec (cp1) <| cec (cp1) <| cec (cp14_1) <| cec (cp0 io_1_1) <| cec (cp13) <| cec (cp0 io_0_0) <| cec (cp52 u0_254) <| cec (cp1) <| cec (cp1) <| cec (cp52 u0_254) <| cec (cp15_5) <| cec (cp13) <| cec (cp1) <| cec (cp14_1) <| cec (cp18) <| cec (cp0 io_20_10) <| cec (cp1) <| cec (cp0 io_2_2) <| cec (cp21) <| cec (cp6) <| cec (cp1) <| cec (cp0 io_2_2) <| cec (cp22) <| cec (cp4) <| cec (cp38) <| cec (cp3 io_1_1) <| cec (cp3 io_1_1) <| cec (cp13) <| cec (cp1) <| cec (cp54) <| cen
noncomputable def cdX7_rests : List (Nat × Cd) := [(0, (18, 1, 0, 0, 0, [])), (1, (51, 146, 7, 0, 0, [])), (4, (18, 1, 0, 0, 0, [])), (5, (18, 1, 0, 0, 0, [])), (6, (37, 7, 14, 0, 0, [])), (9, (1, 1, 1, 0, 0, [])), (10, (0, 1, 0, 0, 0, [])), (11, (0, 2, 0, 0, 9, [])), (13, (52, 149, 0, 3, 0, [])), (16, (51, 190, 7, 2, 0, [])), (19, (2, 1, 2, 0, 0, [])), (20, (1, 1, 2, 0, 0, [])), (21, (14, 32, 0, 0, 0, [])), (24, (18, 1, 0, 0, 0, [])), (25, (1, 1, 2, 0, 0, [])), (26, (51, 147, 7, 1, 0, [])), (29, (13, 37, 0, 0, 0, [])), (32, (18, 1, 0, 0, 0, [])), (33, (1, 1, 1, 0, 0, [])), (34, (51, 256, 7, 1, 0, [])), (37, (54, 0, 0, 0, 0, []))]
set_option maxRecDepth 20000 in
theorem ceX7_rests {l : Launch} {X : Nat × (Nat → Int32)} {d : Nat} : tbX7_rests l X d = ctb l X d U0 cdX7_rests := cec (cp18) <| cec (cp51 u0_146) <| cec (cp18) <| cec (cp18) <| cec (cp37) <| cec (cp1) <| cec (cp0 io_0_0) <| cec (cp0 io_24_9) <| cec (cp52 u0_149) <| cec (cp51 u0_190) <| cec (cp2) <| cec (cp1) <| cec (cp14_0) <| cec (cp18) <| cec (cp1) <| cec (cp51 u0_147) <| cec (cp13) <| cec (cp18) <| cec (cp1) <| cec (cp51 u0_256) <| cec (cp54) <| cen
noncomputable def cdX7_rest : List (Nat × Cd) := [(0, (18, 1, 0, 0, 0, [])), (1, (51, 146, 7, 0, 0, [])), (4, (18, 1, 0, 0, 0, [])), (5, (18, 1, 0, 0, 0, [])), (6, (37, 7, 14, 0, 0, [])), (9, (1, 1, 1, 0, 0, [])), (10, (0, 1, 0, 0, 0, [])), (11, (0, 2, 0, 0, 9, [])), (13, (52, 149, 0, 3, 0, [])), (16, (51, 190, 7, 2, 0, [])), (19, (2, 1, 2, 0, 0, [])), (20, (1, 1, 2, 0, 0, [])), (21, (14, 30, 0, 0, 0, [])), (24, (18, 1, 0, 0, 0, [])), (25, (1, 1, 2, 0, 0, [])), (26, (51, 147, 7, 1, 0, [])), (29, (54, 0, 0, 0, 0, [])), (30, (18, 1, 0, 0, 0, [])), (31, (1, 1, 1, 0, 0, [])), (32, (51, 256, 7, 1, 0, [])), (35, (36, 0, 0, 0, 0, [])), (36, (18, 1, 0, 0, 0, [])), (37, (37, 7, 39, 0, 0, [])), (40, (54, 0, 0, 0, 0, []))]
set_option maxRecDepth 20000 in
theorem ceX7_rest {l : Launch} {X : Nat × (Nat → Int32)} {d : Nat} : tbX7_rest l X d = ctb l X d U0 cdX7_rest := cec (cp18) <| cec (cp51 u0_146) <| cec (cp18) <| cec (cp18) <| cec (cp37) <| cec (cp1) <| cec (cp0 io_0_0) <| cec (cp0 io_24_9) <| cec (cp52 u0_149) <| cec (cp51 u0_190) <| cec (cp2) <| cec (cp1) <| cec (cp14_0) <| cec (cp18) <| cec (cp1) <| cec (cp51 u0_147) <| cec (cp54) <| cec (cp18) <| cec (cp1) <| cec (cp51 u0_256) <| cec (cp36) <| cec (cp18) <| cec (cp37) <| cec (cp54) <| cen
noncomputable def cdX7_odds : List (Nat × Cd) := [(0, (18, 1, 0, 0, 0, [])), (1, (51, 146, 7, 0, 0, [])), (4, (18, 1, 0, 0, 0, [])), (5, (18, 1, 0, 0, 0, [])), (6, (1, 1, 1, 0, 0, [])), (7, (51, 185, 7, 1, 0, [])), (10, (1, 1, 2, 0, 0, [])), (11, (0, 1, 0, 0, 0, [])), (12, (0, 2, 0, 0, 7, [])), (14, (52, 149, 0, 3, 0, [])), (17, (51, 190, 7, 2, 0, [])), (20, (2, 2, 4, 0, 0, [])), (22, (1, 2, 4, 0, 0, [])), (24, (14, 35, 0, 0, 0, [])), (27, (18, 1, 0, 0, 0, [])), (28, (1, 2, 4, 0, 0, [])), (30, (51, 147, 7, 1, 0, [])), (33, (31, 0, 0, 0, 0, [])), (34, (56, 0, 0, 0, 0, [])), (35, (18, 1, 0, 0, 0, [])), (36, (1, 1, 1, 0, 0, [])), (37, (1, 1, 2, 0, 0, [])), (38, (51, 259, 7, 2, 0, [])), (41, (18, 1, 0, 0, 0, [])), (42, (37, 7, 41, 1, 0, [])), (45, (18, 1, 0, 0, 0, [])), (46, (37, 7, 40, 1, 0, [])), (49, (1, 1, 3, 0, 0, [])), (50, (52, 153, 0, 3, 0, [])), (53, (56, 0, 0, 0, 0, []))]
set_option maxRecDepth 20000 in
theorem ceX7_odds {l : Launch} {X : Nat × (Nat → Int32)} {d : Nat} : tbX7_odds l X d = ctb l X d U0 cdX7_odds := cec (cp18) <| cec (cp51 u0_146) <| cec (cp18) <| cec (cp18) <| cec (cp1) <| cec (cp51 u0_185) <| cec (cp1) <| cec (cp0 io_0_0) <| cec (cp0 io_22_7) <| cec (cp52 u0_149) <| cec (cp51 u0_190) <| cec (cp2) <| cec (cp1) <| cec (cp14_0) <| cec (cp18) <| cec (cp1) <| cec (cp51 u0_147) <| cec (cp31) <| cec (cp56) <| cec (cp18) <| cec (cp1) <| cec (cp1) <| cec (cp51 u0_259) <| cec (cp18) <| cec (cp37) <| cec (cp18) <| cec (cp37) <| cec (cp1) <| cec (cp52 u0_153) <| cec (cp56) <| cen
noncomputable def cdX7_mean : List (Nat × Cd) := [(0, (18, 1, 0, 0, 0, [])), (1, (51, 146, 7, 0, 0, [])), (4, (18, 1, 0, 0, 0, [])), (5, (18, 1, 0, 0, 0, [])), (6, (1, 1, 1, 0, 0, [])), (7, (51, 185, 7, 1, 0, [])), (10, (1, 1, 2, 0, 0, [])), (11, (0, 1, 0, 0, 0, [])), (12, (0, 2, 0, 0, 7, [])), (14, (52, 149, 0, 3, 0, [])), (17, (51, 190, 7, 2, 0, [])), (20, (2, 2, 4, 0, 0, [])), (22, (1, 2, 4, 0, 0, [])), (24, (14, 35, 0, 0, 0, [])), (27, (18, 1, 0, 0, 0, [])), (28, (1, 2, 4, 0, 0, [])), (30, (51, 147, 7, 1, 0, [])), (33, (31, 0, 0, 0, 0, [])), (34, (56, 0, 0, 0, 0, [])), (35, (18, 1, 0, 0, 0, [])), (36, (1, 1, 1, 0, 0, [])), (37, (1, 1, 2, 0, 0, [])), (38, (51, 259, 7, 2, 0, [])), (41, (18, 1, 0, 0, 0, [])), (42, (37, 7, 42, 1, 0, [])), (45, (18, 1, 0, 0, 0, [])), (46, (37, 7, 40, 1, 0, [])), (49, (1, 1, 3, 0, 0, [])), (50, (52, 153, 0, 3, 0, [])), (53, (56, 0, 0, 0, 0, []))]
set_option maxRecDepth 20000 in
theorem ceX7_mean {l : Launch} {X : Nat × (Nat → Int32)} {d : Nat} : tbX7_mean l X d = ctb l X d U0 cdX7_mean := cec (cp18) <| cec (cp51 u0_146) <| cec (cp18) <| cec (cp18) <| cec (cp1) <| cec (cp51 u0_185) <| cec (cp1) <| cec (cp0 io_0_0) <| cec (cp0 io_22_7) <| cec (cp52 u0_149) <| cec (cp51 u0_190) <| cec (cp2) <| cec (cp1) <| cec (cp14_0) <| cec (cp18) <| cec (cp1) <| cec (cp51 u0_147) <| cec (cp31) <| cec (cp56) <| cec (cp18) <| cec (cp1) <| cec (cp1) <| cec (cp51 u0_259) <| cec (cp18) <| cec (cp37) <| cec (cp18) <| cec (cp37) <| cec (cp1) <| cec (cp52 u0_153) <| cec (cp56) <| cen
noncomputable def cdX7_drawWhy : List (Nat × Cd) := [(0, (18, 1, 0, 0, 0, [])), (1, (1, 1, 1, 0, 0, [])), (2, (1, 1, 2, 0, 0, [])), (3, (0, 1, 0, 0, 0, [])), (4, (0, 3, 0, 0, 65536, [])), (7, (52, 149, 0, 3, 0, [])), (10, (14, 27, 0, 0, 0, [])), (13, (1, 1, 3, 0, 0, [])), (14, (0, 1, 0, 0, 0, [])), (15, (0, 2, 0, 0, 60, [])), (17, (52, 149, 0, 3, 0, [])), (20, (14, 27, 0, 0, 0, [])), (23, (0, 1, 0, 0, 1, [])), (24, (13, 28, 0, 0, 0, [])), (27, (0, 1, 0, 0, 0, [])), (28, (51, 190, 7, 2, 0, [])), (31, (2, 2, 4, 0, 0, [])), (33, (1, 2, 4, 0, 0, [])), (35, (14, 41, 0, 0, 0, [])), (38, (1, 2, 4, 0, 0, [])), (40, (54, 0, 0, 0, 0, [])), (41, (1, 1, 2, 0, 0, [])), (42, (2, 2, 5, 0, 0, [])), (44, (18, 1, 0, 0, 0, [])), (45, (0, 2, 0, 0, (-2), [])), (47, (38, 7, 43, 0, 0, [])), (50, (18, 1, 0, 0, 0, [])), (51, (0, 1, 0, 0, 0, [])), (52, (51, 194, 7, 1, 0, [])), (55, (0, 1, 0, 0, 1, [])), (56, (2, 2, 6, 0, 0, [])), (58, (1, 2, 6, 0, 0, [])), (60, (1, 1, 3, 0, 0, [])), (61, (15, 134, 4, 0, 0, [])), (64, (0, 2, 0, 0, 75, [])), (66, (1, 2, 5, 0, 0, [])), (68, (6, 0, 0, 0, 0, [])), (69, (0, 2, 0, 0, 74, [])), (71, (4, 0, 0, 0, 0, [])), (72, (0, 3, 0, 0, 65537, [])), (75, (22, 0, 0, 0, 0, [])), (76, (2, 2, 5, 0, 0, [])), (78, (18, 1, 0, 0, 0, [])), (79, (18, 1, 0, 0, 0, [])), (80, (37, 7, 25, 2, 0, [])), (83, (1, 2, 5, 0, 0, [])), (85, (0, 2, 0, 0, 100, [])), (87, (22, 0, 0, 0, 0, [])), (88, (18, 1, 0, 0, 0, [])), (89, (37, 7, 15, 2, 0, [])), (92, (0, 1, 0, 0, 2, [])), (93, (42, 0, 0, 0, 0, [])), (94, (15, 101, 3, 0, 0, [])), (97, (0, 1, 0, 0, 1, [])), (98, (13, 102, 0, 0, 0, [])), (101, (0, 1, 0, 0, 0, [])), (102, (51, 193, 7, 2, 0, [])), (105, (18, 1, 0, 0, 0, [])), (106, (37, 7, 43, 0, 0, [])), (109, (14, 128, 3, 0, 0, [])), (112, (18, 1, 0, 0, 0, [])), (113, (37, 7, 25, 2, 0, [])), (116, (0, 2, 0, 0, 24, [])), (118, (42, 0, 0, 0, 0, [])), (119, (14, 128, 0, 0, 0, [])), (122, (18, 1, 0, 0, 0, [])), (123, (1, 2, 6, 0, 0, [])), (125, (38, 7, 43, 0, 0, [])), (128, (3, 6, 0, 0, 1, [])), (131, (13, 58, 0, 0, 0, [])), (134, (0, 1, 0, 0, 0, [])), (135, (54, 0, 0, 0, 0, []))]
set_option maxRecDepth 20000 in
theorem ceX7_drawWhy {l : Launch} {X : Nat × (Nat → Int32)} {d : Nat} : tbX7_drawWhy l X d = ctb l X d U0 cdX7_drawWhy := cec (cp18) <| cec (cp1) <| cec (cp1) <| cec (cp0 io_0_0) <| cec (cp0 io_54_65536) <| cec (cp52 u0_149) <| cec (cp14_0) <| cec (cp1) <| cec (cp0 io_0_0) <| cec (cp0 io_30_60) <| cec (cp52 u0_149) <| cec (cp14_0) <| cec (cp0 io_1_1) <| cec (cp13) <| cec (cp0 io_0_0) <| cec (cp51 u0_190) <| cec (cp2) <| cec (cp1) <| cec (cp14_0) <| cec (cp1) <| cec (cp54) <| cec (cp1) <| cec (cp2) <| cec (cp18) <| cec (cp0 io_3_m2) <| cec (cp38) <| cec (cp18) <| cec (cp0 io_0_0) <| cec (cp51 u0_194) <| cec (cp0 io_1_1) <| cec (cp2) <| cec (cp1) <| cec (cp1) <| cec (cp15_4) <| cec (cp0 io_36_75) <| cec (cp1) <| cec (cp6) <| cec (cp0 io_37_74) <| cec (cp4) <| cec (cp0 io_35_65537) <| cec (cp22) <| cec (cp2) <| cec (cp18) <| cec (cp18) <| cec (cp37) <| cec (cp1) <| cec (cp0 io_21_100) <| cec (cp22) <| cec (cp18) <| cec (cp37) <| cec (cp0 io_2_2) <| cec (cp42) <| cec (cp15_3) <| cec (cp0 io_1_1) <| cec (cp13) <| cec (cp0 io_0_0) <| cec (cp51 u0_193) <| cec (cp18) <| cec (cp37) <| cec (cp14_3) <| cec (cp18) <| cec (cp37) <| cec (cp0 io_8_24) <| cec (cp42) <| cec (cp14_0) <| cec (cp18) <| cec (cp1) <| cec (cp38) <| cec (cp3 io_1_1) <| cec (cp13) <| cec (cp0 io_0_0) <| cec (cp54) <| cen
noncomputable def cdX7_borne : List (Nat × Cd) := [(0, (18, 1, 0, 0, 0, [])), (1, (51, 146, 7, 0, 0, [])), (4, (18, 1, 0, 0, 0, [])), (5, (18, 1, 0, 0, 0, [])), (6, (1, 1, 1, 0, 0, [])), (7, (51, 185, 7, 1, 0, [])), (10, (1, 1, 2, 0, 0, [])), (11, (1, 1, 3, 0, 0, [])), (12, (51, 262, 7, 3, 0, [])), (15, (2, 2, 4, 0, 0, [])), (17, (1, 2, 4, 0, 0, [])), (19, (14, 31, 0, 0, 0, [])), (22, (18, 1, 0, 0, 0, [])), (23, (1, 2, 4, 0, 0, [])), (25, (51, 147, 7, 1, 0, [])), (28, (13, 40, 0, 0, 0, [])), (31, (18, 1, 0, 0, 0, [])), (32, (37, 7, 25, 2, 0, [])), (35, (0, 2, 0, 0, 6, [])), (37, (1, 1, 1, 0, 0, [])), (38, (4, 0, 0, 0, 0, [])), (39, (42, 0, 0, 0, 0, [])), (40, (54, 0, 0, 0, 0, []))]
set_option maxRecDepth 20000 in
theorem ceX7_borne {l : Launch} {X : Nat × (Nat → Int32)} {d : Nat} : tbX7_borne l X d = ctb l X d U0 cdX7_borne := cec (cp18) <| cec (cp51 u0_146) <| cec (cp18) <| cec (cp18) <| cec (cp1) <| cec (cp51 u0_185) <| cec (cp1) <| cec (cp1) <| cec (cp51 u0_262) <| cec (cp2) <| cec (cp1) <| cec (cp14_0) <| cec (cp18) <| cec (cp1) <| cec (cp51 u0_147) <| cec (cp13) <| cec (cp18) <| cec (cp37) <| cec (cp0 io_7_6) <| cec (cp1) <| cec (cp4) <| cec (cp42) <| cec (cp54) <| cen
noncomputable def cdX7_firstWet : List (Nat × Cd) := [(0, (18, 1, 0, 0, 0, [])), (1, (51, 146, 7, 0, 0, [])), (4, (18, 1, 0, 0, 0, [])), (5, (18, 1, 0, 0, 0, [])), (6, (37, 7, 14, 0, 0, [])), (9, (1, 1, 1, 0, 0, [])), (10, (1, 1, 2, 0, 0, [])), (11, (51, 262, 7, 3, 0, [])), (14, (2, 1, 3, 0, 0, [])), (15, (1, 1, 3, 0, 0, [])), (16, (14, 27, 0, 0, 0, [])), (19, (18, 1, 0, 0, 0, [])), (20, (1, 1, 3, 0, 0, [])), (21, (51, 147, 7, 1, 0, [])), (24, (13, 31, 0, 0, 0, [])), (27, (18, 1, 0, 0, 0, [])), (28, (37, 7, 43, 0, 0, [])), (31, (54, 0, 0, 0, 0, []))]
set_option maxRecDepth 20000 in
theorem ceX7_firstWet {l : Launch} {X : Nat × (Nat → Int32)} {d : Nat} : tbX7_firstWet l X d = ctb l X d U0 cdX7_firstWet := cec (cp18) <| cec (cp51 u0_146) <| cec (cp18) <| cec (cp18) <| cec (cp37) <| cec (cp1) <| cec (cp1) <| cec (cp51 u0_262) <| cec (cp2) <| cec (cp1) <| cec (cp14_0) <| cec (cp18) <| cec (cp1) <| cec (cp51 u0_147) <| cec (cp13) <| cec (cp18) <| cec (cp37) <| cec (cp54) <| cen
noncomputable def cdX7_note : List (Nat × Cd) := [(0, (18, 1, 0, 0, 0, [])), (1, (37, 7, 22, 0, 0, [])), (4, (0, 2, 0, 0, 16, [])), (6, (15, 49, 1, 0, 0, [])), (9, (0, 1, 0, 0, 0, [])), (10, (2, 1, 1, 0, 0, [])), (11, (1, 1, 1, 0, 0, [])), (12, (0, 3, 0, 0, 375, [])), (15, (15, 39, 3, 0, 0, [])), (18, (18, 1, 0, 0, 0, [])), (19, (37, 7, 20, 2, 0, [])), (22, (1, 1, 1, 0, 0, [])), (23, (18, 1, 0, 0, 0, [])), (24, (37, 7, 20, 2, 0, [])), (27, (1, 1, 1, 0, 0, [])), (28, (0, 2, 0, 0, 25, [])), (30, (4, 0, 0, 0, 0, [])), (31, (42, 0, 0, 0, 0, [])), (32, (46, 0, 0, 0, 0, [])), (33, (3, 1, 0, 0, 1, [])), (36, (13, 11, 0, 0, 0, [])), (39, (18, 1, 0, 0, 0, [])), (40, (34, 0, 0, 0, 0, [])), (41, (37, 7, 22, 0, 0, [])), (44, (0, 1, 0, 0, 1, [])), (45, (5, 0, 0, 0, 0, [])), (46, (38, 7, 22, 0, 0, [])), (49, (18, 1, 0, 0, 0, [])), (50, (37, 7, 19, 2, 0, [])), (53, (0, 1, 0, 0, 0, [])), (54, (18, 1, 0, 0, 0, [])), (55, (37, 7, 20, 2, 0, [])), (58, (0, 2, 0, 0, 25, [])), (60, (18, 1, 0, 0, 0, [])), (61, (37, 7, 22, 0, 0, [])), (64, (6, 0, 0, 0, 0, [])), (65, (0, 2, 0, 0, 25, [])), (67, (58, 152, 0, 0, 0, [])), (70, (18, 1, 0, 0, 0, [])), (71, (34, 0, 0, 0, 0, [])), (72, (37, 7, 22, 0, 0, [])), (75, (0, 1, 0, 0, 1, [])), (76, (4, 0, 0, 0, 0, [])), (77, (38, 7, 22, 0, 0, [])), (80, (57, 0, 0, 0, 0, []))]
set_option maxRecDepth 20000 in
theorem ceX7_note {l : Launch} {X : Nat × (Nat → Int32)} {d : Nat} : tbX7_note l X d = ctb l X d U0 cdX7_note := cec (cp18) <| cec (cp37) <| cec (cp0 io_34_16) <| cec (cp15_1) <| cec (cp0 io_0_0) <| cec (cp2) <| cec (cp1) <| cec (cp0 io_55_375) <| cec (cp15_3) <| cec (cp18) <| cec (cp37) <| cec (cp1) <| cec (cp18) <| cec (cp37) <| cec (cp1) <| cec (cp0 io_44_25) <| cec (cp4) <| cec (cp42) <| cec (cp46) <| cec (cp3 io_1_1) <| cec (cp13) <| cec (cp18) <| cec (cp34) <| cec (cp37) <| cec (cp0 io_1_1) <| cec (cp5) <| cec (cp38) <| cec (cp18) <| cec (cp37) <| cec (cp0 io_0_0) <| cec (cp18) <| cec (cp37) <| cec (cp0 io_44_25) <| cec (cp18) <| cec (cp37) <| cec (cp6) <| cec (cp0 io_44_25) <| cec (cp58 u0_152) <| cec (cp18) <| cec (cp34) <| cec (cp37) <| cec (cp0 io_1_1) <| cec (cp4) <| cec (cp38) <| cec (cp57) <| cen
noncomputable def cdX7_day : List (Nat × Cd) := [(0, (18, 1, 0, 0, 0, [])), (1, (51, 146, 7, 0, 0, [])), (4, (18, 1, 0, 0, 0, [])), (5, (37, 7, 14, 0, 0, [])), (8, (14, 17, 1, 0, 0, [])), (11, (18, 1, 0, 0, 0, [])), (12, (0, 1, 0, 0, 1, [])), (13, (51, 147, 7, 1, 0, [])), (16, (54, 0, 0, 0, 0, [])), (17, (18, 1, 0, 0, 0, [])), (18, (37, 7, 19, 2, 0, [])), (21, (0, 2, 0, 0, 23, [])), (23, (42, 0, 0, 0, 0, [])), (24, (0, 3, 0, 0, 999, [])), (27, (15, 36, 1, 0, 0, [])), (30, (18, 1, 0, 0, 0, [])), (31, (0, 1, 0, 0, 3, [])), (32, (51, 147, 7, 1, 0, [])), (35, (54, 0, 0, 0, 0, [])), (36, (18, 1, 0, 0, 0, [])), (37, (51, 265, 7, 0, 0, [])), (40, (18, 1, 0, 0, 0, [])), (41, (0, 1, 0, 0, 0, [])), (42, (51, 191, 7, 1, 0, [])), (45, (18, 1, 0, 0, 0, [])), (46, (18, 1, 0, 0, 0, [])), (47, (37, 7, 19, 2, 0, [])), (50, (0, 1, 0, 0, 0, [])), (51, (51, 193, 7, 2, 0, [])), (54, (18, 1, 0, 0, 0, [])), (55, (37, 7, 19, 2, 0, [])), (58, (0, 2, 0, 0, 24, [])), (60, (42, 0, 0, 0, 0, [])), (61, (54, 0, 0, 0, 0, []))]
set_option maxRecDepth 20000 in
theorem ceX7_day {l : Launch} {X : Nat × (Nat → Int32)} {d : Nat} : tbX7_day l X d = ctb l X d U0 cdX7_day := cec (cp18) <| cec (cp51 u0_146) <| cec (cp18) <| cec (cp37) <| cec (cp14_1) <| cec (cp18) <| cec (cp0 io_1_1) <| cec (cp51 u0_147) <| cec (cp54) <| cec (cp18) <| cec (cp37) <| cec (cp0 io_51_23) <| cec (cp42) <| cec (cp0 io_33_999) <| cec (cp15_1) <| cec (cp18) <| cec (cp0 io_11_3) <| cec (cp51 u0_147) <| cec (cp54) <| cec (cp18) <| cec (cp51 u0_265) <| cec (cp18) <| cec (cp0 io_0_0) <| cec (cp51 u0_191) <| cec (cp18) <| cec (cp18) <| cec (cp37) <| cec (cp0 io_0_0) <| cec (cp51 u0_193) <| cec (cp18) <| cec (cp37) <| cec (cp0 io_8_24) <| cec (cp42) <| cec (cp54) <| cen
noncomputable def cdX7_give : List (Nat × Cd) := [(0, (18, 1, 0, 0, 0, [])), (1, (51, 146, 7, 0, 0, [])), (4, (18, 1, 0, 0, 0, [])), (5, (1, 1, 1, 0, 0, [])), (6, (51, 186, 7, 1, 0, [])), (9, (14, 20, 0, 0, 0, [])), (12, (18, 1, 0, 0, 0, [])), (13, (1, 1, 2, 0, 0, [])), (14, (51, 185, 7, 1, 0, [])), (17, (14, 26, 1, 0, 0, [])), (20, (18, 1, 0, 0, 0, [])), (21, (0, 1, 0, 0, 1, [])), (22, (51, 147, 7, 1, 0, [])), (25, (54, 0, 0, 0, 0, [])), (26, (18, 1, 0, 0, 0, [])), (27, (1, 1, 2, 0, 0, [])), (28, (51, 197, 7, 1, 0, [])), (31, (14, 43, 3, 0, 0, [])), (34, (18, 1, 0, 0, 0, [])), (35, (37, 7, 19, 2, 0, [])), (38, (1, 1, 2, 0, 0, [])), (39, (42, 0, 0, 0, 0, [])), (40, (14, 49, 1, 0, 0, [])), (43, (18, 1, 0, 0, 0, [])), (44, (0, 1, 0, 0, 5, [])), (45, (51, 147, 7, 1, 0, [])), (48, (54, 0, 0, 0, 0, [])), (49, (18, 1, 0, 0, 0, [])), (50, (51, 265, 7, 0, 0, [])), (53, (18, 1, 0, 0, 0, [])), (54, (37, 7, 19, 2, 0, [])), (57, (0, 2, 0, 0, 18, [])), (59, (1, 1, 1, 0, 0, [])), (60, (4, 0, 0, 0, 0, [])), (61, (42, 0, 0, 0, 0, [])), (62, (2, 1, 3, 0, 0, [])), (63, (18, 1, 0, 0, 0, [])), (64, (37, 7, 19, 2, 0, [])), (67, (0, 2, 0, 0, 18, [])), (69, (1, 1, 1, 0, 0, [])), (70, (4, 0, 0, 0, 0, [])), (71, (1, 1, 2, 0, 0, [])), (72, (46, 0, 0, 0, 0, [])), (73, (1, 1, 3, 0, 0, [])), (74, (54, 0, 0, 0, 0, []))]
set_option maxRecDepth 20000 in
theorem ceX7_give {l : Launch} {X : Nat × (Nat → Int32)} {d : Nat} : tbX7_give l X d = ctb l X d U0 cdX7_give := cec (cp18) <| cec (cp51 u0_146) <| cec (cp18) <| cec (cp1) <| cec (cp51 u0_186) <| cec (cp14_0) <| cec (cp18) <| cec (cp1) <| cec (cp51 u0_185) <| cec (cp14_1) <| cec (cp18) <| cec (cp0 io_1_1) <| cec (cp51 u0_147) <| cec (cp54) <| cec (cp18) <| cec (cp1) <| cec (cp51 u0_197) <| cec (cp14_3) <| cec (cp18) <| cec (cp37) <| cec (cp1) <| cec (cp42) <| cec (cp14_1) <| cec (cp18) <| cec (cp0 io_5_5) <| cec (cp51 u0_147) <| cec (cp54) <| cec (cp18) <| cec (cp51 u0_265) <| cec (cp18) <| cec (cp37) <| cec (cp0 io_46_18) <| cec (cp1) <| cec (cp4) <| cec (cp42) <| cec (cp2) <| cec (cp18) <| cec (cp37) <| cec (cp0 io_46_18) <| cec (cp1) <| cec (cp4) <| cec (cp1) <| cec (cp46) <| cec (cp1) <| cec (cp54) <| cen
noncomputable def cdX7_mend : List (Nat × Cd) := [(0, (18, 1, 0, 0, 0, [])), (1, (51, 146, 7, 0, 0, [])), (4, (18, 1, 0, 0, 0, [])), (5, (1, 1, 1, 0, 0, [])), (6, (51, 185, 7, 1, 0, [])), (9, (14, 18, 1, 0, 0, [])), (12, (18, 1, 0, 0, 0, [])), (13, (0, 1, 0, 0, 1, [])), (14, (51, 148, 7, 1, 0, [])), (17, (55, 0, 0, 0, 0, [])), (18, (18, 1, 0, 0, 0, [])), (19, (37, 7, 15, 2, 0, [])), (22, (0, 2, 0, 0, 11, [])), (24, (0, 1, 0, 0, 4, [])), (25, (1, 1, 1, 0, 0, [])), (26, (6, 0, 0, 0, 0, [])), (27, (4, 0, 0, 0, 0, [])), (28, (0, 1, 0, 0, 1, [])), (29, (4, 0, 0, 0, 0, [])), (30, (42, 0, 0, 0, 0, [])), (31, (2, 1, 2, 0, 0, [])), (32, (18, 1, 0, 0, 0, [])), (33, (37, 7, 19, 2, 0, [])), (36, (1, 1, 1, 0, 0, [])), (37, (42, 0, 0, 0, 0, [])), (38, (14, 63, 0, 0, 0, [])), (41, (18, 1, 0, 0, 0, [])), (42, (37, 7, 19, 2, 0, [])), (45, (1, 1, 1, 0, 0, [])), (46, (42, 0, 0, 0, 0, [])), (47, (1, 1, 2, 0, 0, [])), (48, (15, 69, 1, 0, 0, [])), (51, (18, 1, 0, 0, 0, [])), (52, (37, 7, 19, 2, 0, [])), (55, (0, 2, 0, 0, 6, [])), (57, (1, 1, 1, 0, 0, [])), (58, (4, 0, 0, 0, 0, [])), (59, (42, 0, 0, 0, 0, [])), (60, (14, 69, 1, 0, 0, [])), (63, (18, 1, 0, 0, 0, [])), (64, (0, 1, 0, 0, 5, [])), (65, (51, 148, 7, 1, 0, [])), (68, (55, 0, 0, 0, 0, [])), (69, (18, 1, 0, 0, 0, [])), (70, (51, 265, 7, 0, 0, [])), (73, (18, 1, 0, 0, 0, [])), (74, (37, 7, 19, 2, 0, [])), (77, (1, 1, 1, 0, 0, [])), (78, (1, 1, 2, 0, 0, [])), (79, (46, 0, 0, 0, 0, [])), (80, (18, 1, 0, 0, 0, [])), (81, (37, 7, 19, 2, 0, [])), (84, (0, 2, 0, 0, 6, [])), (86, (1, 1, 1, 0, 0, [])), (87, (4, 0, 0, 0, 0, [])), (88, (0, 1, 0, 0, 0, [])), (89, (46, 0, 0, 0, 0, [])), (90, (0, 1, 0, 0, 1, [])), (91, (55, 0, 0, 0, 0, []))]
set_option maxRecDepth 20000 in
theorem ceX7_mend {l : Launch} {X : Nat × (Nat → Int32)} {d : Nat} : tbX7_mend l X d = ctb l X d U0 cdX7_mend := cec (cp18) <| cec (cp51 u0_146) <| cec (cp18) <| cec (cp1) <| cec (cp51 u0_185) <| cec (cp14_1) <| cec (cp18) <| cec (cp0 io_1_1) <| cec (cp51 u0_148) <| cec (cp55) <| cec (cp18) <| cec (cp37) <| cec (cp0 io_45_11) <| cec (cp0 io_18_4) <| cec (cp1) <| cec (cp6) <| cec (cp4) <| cec (cp0 io_1_1) <| cec (cp4) <| cec (cp42) <| cec (cp2) <| cec (cp18) <| cec (cp37) <| cec (cp1) <| cec (cp42) <| cec (cp14_0) <| cec (cp18) <| cec (cp37) <| cec (cp1) <| cec (cp42) <| cec (cp1) <| cec (cp15_1) <| cec (cp18) <| cec (cp37) <| cec (cp0 io_7_6) <| cec (cp1) <| cec (cp4) <| cec (cp42) <| cec (cp14_1) <| cec (cp18) <| cec (cp0 io_5_5) <| cec (cp51 u0_148) <| cec (cp55) <| cec (cp18) <| cec (cp51 u0_265) <| cec (cp18) <| cec (cp37) <| cec (cp1) <| cec (cp1) <| cec (cp46) <| cec (cp18) <| cec (cp37) <| cec (cp0 io_7_6) <| cec (cp1) <| cec (cp4) <| cec (cp0 io_0_0) <| cec (cp46) <| cec (cp0 io_1_1) <| cec (cp55) <| cen
noncomputable def cdX7_vex : List (Nat × Cd) := [(0, (18, 1, 0, 0, 0, [])), (1, (51, 146, 7, 0, 0, [])), (4, (18, 1, 0, 0, 0, [])), (5, (18, 1, 0, 0, 0, [])), (6, (1, 1, 1, 0, 0, [])), (7, (51, 185, 7, 1, 0, [])), (10, (1, 1, 2, 0, 0, [])), (11, (0, 1, 0, 0, 1, [])), (12, (0, 2, 0, 0, 99, [])), (14, (52, 149, 0, 3, 0, [])), (17, (51, 190, 7, 2, 0, [])), (20, (2, 1, 3, 0, 0, [])), (21, (1, 1, 3, 0, 0, [])), (22, (14, 61, 1, 0, 0, [])), (25, (18, 1, 0, 0, 0, [])), (26, (37, 7, 19, 2, 0, [])), (29, (1, 1, 1, 0, 0, [])), (30, (42, 0, 0, 0, 0, [])), (31, (14, 38, 1, 0, 0, [])), (34, (0, 1, 0, 0, 5, [])), (35, (13, 60, 0, 0, 0, [])), (38, (18, 1, 0, 0, 0, [])), (39, (37, 7, 19, 2, 0, [])), (42, (0, 2, 0, 0, 6, [])), (44, (1, 1, 1, 0, 0, [])), (45, (4, 0, 0, 0, 0, [])), (46, (42, 0, 0, 0, 0, [])), (47, (1, 1, 2, 0, 0, [])), (48, (4, 0, 0, 0, 0, [])), (49, (0, 3, 0, 0, 999, [])), (52, (15, 59, 5, 0, 0, [])), (55, (0, 1, 0, 0, 3, [])), (56, (13, 60, 0, 0, 0, [])), (59, (0, 1, 0, 0, 0, [])), (60, (2, 1, 3, 0, 0, [])), (61, (1, 1, 3, 0, 0, [])), (62, (14, 71, 0, 0, 0, [])), (65, (18, 1, 0, 0, 0, [])), (66, (1, 1, 3, 0, 0, [])), (67, (51, 147, 7, 1, 0, [])), (70, (54, 0, 0, 0, 0, [])), (71, (18, 1, 0, 0, 0, [])), (72, (51, 265, 7, 0, 0, [])), (75, (18, 1, 0, 0, 0, [])), (76, (37, 7, 19, 2, 0, [])), (79, (0, 2, 0, 0, 6, [])), (81, (1, 1, 1, 0, 0, [])), (82, (4, 0, 0, 0, 0, [])), (83, (35, 0, 0, 0, 0, [])), (84, (42, 0, 0, 0, 0, [])), (85, (1, 1, 2, 0, 0, [])), (86, (4, 0, 0, 0, 0, [])), (87, (46, 0, 0, 0, 0, [])), (88, (18, 1, 0, 0, 0, [])), (89, (37, 7, 19, 2, 0, [])), (92, (0, 2, 0, 0, 6, [])), (94, (1, 1, 1, 0, 0, [])), (95, (4, 0, 0, 0, 0, [])), (96, (42, 0, 0, 0, 0, [])), (97, (54, 0, 0, 0, 0, []))]
set_option maxRecDepth 20000 in
theorem ceX7_vex {l : Launch} {X : Nat × (Nat → Int32)} {d : Nat} : tbX7_vex l X d = ctb l X d U0 cdX7_vex := cec (cp18) <| cec (cp51 u0_146) <| cec (cp18) <| cec (cp18) <| cec (cp1) <| cec (cp51 u0_185) <| cec (cp1) <| cec (cp0 io_1_1) <| cec (cp0 io_23_99) <| cec (cp52 u0_149) <| cec (cp51 u0_190) <| cec (cp2) <| cec (cp1) <| cec (cp14_1) <| cec (cp18) <| cec (cp37) <| cec (cp1) <| cec (cp42) <| cec (cp14_1) <| cec (cp0 io_5_5) <| cec (cp13) <| cec (cp18) <| cec (cp37) <| cec (cp0 io_7_6) <| cec (cp1) <| cec (cp4) <| cec (cp42) <| cec (cp1) <| cec (cp4) <| cec (cp0 io_33_999) <| cec (cp15_5) <| cec (cp0 io_11_3) <| cec (cp13) <| cec (cp0 io_0_0) <| cec (cp2) <| cec (cp1) <| cec (cp14_0) <| cec (cp18) <| cec (cp1) <| cec (cp51 u0_147) <| cec (cp54) <| cec (cp18) <| cec (cp51 u0_265) <| cec (cp18) <| cec (cp37) <| cec (cp0 io_7_6) <| cec (cp1) <| cec (cp4) <| cec (cp35) <| cec (cp42) <| cec (cp1) <| cec (cp4) <| cec (cp46) <| cec (cp18) <| cec (cp37) <| cec (cp0 io_7_6) <| cec (cp1) <| cec (cp4) <| cec (cp42) <| cec (cp54) <| cen
noncomputable def cdX7_undo : List (Nat × Cd) := [(0, (18, 1, 0, 0, 0, [])), (1, (51, 146, 7, 0, 0, [])), (4, (18, 1, 0, 0, 0, [])), (5, (37, 7, 22, 0, 0, [])), (8, (14, 18, 1, 0, 0, [])), (11, (18, 1, 0, 0, 0, [])), (12, (0, 2, 0, 0, 6, [])), (14, (51, 148, 7, 1, 0, [])), (17, (55, 0, 0, 0, 0, [])), (18, (18, 1, 0, 0, 0, [])), (19, (34, 0, 0, 0, 0, [])), (20, (37, 7, 22, 0, 0, [])), (23, (0, 1, 0, 0, 1, [])), (24, (5, 0, 0, 0, 0, [])), (25, (38, 7, 22, 0, 0, [])), (28, (18, 1, 0, 0, 0, [])), (29, (37, 7, 20, 2, 0, [])), (32, (0, 2, 0, 0, 25, [])), (34, (18, 1, 0, 0, 0, [])), (35, (37, 7, 22, 0, 0, [])), (38, (6, 0, 0, 0, 0, [])), (39, (18, 1, 0, 0, 0, [])), (40, (37, 7, 19, 2, 0, [])), (43, (0, 1, 0, 0, 0, [])), (44, (0, 2, 0, 0, 25, [])), (46, (58, 152, 0, 0, 0, [])), (49, (0, 1, 0, 0, 1, [])), (50, (55, 0, 0, 0, 0, []))]
set_option maxRecDepth 20000 in
theorem ceX7_undo {l : Launch} {X : Nat × (Nat → Int32)} {d : Nat} : tbX7_undo l X d = ctb l X d U0 cdX7_undo := cec (cp18) <| cec (cp51 u0_146) <| cec (cp18) <| cec (cp37) <| cec (cp14_1) <| cec (cp18) <| cec (cp0 io_7_6) <| cec (cp51 u0_148) <| cec (cp55) <| cec (cp18) <| cec (cp34) <| cec (cp37) <| cec (cp0 io_1_1) <| cec (cp5) <| cec (cp38) <| cec (cp18) <| cec (cp37) <| cec (cp0 io_44_25) <| cec (cp18) <| cec (cp37) <| cec (cp6) <| cec (cp18) <| cec (cp37) <| cec (cp0 io_0_0) <| cec (cp0 io_44_25) <| cec (cp58 u0_152) <| cec (cp0 io_1_1) <| cec (cp55) <| cen
noncomputable def cdX7_image : List (Nat × Cd) := [(0, (18, 1, 0, 0, 0, [])), (1, (51, 146, 7, 0, 0, [])), (4, (18, 1, 0, 0, 0, [])), (5, (37, 7, 14, 0, 0, [])), (8, (14, 17, 1, 0, 0, [])), (11, (18, 1, 0, 0, 0, [])), (12, (0, 1, 0, 0, 1, [])), (13, (51, 147, 7, 1, 0, [])), (16, (54, 0, 0, 0, 0, [])), (17, (18, 1, 0, 0, 0, [])), (18, (37, 7, 23, 0, 0, [])), (21, (0, 1, 0, 0, 3, [])), (22, (15, 31, 1, 0, 0, [])), (25, (18, 1, 0, 0, 0, [])), (26, (0, 1, 0, 0, 3, [])), (27, (51, 147, 7, 1, 0, [])), (30, (54, 0, 0, 0, 0, [])), (31, (18, 1, 0, 0, 0, [])), (32, (37, 7, 19, 2, 0, [])), (35, (0, 1, 0, 0, 0, [])), (36, (18, 1, 0, 0, 0, [])), (37, (37, 7, 21, 2, 0, [])), (40, (0, 2, 0, 0, 25, [])), (42, (18, 1, 0, 0, 0, [])), (43, (37, 7, 23, 0, 0, [])), (46, (6, 0, 0, 0, 0, [])), (47, (0, 2, 0, 0, 25, [])), (49, (58, 152, 0, 0, 0, [])), (52, (18, 1, 0, 0, 0, [])), (53, (34, 0, 0, 0, 0, [])), (54, (37, 7, 23, 0, 0, [])), (57, (0, 1, 0, 0, 1, [])), (58, (4, 0, 0, 0, 0, [])), (59, (38, 7, 23, 0, 0, [])), (62, (18, 1, 0, 0, 0, [])), (63, (37, 7, 23, 0, 0, [])), (66, (0, 1, 0, 0, 1, [])), (67, (5, 0, 0, 0, 0, [])), (68, (54, 0, 0, 0, 0, []))]
set_option maxRecDepth 20000 in
theorem ceX7_image {l : Launch} {X : Nat × (Nat → Int32)} {d : Nat} : tbX7_image l X d = ctb l X d U0 cdX7_image := cec (cp18) <| cec (cp51 u0_146) <| cec (cp18) <| cec (cp37) <| cec (cp14_1) <| cec (cp18) <| cec (cp0 io_1_1) <| cec (cp51 u0_147) <| cec (cp54) <| cec (cp18) <| cec (cp37) <| cec (cp0 io_11_3) <| cec (cp15_1) <| cec (cp18) <| cec (cp0 io_11_3) <| cec (cp51 u0_147) <| cec (cp54) <| cec (cp18) <| cec (cp37) <| cec (cp0 io_0_0) <| cec (cp18) <| cec (cp37) <| cec (cp0 io_44_25) <| cec (cp18) <| cec (cp37) <| cec (cp6) <| cec (cp0 io_44_25) <| cec (cp58 u0_152) <| cec (cp18) <| cec (cp34) <| cec (cp37) <| cec (cp0 io_1_1) <| cec (cp4) <| cec (cp38) <| cec (cp18) <| cec (cp37) <| cec (cp0 io_1_1) <| cec (cp5) <| cec (cp54) <| cen
noncomputable def cdX7_back : List (Nat × Cd) := [(0, (18, 1, 0, 0, 0, [])), (1, (51, 146, 7, 0, 0, [])), (4, (1, 1, 1, 0, 0, [])), (5, (0, 1, 0, 0, 0, [])), (6, (18, 1, 0, 0, 0, [])), (7, (37, 7, 23, 0, 0, [])), (10, (0, 1, 0, 0, 1, [])), (11, (5, 0, 0, 0, 0, [])), (12, (52, 149, 0, 3, 0, [])), (15, (14, 24, 1, 0, 0, [])), (18, (18, 1, 0, 0, 0, [])), (19, (0, 1, 0, 0, 1, [])), (20, (51, 148, 7, 1, 0, [])), (23, (55, 0, 0, 0, 0, [])), (24, (18, 1, 0, 0, 0, [])), (25, (37, 7, 21, 2, 0, [])), (28, (0, 2, 0, 0, 25, [])), (30, (1, 1, 1, 0, 0, [])), (31, (6, 0, 0, 0, 0, [])), (32, (18, 1, 0, 0, 0, [])), (33, (37, 7, 19, 2, 0, [])), (36, (0, 1, 0, 0, 0, [])), (37, (0, 2, 0, 0, 25, [])), (39, (58, 152, 0, 0, 0, [])), (42, (18, 1, 0, 0, 0, [])), (43, (0, 1, 0, 0, 0, [])), (44, (38, 7, 22, 0, 0, [])), (47, (0, 1, 0, 0, 1, [])), (48, (55, 0, 0, 0, 0, []))]
set_option maxRecDepth 20000 in
theorem ceX7_back {l : Launch} {X : Nat × (Nat → Int32)} {d : Nat} : tbX7_back l X d = ctb l X d U0 cdX7_back := cec (cp18) <| cec (cp51 u0_146) <| cec (cp1) <| cec (cp0 io_0_0) <| cec (cp18) <| cec (cp37) <| cec (cp0 io_1_1) <| cec (cp5) <| cec (cp52 u0_149) <| cec (cp14_1) <| cec (cp18) <| cec (cp0 io_1_1) <| cec (cp51 u0_148) <| cec (cp55) <| cec (cp18) <| cec (cp37) <| cec (cp0 io_44_25) <| cec (cp1) <| cec (cp6) <| cec (cp18) <| cec (cp37) <| cec (cp0 io_0_0) <| cec (cp0 io_44_25) <| cec (cp58 u0_152) <| cec (cp18) <| cec (cp0 io_0_0) <| cec (cp38) <| cec (cp0 io_1_1) <| cec (cp55) <| cen
noncomputable def cdX7_led : List (Nat × Cd) := [(0, (0, 1, 0, 0, 0, [])), (1, (2, 1, 2, 0, 0, [])), (2, (0, 1, 0, 0, 0, [])), (3, (2, 1, 3, 0, 0, [])), (4, (18, 1, 0, 0, 0, [])), (5, (37, 7, 14, 0, 0, [])), (8, (14, 62, 0, 0, 0, [])), (11, (1, 1, 3, 0, 0, [])), (12, (18, 1, 0, 0, 0, [])), (13, (37, 7, 15, 2, 0, [])), (16, (0, 1, 0, 0, 4, [])), (17, (42, 0, 0, 0, 0, [])), (18, (15, 62, 3, 0, 0, [])), (21, (18, 1, 0, 0, 0, [])), (22, (37, 7, 19, 2, 0, [])), (25, (1, 1, 3, 0, 0, [])), (26, (42, 0, 0, 0, 0, [])), (27, (14, 56, 0, 0, 0, [])), (30, (18, 1, 0, 0, 0, [])), (31, (1, 1, 3, 0, 0, [])), (32, (51, 197, 7, 1, 0, [])), (35, (14, 41, 2, 0, 0, [])), (38, (13, 56, 0, 0, 0, [])), (41, (1, 1, 2, 0, 0, [])), (42, (1, 1, 1, 0, 0, [])), (43, (15, 53, 1, 0, 0, [])), (46, (18, 1, 0, 0, 0, [])), (47, (0, 1, 0, 0, 0, [])), (48, (38, 7, 0, 0, 0, [])), (51, (1, 1, 3, 0, 0, [])), (52, (54, 0, 0, 0, 0, [])), (53, (3, 2, 0, 0, 1, [])), (56, (3, 3, 0, 0, 1, [])), (59, (13, 4, 0, 0, 0, [])), (62, (18, 1, 0, 0, 0, [])), (63, (0, 1, 0, 0, 1, [])), (64, (38, 7, 0, 0, 0, [])), (67, (0, 1, 0, 0, 0, [])), (68, (54, 0, 0, 0, 0, []))]
set_option maxRecDepth 20000 in
theorem ceX7_led {l : Launch} {X : Nat × (Nat → Int32)} {d : Nat} : tbX7_led l X d = ctb l X d U0 cdX7_led := cec (cp0 io_0_0) <| cec (cp2) <| cec (cp0 io_0_0) <| cec (cp2) <| cec (cp18) <| cec (cp37) <| cec (cp14_0) <| cec (cp1) <| cec (cp18) <| cec (cp37) <| cec (cp0 io_18_4) <| cec (cp42) <| cec (cp15_3) <| cec (cp18) <| cec (cp37) <| cec (cp1) <| cec (cp42) <| cec (cp14_0) <| cec (cp18) <| cec (cp1) <| cec (cp51 u0_197) <| cec (cp14_2) <| cec (cp13) <| cec (cp1) <| cec (cp1) <| cec (cp15_1) <| cec (cp18) <| cec (cp0 io_0_0) <| cec (cp38) <| cec (cp1) <| cec (cp54) <| cec (cp3 io_1_1) <| cec (cp3 io_1_1) <| cec (cp13) <| cec (cp18) <| cec (cp0 io_1_1) <| cec (cp38) <| cec (cp0 io_0_0) <| cec (cp54) <| cen
noncomputable def cdX7_size : List (Nat × Cd) := [(0, (18, 1, 0, 0, 0, [])), (1, (0, 1, 0, 0, 0, [])), (2, (38, 7, 0, 0, 0, [])), (5, (1, 1, 1, 0, 0, [])), (6, (0, 2, 0, 0, 12, [])), (8, (15, 16, 1, 0, 0, [])), (11, (18, 1, 0, 0, 0, [])), (12, (37, 7, 2, 0, 0, [])), (15, (54, 0, 0, 0, 0, [])), (16, (18, 1, 0, 0, 0, [])), (17, (37, 7, 14, 0, 0, [])), (20, (14, 39, 1, 0, 0, [])), (23, (1, 1, 1, 0, 0, [])), (24, (0, 1, 0, 0, 0, [])), (25, (0, 2, 0, 0, 11, [])), (27, (52, 149, 0, 3, 0, [])), (30, (14, 37, 0, 0, 0, [])), (33, (0, 1, 0, 0, 0, [])), (34, (13, 38, 0, 0, 0, [])), (37, (0, 1, 0, 0, (-1), [])), (38, (54, 0, 0, 0, 0, [])), (39, (1, 1, 1, 0, 0, [])), (40, (0, 1, 0, 0, 0, [])), (41, (0, 2, 0, 0, 8, [])), (43, (52, 149, 0, 3, 0, [])), (46, (14, 56, 0, 0, 0, [])), (49, (18, 1, 0, 0, 0, [])), (50, (37, 7, 15, 2, 0, [])), (53, (1, 1, 1, 0, 0, [])), (54, (42, 0, 0, 0, 0, [])), (55, (54, 0, 0, 0, 0, [])), (56, (1, 1, 1, 0, 0, [])), (57, (0, 2, 0, 0, 9, [])), (59, (15, 72, 1, 0, 0, [])), (62, (18, 1, 0, 0, 0, [])), (63, (37, 7, 19, 2, 0, [])), (66, (0, 2, 0, 0, 23, [])), (68, (42, 0, 0, 0, 0, [])), (69, (13, 99, 0, 0, 0, [])), (72, (1, 1, 1, 0, 0, [])), (73, (0, 2, 0, 0, 10, [])), (75, (15, 85, 1, 0, 0, [])), (78, (18, 1, 0, 0, 0, [])), (79, (37, 7, 22, 0, 0, [])), (82, (13, 99, 0, 0, 0, [])), (85, (1, 1, 1, 0, 0, [])), (86, (0, 2, 0, 0, 11, [])), (88, (15, 98, 1, 0, 0, [])), (91, (18, 1, 0, 0, 0, [])), (92, (37, 7, 23, 0, 0, [])), (95, (13, 99, 0, 0, 0, [])), (98, (0, 1, 0, 0, (-1), [])), (99, (54, 0, 0, 0, 0, []))]
set_option maxRecDepth 20000 in
theorem ceX7_size {l : Launch} {X : Nat × (Nat → Int32)} {d : Nat} : tbX7_size l X d = ctb l X d U0 cdX7_size := cec (cp18) <| cec (cp0 io_0_0) <| cec (cp38) <| cec (cp1) <| cec (cp0 io_39_12) <| cec (cp15_1) <| cec (cp18) <| cec (cp37) <| cec (cp54) <| cec (cp18) <| cec (cp37) <| cec (cp14_1) <| cec (cp1) <| cec (cp0 io_0_0) <| cec (cp0 io_45_11) <| cec (cp52 u0_149) <| cec (cp14_0) <| cec (cp0 io_0_0) <| cec (cp13) <| cec (cp0 io_6_m1) <| cec (cp54) <| cec (cp1) <| cec (cp0 io_0_0) <| cec (cp0 io_19_8) <| cec (cp52 u0_149) <| cec (cp14_0) <| cec (cp18) <| cec (cp37) <| cec (cp1) <| cec (cp42) <| cec (cp54) <| cec (cp1) <| cec (cp0 io_24_9) <| cec (cp15_1) <| cec (cp18) <| cec (cp37) <| cec (cp0 io_51_23) <| cec (cp42) <| cec (cp13) <| cec (cp1) <| cec (cp0 io_20_10) <| cec (cp15_1) <| cec (cp18) <| cec (cp37) <| cec (cp13) <| cec (cp1) <| cec (cp0 io_45_11) <| cec (cp15_1) <| cec (cp18) <| cec (cp37) <| cec (cp13) <| cec (cp0 io_6_m1) <| cec (cp54) <| cen
noncomputable def cdX7_trouble : List (Nat × Cd) := [(0, (18, 1, 0, 0, 0, [])), (1, (0, 1, 0, 0, 0, [])), (2, (38, 7, 0, 0, 0, [])), (5, (18, 1, 0, 0, 0, [])), (6, (37, 7, 11, 0, 0, [])), (9, (54, 0, 0, 0, 0, []))]
set_option maxRecDepth 20000 in
theorem ceX7_trouble {l : Launch} {X : Nat × (Nat → Int32)} {d : Nat} : tbX7_trouble l X d = ctb l X d U0 cdX7_trouble := cec (cp18) <| cec (cp0 io_0_0) <| cec (cp38) <| cec (cp18) <| cec (cp37) <| cec (cp54) <| cen
noncomputable def cdJ6_bitCount_0f7a4 : List (Nat × Cd) := [(0, (1, 1, 0, 0, 0, [])), (1, (1, 1, 0, 0, 0, [])), (2, (0, 1, 0, 0, 1, [])), (3, (12, 0, 0, 0, 0, [])), (4, (0, 3, 0, 0, 1431655765, [])), (7, (7, 0, 0, 0, 0, [])), (8, (5, 0, 0, 0, 0, [])), (9, (2, 1, 0, 0, 0, [])), (10, (1, 1, 0, 0, 0, [])), (11, (0, 3, 0, 0, 858993459, [])), (14, (7, 0, 0, 0, 0, [])), (15, (1, 1, 0, 0, 0, [])), (16, (0, 1, 0, 0, 2, [])), (17, (12, 0, 0, 0, 0, [])), (18, (0, 3, 0, 0, 858993459, [])), (21, (7, 0, 0, 0, 0, [])), (22, (4, 0, 0, 0, 0, [])), (23, (2, 1, 0, 0, 0, [])), (24, (1, 1, 0, 0, 0, [])), (25, (1, 1, 0, 0, 0, [])), (26, (0, 1, 0, 0, 4, [])), (27, (12, 0, 0, 0, 0, [])), (28, (4, 0, 0, 0, 0, [])), (29, (0, 3, 0, 0, 252645135, [])), (32, (7, 0, 0, 0, 0, [])), (33, (2, 1, 0, 0, 0, [])), (34, (1, 1, 0, 0, 0, [])), (35, (1, 1, 0, 0, 0, [])), (36, (0, 2, 0, 0, 8, [])), (38, (12, 0, 0, 0, 0, [])), (39, (4, 0, 0, 0, 0, [])), (40, (2, 1, 0, 0, 0, [])), (41, (1, 1, 0, 0, 0, [])), (42, (1, 1, 0, 0, 0, [])), (43, (0, 2, 0, 0, 16, [])), (45, (12, 0, 0, 0, 0, [])), (46, (4, 0, 0, 0, 0, [])), (47, (2, 1, 0, 0, 0, [])), (48, (1, 1, 0, 0, 0, [])), (49, (0, 2, 0, 0, 63, [])), (51, (7, 0, 0, 0, 0, [])), (52, (54, 0, 0, 0, 0, []))]
set_option maxRecDepth 20000 in
theorem ceJ6_bitCount_0f7a4 {l : Launch} {X : Nat × (Nat → Int32)} {d : Nat} : tbJ6_bitCount_0f7a4 l X d = ctb l X d U0 cdJ6_bitCount_0f7a4 := cec (cp1) <| cec (cp1) <| cec (cp0 io_1_1) <| cec (cp12) <| cec (cp0 io_56_1431655765) <| cec (cp7) <| cec (cp5) <| cec (cp2) <| cec (cp1) <| cec (cp0 io_57_858993459) <| cec (cp7) <| cec (cp1) <| cec (cp0 io_2_2) <| cec (cp12) <| cec (cp0 io_57_858993459) <| cec (cp7) <| cec (cp4) <| cec (cp2) <| cec (cp1) <| cec (cp1) <| cec (cp0 io_18_4) <| cec (cp12) <| cec (cp4) <| cec (cp0 io_58_252645135) <| cec (cp7) <| cec (cp2) <| cec (cp1) <| cec (cp1) <| cec (cp0 io_19_8) <| cec (cp12) <| cec (cp4) <| cec (cp2) <| cec (cp1) <| cec (cp1) <| cec (cp0 io_34_16) <| cec (cp12) <| cec (cp4) <| cec (cp2) <| cec (cp1) <| cec (cp0 io_59_63) <| cec (cp7) <| cec (cp54) <| cen
noncomputable def cdJ9_max_7cf53 : List (Nat × Cd) := [(0, (1, 1, 0, 0, 0, [])), (1, (1, 1, 1, 0, 0, [])), (2, (15, 9, 2, 0, 0, [])), (5, (1, 1, 0, 0, 0, [])), (6, (13, 10, 0, 0, 0, [])), (9, (1, 1, 1, 0, 0, [])), (10, (54, 0, 0, 0, 0, []))]
set_option maxRecDepth 20000 in
theorem ceJ9_max_7cf53 {l : Launch} {X : Nat × (Nat → Int32)} {d : Nat} : tbJ9_max_7cf53 l X d = ctb l X d U0 cdJ9_max_7cf53 := cec (cp1) <| cec (cp1) <| cec (cp15_2) <| cec (cp1) <| cec (cp13) <| cec (cp1) <| cec (cp54) <| cen
noncomputable def cdJ9_min_7cf53 : List (Nat × Cd) := [(0, (1, 1, 0, 0, 0, [])), (1, (1, 1, 1, 0, 0, [])), (2, (15, 9, 4, 0, 0, [])), (5, (1, 1, 0, 0, 0, [])), (6, (13, 10, 0, 0, 0, [])), (9, (1, 1, 1, 0, 0, [])), (10, (54, 0, 0, 0, 0, []))]
set_option maxRecDepth 20000 in
theorem ceJ9_min_7cf53 {l : Launch} {X : Nat × (Nat → Int32)} {d : Nat} : tbJ9_min_7cf53 l X d = ctb l X d U0 cdJ9_min_7cf53 := cec (cp1) <| cec (cp1) <| cec (cp15_4) <| cec (cp1) <| cec (cp13) <| cec (cp1) <| cec (cp54) <| cen
end
section
/-! the tables of the memory: kinds, references, rows (0: a close; 6: none; 8: the class) -/
noncomputable def kdT (a : Nat) : Nat × Nat := (cond (Nat.ble a 84) (cond (Nat.ble a 42) (cond (Nat.ble a 21) (cond (Nat.ble a 10) (cond (Nat.ble a 5) (cond (Nat.ble a 2) (cond (Nat.ble a 1) (cond (Nat.ble a 0) (0, 0) (6, 0)) (4, 0)) (cond (Nat.ble a 4) (cond (Nat.ble a 3) (8, 900) (10, 15)) (9, 15))) (cond (Nat.ble a 8) (cond (Nat.ble a 7) (cond (Nat.ble a 6) (9, 15) (3, 0)) (9, 6)) (9, 6))) (cond (Nat.ble a 16) (cond (Nat.ble a 13) (cond (Nat.ble a 12) (9, 6) (9, 5)) (cond (Nat.ble a 15) (9, 5) (9, 4))) (cond (Nat.ble a 19) (9, 4) (cond (Nat.ble a 20) (3, 0) (9, 6))))) (cond (Nat.ble a 32) (cond (Nat.ble a 27) (cond (Nat.ble a 24) (9, 6) (cond (Nat.ble a 26) (cond (Nat.ble a 25) (9, 6) (9, 5)) (9, 5))) (cond (Nat.ble a 30) (cond (Nat.ble a 29) (cond (Nat.ble a 28) (9, 5) (9, 4)) (9, 4)) (9, 4))) (cond (Nat.ble a 37) (cond (Nat.ble a 35) (cond (Nat.ble a 34) (cond (Nat.ble a 33) (2, 0) (9, 6)) (9, 6)) (cond (Nat.ble a 36) (9, 6) (9, 5))) (cond (Nat.ble a 40) (cond (Nat.ble a 39) (cond (Nat.ble a 38) (11, 16) (11, 3)) (0, 0)) (cond (Nat.ble a 41) (5, 0) (9, 20)))))) (cond (Nat.ble a 63) (cond (Nat.ble a 53) (cond (Nat.ble a 48) (cond (Nat.ble a 45) (cond (Nat.ble a 44) (cond (Nat.ble a 43) (1, 0) (12, 6)) (9, 5)) (9, 5)) (cond (Nat.ble a 51) (cond (Nat.ble a 50) (9, 5) (9, 6)) (9, 5))) (cond (Nat.ble a 58) (cond (Nat.ble a 56) (cond (Nat.ble a 55) (cond (Nat.ble a 54) (9, 61) (2, 0)) (9, 6)) (9, 6)) (cond (Nat.ble a 61) (cond (Nat.ble a 60) (cond (Nat.ble a 59) (9, 5) (2, 0)) (9, 6)) (9, 6)))) (cond (Nat.ble a 74) (cond (Nat.ble a 69) (cond (Nat.ble a 66) (cond (Nat.ble a 65) (cond (Nat.ble a 64) (9, 5) (2, 0)) (9, 6)) (cond (Nat.ble a 68) (9, 6) (9, 5))) (cond (Nat.ble a 72) (cond (Nat.ble a 71) (cond (Nat.ble a 70) (2, 0) (9, 6)) (9, 6)) (cond (Nat.ble a 73) (9, 6) (9, 5)))) (cond (Nat.ble a 79) (cond (Nat.ble a 77) (cond (Nat.ble a 76) (cond (Nat.ble a 75) (2, 0) (9, 6)) (9, 6)) (cond (Nat.ble a 78) (9, 6) (9, 5))) (cond (Nat.ble a 82) (cond (Nat.ble a 81) (cond (Nat.ble a 80) (2, 0) (9, 6)) (9, 6)) (cond (Nat.ble a 83) (9, 6) (9, 5))))))) (cond (Nat.ble a 126) (cond (Nat.ble a 105) (cond (Nat.ble a 95) (cond (Nat.ble a 90) (cond (Nat.ble a 87) (cond (Nat.ble a 86) (cond (Nat.ble a 85) (2, 0) (9, 6)) (9, 6)) (cond (Nat.ble a 89) (cond (Nat.ble a 88) (9, 6) (9, 5)) (2, 0))) (cond (Nat.ble a 93) (9, 6) (cond (Nat.ble a 94) (9, 5) (2, 0)))) (cond (Nat.ble a 100) (cond (Nat.ble a 98) (9, 6) (cond (Nat.ble a 99) (9, 5) (2, 0))) (cond (Nat.ble a 103) (9, 6) (cond (Nat.ble a 104) (9, 5) (2, 0))))) (cond (Nat.ble a 116) (cond (Nat.ble a 111) (cond (Nat.ble a 108) (9, 6) (cond (Nat.ble a 110) (cond (Nat.ble a 109) (9, 5) (2, 0)) (9, 6))) (cond (Nat.ble a 114) (cond (Nat.ble a 113) (9, 6) (9, 5)) (cond (Nat.ble a 115) (2, 0) (9, 6)))) (cond (Nat.ble a 121) (cond (Nat.ble a 119) (cond (Nat.ble a 118) (9, 6) (9, 5)) (cond (Nat.ble a 120) (2, 0) (9, 6))) (cond (Nat.ble a 124) (cond (Nat.ble a 123) (9, 6) (9, 5)) (cond (Nat.ble a 125) (2, 0) (9, 6)))))) (cond (Nat.ble a 147) (cond (Nat.ble a 137) (cond (Nat.ble a 132) (cond (Nat.ble a 129) (cond (Nat.ble a 128) (9, 6) (9, 5)) (cond (Nat.ble a 131) (cond (Nat.ble a 130) (2, 0) (9, 6)) (9, 6))) (cond (Nat.ble a 135) (cond (Nat.ble a 134) (cond (Nat.ble a 133) (9, 6) (9, 5)) (2, 0)) (9, 6))) (cond (Nat.ble a 142) (cond (Nat.ble a 140) (cond (Nat.ble a 139) (cond (Nat.ble a 138) (9, 6) (9, 5)) (2, 0)) (9, 6)) (cond (Nat.ble a 145) (cond (Nat.ble a 144) (cond (Nat.ble a 143) (9, 6) (9, 5)) (2, 0)) (9, 6)))) (cond (Nat.ble a 158) (cond (Nat.ble a 153) (cond (Nat.ble a 150) (cond (Nat.ble a 149) (cond (Nat.ble a 148) (9, 6) (9, 5)) (7, 0)) (cond (Nat.ble a 152) (cond (Nat.ble a 151) (9, 900) (9, 8)) (9, 202))) (cond (Nat.ble a 156) (cond (Nat.ble a 155) (cond (Nat.ble a 154) (9, 202) (9, 25)) (9, 25)) (cond (Nat.ble a 157) (9, 25) (9, 400)))) (cond (Nat.ble a 163) (cond (Nat.ble a 161) (cond (Nat.ble a 160) (cond (Nat.ble a 159) (9, 75) (9, 5)) (9, 25)) (9, 5)) (cond (Nat.ble a 166) (cond (Nat.ble a 165) (cond (Nat.ble a 164) (9, 20) (9, 6)) (9, 4)) (cond (Nat.ble a 167) (10, 1) (99, 0))))))))
noncomputable def rfT (a : Nat) : List Nat := (cond (Nat.ble a 84) (cond (Nat.ble a 42) (cond (Nat.ble a 21) (cond (Nat.ble a 10) (cond (Nat.ble a 5) (cond (Nat.ble a 2) (cond (Nat.ble a 1) (cond (Nat.ble a 0) [] [2, 7, 20, 33, 38, 0, 0, 39, 0, 40, 41, 43, 54, 0]) [3, 0, 0, 0, 0, 0, 0, 0, 0, 4, 5, 6, 0, 0, 0]) []) (cond (Nat.ble a 8) (cond (Nat.ble a 7) (cond (Nat.ble a 6) [] [0, 0, 0, 0, 0, 8, 9, 10, 11, 12, 0, 13, 14, 15, 0, 16, 17, 0, 18, 19]) []) [])) (cond (Nat.ble a 16) [] (cond (Nat.ble a 19) [] (cond (Nat.ble a 20) [0, 0, 0, 0, 0, 21, 22, 23, 24, 25, 0, 26, 27, 28, 0, 29, 30, 0, 31, 32] [])))) (cond (Nat.ble a 32) [] (cond (Nat.ble a 37) (cond (Nat.ble a 35) (cond (Nat.ble a 34) (cond (Nat.ble a 33) [34, 35, 36, 37, 0, 0] []) []) []) (cond (Nat.ble a 40) (cond (Nat.ble a 39) (cond (Nat.ble a 38) [55, 60, 65, 70, 75, 80, 85, 90, 95, 100, 105, 110, 115, 120, 125, 130] [135, 140, 145]) [0, 0, 0, 0, 0, 0, 0, 0]) (cond (Nat.ble a 41) [42, 0] []))))) (cond (Nat.ble a 63) (cond (Nat.ble a 53) (cond (Nat.ble a 48) (cond (Nat.ble a 45) (cond (Nat.ble a 44) (cond (Nat.ble a 43) [44, 51, 52, 53, 0, 0, 0, 0, 0] [45, 46, 47, 48, 49, 50]) []) []) []) (cond (Nat.ble a 58) (cond (Nat.ble a 56) (cond (Nat.ble a 55) (cond (Nat.ble a 54) [] [56, 57, 58, 59, 0, 0]) []) []) (cond (Nat.ble a 61) (cond (Nat.ble a 60) (cond (Nat.ble a 59) [] [61, 62, 63, 64, 0, 0]) []) []))) (cond (Nat.ble a 74) (cond (Nat.ble a 69) (cond (Nat.ble a 66) (cond (Nat.ble a 65) (cond (Nat.ble a 64) [] [66, 67, 68, 69, 0, 0]) []) []) (cond (Nat.ble a 72) (cond (Nat.ble a 71) (cond (Nat.ble a 70) [71, 72, 73, 74, 0, 0] []) []) [])) (cond (Nat.ble a 79) (cond (Nat.ble a 77) (cond (Nat.ble a 76) (cond (Nat.ble a 75) [76, 77, 78, 79, 0, 0] []) []) []) (cond (Nat.ble a 82) (cond (Nat.ble a 81) (cond (Nat.ble a 80) [81, 82, 83, 84, 0, 0] []) []) []))))) (cond (Nat.ble a 126) (cond (Nat.ble a 105) (cond (Nat.ble a 95) (cond (Nat.ble a 90) (cond (Nat.ble a 87) (cond (Nat.ble a 86) (cond (Nat.ble a 85) [86, 87, 88, 89, 0, 0] []) []) (cond (Nat.ble a 89) [] [91, 92, 93, 94, 0, 0])) (cond (Nat.ble a 93) [] (cond (Nat.ble a 94) [] [96, 97, 98, 99, 0, 0]))) (cond (Nat.ble a 100) (cond (Nat.ble a 98) [] (cond (Nat.ble a 99) [] [101, 102, 103, 104, 0, 0])) (cond (Nat.ble a 103) [] (cond (Nat.ble a 104) [] [106, 107, 108, 109, 0, 0])))) (cond (Nat.ble a 116) (cond (Nat.ble a 111) (cond (Nat.ble a 108) [] (cond (Nat.ble a 110) (cond (Nat.ble a 109) [] [111, 112, 113, 114, 0, 0]) [])) (cond (Nat.ble a 114) [] (cond (Nat.ble a 115) [116, 117, 118, 119, 0, 0] []))) (cond (Nat.ble a 121) (cond (Nat.ble a 119) [] (cond (Nat.ble a 120) [121, 122, 123, 124, 0, 0] [])) (cond (Nat.ble a 124) [] (cond (Nat.ble a 125) [126, 127, 128, 129, 0, 0] []))))) (cond (Nat.ble a 147) (cond (Nat.ble a 137) (cond (Nat.ble a 132) (cond (Nat.ble a 129) [] (cond (Nat.ble a 131) (cond (Nat.ble a 130) [131, 132, 133, 134, 0, 0] []) [])) (cond (Nat.ble a 135) (cond (Nat.ble a 134) [] [136, 137, 138, 139, 0, 0]) [])) (cond (Nat.ble a 142) (cond (Nat.ble a 140) (cond (Nat.ble a 139) [] [141, 142, 143, 144, 0, 0]) []) (cond (Nat.ble a 145) (cond (Nat.ble a 144) [] [146, 147, 148, 149, 0, 0]) []))) (cond (Nat.ble a 158) (cond (Nat.ble a 153) (cond (Nat.ble a 150) (cond (Nat.ble a 149) [] [0, 151, 0, 0, 0, 0, 0, 0, 0, 0, 0, 0, 152, 0, 0, 153, 154, 155, 156, 157, 158, 159, 0, 0, 160, 161, 0, 162, 163, 0, 0, 0, 0, 164, 165, 166, 0, 0, 0, 0, 0, 0, 0, 0]) []) []) []))))
noncomputable def rfN (a k : Nat) : List Nat := cond (Nat.beq a 1 && (Nat.beq k 1 || Nat.beq k 2)) [7, 20] (cond (Nat.beq a 2 && Nat.beq k 3) [0, 7, 20] [(rfT a).getD k 0])
noncomputable def lkR : List (Nat × List Row) → Nat → List Row
  | [], _ => []
  | x :: t, a => cond (Nat.beq x.1 a) x.2 (lkR t a)
noncomputable def mkP (R : List (Nat × List Row)) : Pk := (kdT, rfN, lkR R)
noncomputable def rwt0 : List (Nat × List Row) := [(150, [(14, 14, 1, 1), (2, 2, 0, 900), (14, 14, 0, 1), (22, 22, 0, 16), (23, 23, 0, 3)]), (153, [(0, 0, 2, 5), (0, 0, 0, 5), (1, 1, 0, 4), (2, 2, 0, 100), (4, 4, 0, 6), (5, 5, 0, 5), (6, 6, 0, 4), (7, 7, 0, 4), (35, 44, 0, 30), (45, 52, 0, 19), (53, 53, 0, 4), (55, 55, 0, 4), (57, 57, 0, 4), (59, 59, 0, 4)]), (155, [(18, 22, 0, 5)]), (157, [(18, 22, 0, 5)]), (158, [(18, 22, 0, 5), (43, 47, 0, 5), (68, 72, 0, 5), (93, 97, 0, 5), (118, 122, 0, 5), (143, 147, 0, 5), (168, 172, 0, 5), (193, 197, 0, 5), (218, 222, 0, 5), (243, 247, 0, 5), (268, 272, 0, 5), (293, 297, 0, 5), (318, 322, 0, 5), (343, 347, 0, 5), (368, 372, 0, 5), (393, 397, 0, 5)]), (159, [(18, 22, 0, 5), (43, 47, 0, 5), (68, 72, 0, 5)]), (161, [(18, 22, 0, 5)]), (162, [(0, 4, 0, 5)]), (163, [(0, 4, 0, 5)])]
noncomputable def rwt6 : List (Nat × List Row) := [(150, [(14, 14, 0, 0), (2, 2, 0, 900), (14, 14, 0, 1), (22, 22, 0, 16), (23, 23, 0, 3)]), (153, [(0, 0, 0, 5), (1, 1, 0, 4), (2, 2, 0, 100), (4, 4, 0, 6), (5, 5, 0, 5), (6, 6, 0, 4), (7, 7, 0, 4), (35, 44, 0, 30), (45, 52, 0, 19), (53, 53, 0, 4), (55, 55, 0, 4), (57, 57, 0, 4), (59, 59, 0, 4)]), (155, [(18, 22, 0, 5)]), (157, [(18, 22, 0, 5)]), (158, [(18, 22, 0, 5), (43, 47, 0, 5), (68, 72, 0, 5), (93, 97, 0, 5), (118, 122, 0, 5), (143, 147, 0, 5), (168, 172, 0, 5), (193, 197, 0, 5), (218, 222, 0, 5), (243, 247, 0, 5), (268, 272, 0, 5), (293, 297, 0, 5), (318, 322, 0, 5), (343, 347, 0, 5), (368, 372, 0, 5), (393, 397, 0, 5)]), (159, [(18, 22, 0, 5), (43, 47, 0, 5), (68, 72, 0, 5)]), (161, [(18, 22, 0, 5)]), (162, [(0, 4, 0, 5)]), (163, [(0, 4, 0, 5)])]
noncomputable def rwt8 : List (Nat × List Row) := [(1, [(5, 5, 0, 15), (6, 6, 0, 16), (8, 8, 0, 3)]), (2, [(1, 2, 0, 900), (5, 6, 0, 900), (12, 12, 0, 15)]), (6, [(0, 14, 0, 5)]), (7, [(0, 0, 0, 5), (1, 1, 0, 4), (2, 2, 0, 100), (4, 4, 0, 6), (10, 10, 0, 5), (14, 14, 0, 4), (17, 17, 0, 4)]), (16, [(0, 3, 0, 19)]), (17, [(0, 3, 0, 19)]), (20, [(0, 0, 0, 5), (1, 1, 0, 4), (2, 2, 0, 100), (4, 4, 0, 6), (10, 10, 0, 5), (14, 14, 0, 4), (17, 17, 0, 4)]), (29, [(0, 3, 0, 19)]), (30, [(0, 3, 0, 19)]), (43, [(4, 4, 0, 6), (5, 5, 0, 5)])]
noncomputable def Pt0 : Pk := mkP rwt0
noncomputable def Pt6 : Pk := mkP rwt6
noncomputable def Pt8 : Pk := mkP rwt8
end
section
/-! steps by hand over a memory of which little is known: a row an operation -/
section STP
variable {l : Launch} {X : Nat × (Nat → Int32)} {q : Md} {d : Nat} {na : Bool} {b : Nat × Nat} {tb : List (Nat × OP)} {kr : KR} {pc : Nat} {ls : Ls} {st : List Value} {M : Mm}
theorem Wf.stp1 (ht : ∀ x ∈ tb, OK l X q d na b x.1 x.2) {o : OP} (ho : lo tb pc = o) (h : o (fun pc' ls' st' M' => Wf l X q d na b pc' ls' st' M' kr) kr ls st M) : Wf l X q d na b pc ls st M kr :=
  lo_ok ht pc _ kr ls st M (fun _ _ _ _ h' => h') (by rw [ho]; exact h)
theorem Wf.sIc (ht : ∀ x ∈ tb, OK l X q d na b x.1 x.2) {n : Nat} {v : Int32} (ho : lo tb pc = oIc pc n v) (k : Wf l X q d na b (pc + n) ls (.int v :: st) M kr) : Wf l X q d na b pc ls st M kr := Wf.stp1 ht ho k
theorem Wf.sLc (ht : ∀ x ∈ tb, OK l X q d na b x.1 x.2) {n : Nat} {v : Int64} (ho : lo tb pc = oLc pc n v) (k : Wf l X q d na b (pc + n) ls (.long v :: st) M kr) : Wf l X q d na b pc ls st M kr := Wf.stp1 ht ho k
theorem Wf.sIl (ht : ∀ x ∈ tb, OK l X q d na b x.1 x.2) {n i : Nat} {v : Int32} (ho : lo tb pc = oIl pc n i) (hl : lg ls i = some (.int v)) (k : Wf l X q d na b (pc + n) ls (.int v :: st) M kr) : Wf l X q d na b pc ls st M kr := Wf.stp1 ht ho (by simp only [oIl, hl]; exact k)
theorem Wf.sLl (ht : ∀ x ∈ tb, OK l X q d na b x.1 x.2) {n i : Nat} {v : Int64} (ho : lo tb pc = oLl pc n i) (hl : lg ls i = some (.long v)) (k : Wf l X q d na b (pc + n) ls (.long v :: st) M kr) : Wf l X q d na b pc ls st M kr := Wf.stp1 ht ho (by simp only [oLl, hl]; exact k)
theorem Wf.sAl (ht : ∀ x ∈ tb, OK l X q d na b x.1 x.2) {n i a : Nat} (ho : lo tb pc = oAl pc n i) (hl : lg ls i = some (.ref a)) (ha : Nat.blt 0 a = true) (k : Wf l X q d na b (pc + n) ls (.ref a :: st) M kr) : Wf l X q d na b pc ls st M kr := Wf.stp1 ht ho (by simp only [oAl, hl, ha, cond_true]; exact k)
theorem Wf.sIs (ht : ∀ x ∈ tb, OK l X q d na b x.1 x.2) {n i : Nat} {v : Int32} {ls' : Ls} (ho : lo tb pc = oIs pc n i) (hl : lp ls i (.int v) = ls') (k : Wf l X q d na b (pc + n) ls' st M kr) : Wf l X q d na b pc ls (.int v :: st) M kr := Wf.stp1 ht ho (by subst hl; exact k)
theorem Wf.sLs (ht : ∀ x ∈ tb, OK l X q d na b x.1 x.2) {n i : Nat} {v : Int64} {ls' : Ls} (ho : lo tb pc = oLs pc n i) (hl : lp ls i (.long v) = ls') (k : Wf l X q d na b (pc + n) ls' st M kr) : Wf l X q d na b pc ls (.long v :: st) M kr := Wf.stp1 ht ho (by subst hl; exact k)
theorem Wf.sInc (ht : ∀ x ∈ tb, OK l X q d na b x.1 x.2) {i : Nat} {n v : Int32} {ls' : Ls} (ho : lo tb pc = oInc pc i n) (hl : lg ls i = some (.int v)) (hp : lp ls i (.int (v + n)) = ls') (k : Wf l X q d na b (pc + 3) ls' st M kr) : Wf l X q d na b pc ls st M kr := Wf.stp1 ht ho (by simp only [oInc, hl]; subst hp; exact k)
theorem Wf.s2 (ht : ∀ x ∈ tb, OK l X q d na b x.1 x.2) {f : Int32 → Int32 → Int32} {x y : Int32} (ho : lo tb pc = o2 pc f) (k : Wf l X q d na b (pc + 1) ls (.int (f x y) :: st) M kr) : Wf l X q d na b pc ls (.int y :: .int x :: st) M kr := Wf.stp1 ht ho k
theorem Wf.sL2 (ht : ∀ x ∈ tb, OK l X q d na b x.1 x.2) {f : Int64 → Int64 → Int64} {x y : Int64} (ho : lo tb pc = oL2 pc f) (k : Wf l X q d na b (pc + 1) ls (.long (f x y) :: st) M kr) : Wf l X q d na b pc ls (.long y :: .long x :: st) M kr := Wf.stp1 ht ho k
theorem Wf.sL2d (ht : ∀ x ∈ tb, OK l X q d na b x.1 x.2) {f : Int64 → Int64 → Int64} {x y : Int64} (ho : lo tb pc = oL2d pc f) (hy : ¬ y = 0) (k : Wf l X q d na b (pc + 1) ls (.long (f x y) :: st) M kr) : Wf l X q d na b pc ls (.long y :: .long x :: st) M kr := Wf.stp1 ht ho ⟨hy, k⟩
theorem Wf.slcmp (ht : ∀ x ∈ tb, OK l X q d na b x.1 x.2) {x y : Int64} (ho : lo tb pc = olcmp pc) (k : Wf l X q d na b (pc + 1) ls (.int (lg_cmp x y) :: st) M kr) : Wf l X q d na b pc ls (.long y :: .long x :: st) M kr := Wf.stp1 ht ho k
theorem Wf.si2l (ht : ∀ x ∈ tb, OK l X q d na b x.1 x.2) {x : Int32} (ho : lo tb pc = oi2l pc) (k : Wf l X q d na b (pc + 1) ls (.long x.toInt64 :: st) M kr) : Wf l X q d na b pc ls (.int x :: st) M kr := Wf.stp1 ht ho k
theorem Wf.sGo (ht : ∀ x ∈ tb, OK l X q d na b x.1 x.2) {t : Nat} (ho : lo tb pc = oGo t) (k : Wf l X q d na b t ls st M kr) : Wf l X q d na b pc ls st M kr := Wf.stp1 ht ho k
theorem Wf.sIf (ht : ∀ x ∈ tb, OK l X q d na b x.1 x.2) {t : Nat} {P N : Int32 → Prop} {x : Int32} (ho : lo tb pc = oIf pc t P N) (k1 : P x → Wf l X q d na b t ls st M kr) (k2 : N x → Wf l X q d na b (pc + 3) ls st M kr) : Wf l X q d na b pc ls (.int x :: st) M kr := Wf.stp1 ht ho ⟨k1, k2⟩
theorem Wf.sCm (ht : ∀ x ∈ tb, OK l X q d na b x.1 x.2) {t : Nat} {P N : Int32 → Int32 → Prop} {x y : Int32} (ho : lo tb pc = oCm pc t P N) (k1 : P x y → Wf l X q d na b t ls st M kr) (k2 : N x y → Wf l X q d na b (pc + 3) ls st M kr) : Wf l X q d na b pc ls (.int y :: .int x :: st) M kr := Wf.stp1 ht ho ⟨k1, k2⟩
theorem Wf.sDup (ht : ∀ x ∈ tb, OK l X q d na b x.1 x.2) {v : Value} (ho : lo tb pc = oDup pc) (hv : Nat.beq v.category 1 = true) (k : Wf l X q d na b (pc + 1) ls (v :: v :: st) M kr) : Wf l X q d na b pc ls (v :: st) M kr := Wf.stp1 ht ho (by simp only [oDup, hv, cond_true]; exact k)
theorem Wf.sPop (ht : ∀ x ∈ tb, OK l X q d na b x.1 x.2) {v : Value} (ho : lo tb pc = oPop pc) (hv : Nat.beq v.category 1 = true) (k : Wf l X q d na b (pc + 1) ls st M kr) : Wf l X q d na b pc ls (v :: st) M kr := Wf.stp1 ht ho (by simp only [oPop, hv, cond_true]; exact k)
theorem Wf.sG (ht : ∀ x ∈ tb, OK l X q d na b x.1 x.2) {c j t a : Nat} (ho : lo tb pc = oG pc c j t) (hk : kk M a c = true) (k : Wf l X q d na b (pc + 3) ls (sv M a j t :: st) M kr) : Wf l X q d na b pc ls (.ref a :: st) M kr := Wf.stp1 ht ho (by simp only [oG, hk, cond_true]; exact k)
theorem Wf.sPI (ht : ∀ x ∈ tb, OK l X q d na b x.1 x.2) {c j a : Nat} {v : Int32} (ho : lo tb pc = oPI pc c j) (hk : kk M a c = true) (k : Wf l X q d na b (pc + 3) ls st (wI M a j v) kr) : Wf l X q d na b pc ls (.int v :: .ref a :: st) M kr := Wf.stp1 ht ho (by simp only [oPI, hk, cond_true]; exact k)
theorem Wf.sPL (ht : ∀ x ∈ tb, OK l X q d na b x.1 x.2) {c j a : Nat} {v : Int64} (ho : lo tb pc = oPL pc c j) (hk : kk M a c = true) (k : Wf l X q d na b (pc + 3) ls st (wL M a j v) kr) : Wf l X q d na b pc ls (.long v :: .ref a :: st) M kr := Wf.stp1 ht ho (by simp only [oPL, hk, cond_true]; exact k)
theorem Wf.sIal (ht : ∀ x ∈ tb, OK l X q d na b x.1 x.2) {i : Int32} {a j : Nat} (ho : lo tb pc = oIal pc) (hk : kk M a 9 = true) (hi : i = nI j ∧ j < 1000 ∧ j < (mK M a).2) (k : Wf l X q d na b (pc + 1) ls (.int (mI M a j) :: st) M kr) : Wf l X q d na b pc ls (.int i :: .ref a :: st) M kr := Wf.stp1 ht ho (by simp only [oIal, hk, cond_true]; exact ⟨j, hi, k⟩)
theorem Wf.sBal (ht : ∀ x ∈ tb, OK l X q d na b x.1 x.2) {i : Int32} {a j : Nat} (ho : lo tb pc = oBal pc) (hk : kk M a 8 = true) (hi : i = nI j ∧ j < 1000 ∧ j < (mK M a).2) (k : Wf l X q d na b (pc + 1) ls (.int (mI M a j) :: st) M kr) : Wf l X q d na b pc ls (.int i :: .ref a :: st) M kr := Wf.stp1 ht ho (by simp only [oBal, hk, cond_true]; exact ⟨j, hi, k⟩)
theorem Wf.sIas (ht : ∀ x ∈ tb, OK l X q d na b x.1 x.2) {i v : Int32} {a j : Nat} (ho : lo tb pc = oIas pc) (hk : kk M a 9 = true) (hi : i = nI j ∧ j < 1000 ∧ j < (mK M a).2) (k : Wf l X q d na b (pc + 1) ls st (wI M a j v) kr) : Wf l X q d na b pc ls (.int v :: .int i :: .ref a :: st) M kr := Wf.stp1 ht ho (by simp only [oIas, hk, cond_true]; exact ⟨j, hi, k⟩)
theorem Wf.sVr (ht : ∀ x ∈ tb, OK l X q d na b x.1 x.2) (ho : lo tb pc = oVr) (k : kr none M) : Wf l X q d na b pc ls [] M kr := Wf.stp1 ht ho k
theorem Wf.sIr (ht : ∀ x ∈ tb, OK l X q d na b x.1 x.2) {v : Int32} (ho : lo tb pc = oIr) (k : kr (some (.int v)) M) : Wf l X q d na b pc ls [.int v] M kr := Wf.stp1 ht ho k
theorem Wf.sZr (ht : ∀ x ∈ tb, OK l X q d na b x.1 x.2) {v : Int32} (ho : lo tb pc = oZr) (hv : v = 0 ∨ v = 1) (k : kr (some (.int v)) M) : Wf l X q d na b pc ls [.int v] M kr := Wf.stp1 ht ho ⟨hv, k⟩
theorem Wf.sLr (ht : ∀ x ∈ tb, OK l X q d na b x.1 x.2) {v : Int64} (ho : lo tb pc = oLr) (k : kr (some (.long v)) M) : Wf l X q d na b pc ls [.long v] M kr := Wf.stp1 ht ho k
/-- a call by a contract's words -/
theorem Wf.sCv (ht : ∀ x ∈ tb, OK l X q d na b x.1 x.2) {q' : Md} {c n a d' : Nat} {as rest : List Value} (ho : lo tb pc = oCv l X d' pc q' c n) (hp : pn (n + 1) st [] = some (.ref a :: as, rest)) (hk : kk M a c = true) (hc : Nat.ble (cs rest) 8 = true) (k : Ev l X q' d' true 0 0 (.ref a :: as) M (fun r M' => Wf l X q d na b (pc + 3) ls (r.toList ++ rest) M' kr)) : Wf l X q d na b pc ls st M kr := Wf.stp1 ht ho (by simp only [oCv, hp, hk, hc, Bool.and_self, cond_true]; exact k)
theorem Wf.sCs (ht : ∀ x ∈ tb, OK l X q d na b x.1 x.2) {q' : Md} {n d' : Nat} {as rest : List Value} (ho : lo tb pc = oCs l X d' pc q' n) (hp : pn n st [] = some (as, rest)) (hc : Nat.ble (cs rest) 8 = true) (k : Ev l X q' d' true 0 0 as M (fun r M' => Wf l X q d na b (pc + 3) ls (r.toList ++ rest) M' kr)) : Wf l X q d na b pc ls st M kr := Wf.stp1 ht ho (by simp only [oCs, hp, hc, cond_true]; exact k)
theorem Wf.sCq (ht : ∀ x ∈ tb, OK l X q d na b x.1 x.2) {q' : Md} {n a d' : Nat} {as rest : List Value} (ho : lo tb pc = oCq l X d' pc q' n) (hp : pn (n + 1) st [] = some (.ref a :: as, rest)) (ha : 5000 ≤ a ∧ a < 5042) (hc : Nat.ble (cs rest) 8 = true) (k : Ev l X q' d' true 0 0 (.ref a :: as) M (fun r M' => Wf l X q d na b (pc + 3) ls (r.toList ++ rest) M' kr)) : Wf l X q d na b pc ls st M kr := Wf.stp1 ht ho (by simp only [oCq, hp, hc, cond_true]; exact ⟨ha.1, ha.2, k⟩)
end STP
theorem dwn (P : Nat → Prop) (e : Nat) (he : P e) (h : ∀ i, i < e → P (i + 1) → P i) : ∀ i, i ≤ e → P i := by
  intro i hi
  obtain ⟨n, hn⟩ : ∃ n, i + n = e := ⟨e - i, by omega⟩
  induction n generalizing i with
  | zero => rw [show i = e by omega]; exact he
  | succ n ih => exact h i (by omega) (ih (i + 1) (by omega) (by omega))
/-! the reference's copy of rows -/
theorem wF_0 {M : Mm} {a x y : Nat} {f : Nat → Int32} : wF M a (va_cpy f (mI M a) x y 0) = M := by
  obtain ⟨s, I, L⟩ := M
  show (s, _, L) = (s, I, L)
  congr 2
  funext b j
  show (if b = a then va_cpy f (I a) x y 0 j else I b j) = I b j
  split
  · rename_i h
    unfold va_cpy
    rw [if_neg (by omega), h]
  · rfl
theorem wF_s1 {M : Mm} {a x y i : Nat} {f : Nat → Int32} : wI (wF M a (va_cpy f (mI M a) x y i)) a (y + i) (f (x + i)) = wF M a (va_cpy f (mI M a) x y (i + 1)) := by
  obtain ⟨s, I, L⟩ := M
  show (s, _, L) = (s, _, L)
  congr 2
  funext b j
  show (if b = a ∧ j = y + i then f (x + i) else (if b = a then va_cpy f (I a) x y i j else I b j)) = (if b = a then va_cpy f (I a) x y (i + 1) j else I b j)
  by_cases hb : b = a
  · rw [if_pos hb, if_pos hb]
    by_cases hj : j = y + i
    · rw [if_pos ⟨hb, hj⟩]
      unfold va_cpy
      rw [if_pos (by omega), hj, show y + i - y = i by omega]
    · rw [if_neg (fun z => hj z.2)]
      unfold va_cpy
      by_cases hc : y ≤ j ∧ j < y + i
      · rw [if_pos hc, if_pos (by omega)]
      · rw [if_neg hc, if_neg (by omega)]
  · rw [if_neg (fun z => hb z.1), if_neg hb, if_neg hb]
set_option maxRecDepth 20000 in
theorem cpyX {l : Launch} {X : Nat × (Nat → Int32)} (d : Nat) : Cpy l X d (U0 152) := by
  intro n0 n1 x y z M kr h0 h1 hne hw hb hk
  obtain ⟨hw1, hw2⟩ := hw
  obtain ⟨hx, hy, hz, hxz, hyz⟩ := hb
  have p0 : Nat.blt 0 n0 = true := Nat.ble_eq_true_of_le (kk_of h0).1
  have p1 : Nat.blt 0 n1 = true := Nat.ble_eq_true_of_le (kk_of h1).1
  show Ev l X uX7_copy d true 0 0 _ M kr
  refine Ev.of (by decide) (Nat.le_of_ble_eq_true rfl) ?_
  have key : ∀ i, i ≤ z → Wf l X uX7_copy d true (mC M + 0, mS M + 0) 3 [(0, .ref n0), (1, .int (nI x)), (2, .ref n1), (3, .int (nI y)), (4, .int (nI z)), (5, .int (nI i))] [] (wF M n1 (va_cpy (mI M n0) (mI M n1) x y i)) kr := by
    refine dwn _ z ?_ ?_
    · refine Wf.sIl tkX7_copy rfl rfl ?_
      refine Wf.sIl tkX7_copy rfl rfl ?_
      refine Wf.sCm tkX7_copy rfl (fun _ => ?_) (fun w => absurd (nI_le (Nat.le_refl z) (by omega)) w)
      exact Wf.sVr tkX7_copy rfl hk
    · intro i hi hW
      refine Wf.sIl tkX7_copy rfl rfl ?_
      refine Wf.sIl tkX7_copy rfl rfl ?_
      refine Wf.sCm tkX7_copy rfl (fun w => absurd w (nI_ge hi (by omega))) (fun _ => ?_)
      refine Wf.sAl tkX7_copy rfl rfl p1 ?_
      refine Wf.sIl tkX7_copy rfl rfl ?_
      refine Wf.sIl tkX7_copy rfl rfl ?_
      refine Wf.s2 tkX7_copy rfl ?_
      refine Wf.sAl tkX7_copy rfl rfl p0 ?_
      refine Wf.sIl tkX7_copy rfl rfl ?_
      refine Wf.sIl tkX7_copy rfl rfl ?_
      refine Wf.s2 tkX7_copy rfl ?_
      refine Wf.sIal (j := x + i) tkX7_copy rfl h0 ⟨nI_add x i, by omega, by show x + i < (mK M n0).2; omega⟩ ?_
      refine Wf.sIas (j := y + i) tkX7_copy rfl h1 ⟨nI_add y i, by omega, by show y + i < (mK M n1).2; omega⟩ ?_
      have e : mI (wF M n1 (va_cpy (mI M n0) (mI M n1) x y i)) n0 (x + i) = mI M n0 (x + i) := by rw [mI_wF, if_neg hne]
      rw [e, wF_s1]
      refine Wf.sInc tkX7_copy rfl rfl rfl ?_
      refine Wf.sGo tkX7_copy rfl ?_
      rw [nI_1]
      exact hW
  refine Wf.sIc tkX7_copy rfl ?_
  refine Wf.sIs tkX7_copy rfl rfl ?_
  have := key 0 (Nat.zero_le _)
  rw [wF_0] at this
  exact this
end
section
/-! what bounds say of values, one by one -/
theorem gbs_0 {av : List Value} (h : gbs av []) : av = [] := by
  cases av with
  | nil => rfl
  | cons _ _ => exact h.elim
theorem gbs_1 {av : List Value} {b : AB} {bs : List AB} (h : gbs av (b :: bs)) : ∃ v t, av = v :: t ∧ gb v b ∧ gbs t bs := by
  cases av with
  | nil => exact h.elim
  | cons v t => exact ⟨v, t, rfl, h.1, h.2⟩
theorem gb_i {v : Value} {lo hi : Int} {ns : List Nat} (h : gb v (0, lo, hi, ns)) : ∃ x : Int32, v = .int x ∧ lo ≤ x.toInt ∧ x.toInt ≤ hi := by
  cases v with
  | int x => exact ⟨x, rfl, h.2⟩
  | long x => have h1 := h.1; cases h1
  | ref x => have h1 := h.1; cases h1
  | _ => exact h.elim
theorem gb_r {v : Value} {lo hi : Int} {ns : List Nat} (h : gb v (2, lo, hi, ns)) : ∃ n : Nat, v = .ref n ∧ n ∈ ns := by
  cases v with
  | int x => have h1 := h.1; cases h1
  | long x => have h1 := h.1; cases h1
  | ref x => exact ⟨x, rfl, h.2⟩
  | _ => exact h.elim
theorem gb_r1 {v : Value} {lo hi : Int} {n : Nat} (h : gb v (2, lo, hi, [n])) : v = .ref n := by
  obtain ⟨m, rfl, hm⟩ := gb_r h
  rw [List.mem_singleton.mp hm]
/-- an end without more words -/
theorem gps_i {av : List Value} {M : Mm} {lo hi : Int} {r : Int32} (h1 : lo ≤ r.toInt) (h2 : r.toInt ≤ hi) : gps av (some (.int r)) M [(some (0, lo, hi, []), [], [])] := ⟨_, List.mem_singleton.mpr rfl, ⟨rfl, h1, h2⟩, fun x hx => absurd hx List.not_mem_nil, fun x hx => absurd hx List.not_mem_nil⟩
theorem gps_any {av : List Value} {M : Mm} {r : Int32} : gps av (some (.int r)) M [(some (0, iLo, iHi, []), [], [])] := gps_i (i32_lo r) (i32_hi r)
theorem gps_n {av : List Value} {M : Mm} : gps av none M [(none, [], [])] := ⟨_, List.mem_singleton.mpr rfl, trivial, fun x hx => absurd hx List.not_mem_nil, fun x hx => absurd hx List.not_mem_nil⟩
end
