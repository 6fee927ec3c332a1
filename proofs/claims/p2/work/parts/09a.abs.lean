/-! THE CHECKER BY REFLECTION: abstract values over a list of symbols (symbol 0 is the number 0). -/
/-- a symbol's bounds -/
abbrev Sto : Type := List (Int × Int)
/-- (0, s, c, _): the int (value of symbol s) + c; (1, ..): a long; (2, _, _, names): a reference, one of these (0 is null) -/
abbrev AV : Type := Nat × Nat × Int × List Nat
def gv (rho : List Int) (v : Value) (a : AV) : Prop := match v with
  | .int x => a.1 = 0 ∧ ∃ e, rho[a.2.1]? = some e ∧ x.toInt = e + a.2.2.1
  | .long _ => a.1 = 1
  | .ref n => a.1 = 2 ∧ n ∈ a.2.2.2
  | _ => False
def gs (r0 rho : List Int) (S : Sto) : Prop := (rho.length = S.length ∧ ∃ t, rho = r0 ++ t) ∧ ∀ (k : Nat) (b : Int × Int), S[k]? = some b → ∃ e, rho[k]? = some e ∧ b.1 ≤ e ∧ e ≤ b.2
theorem gv_app {rho : List Int} {v : Value} {a : AV} {e : Int} (h : gv rho v a) : gv (rho ++ [e]) v a := by
  cases v with
  | int x =>
    obtain ⟨h1, y, h2, h3⟩ := h
    exact ⟨h1, y, by rw [List.getElem?_append_left (List.getElem?_eq_some_iff.mp h2).1]; exact h2, h3⟩
  | _ => exact h
theorem gs_app {r0 : List Int} {rho : List Int} {S : Sto} {e lo hi : Int} (h : gs r0 rho S) (h1 : lo ≤ e) (h2 : e ≤ hi) : gs r0 (rho ++ [e]) (S ++ [(lo, hi)]) := by
  obtain ⟨⟨hlen, t, ht⟩, hh⟩ := h
  have h : gs r0 rho S := ⟨⟨hlen, t, ht⟩, hh⟩
  refine ⟨⟨by simp [hlen], t ++ [e], by rw [ht, List.append_assoc]⟩, fun k b hb => ?_⟩
  by_cases hk : k < S.length
  · rw [List.getElem?_append_left hk] at hb
    obtain ⟨y, h3, h4⟩ := h.2 k b hb
    exact ⟨y, by rw [List.getElem?_append_left (by rw [hlen]; exact hk)]; exact h3, h4⟩
  · have hl : k < (S ++ [(lo, hi)]).length := (List.getElem?_eq_some_iff.mp hb).1
    have he : k = S.length := by simp at hl; omega
    subst he
    rw [List.getElem?_append_right (Nat.le_refl _), Nat.sub_self] at hb
    cases hb
    exact ⟨e, by rw [← hlen, List.getElem?_append_right (Nat.le_refl _), Nat.sub_self]; rfl, h1, h2⟩
/-- the bounds of an abstract int -/
def ab (S : Sto) (a : AV) : Option (Int × Int) := match S[a.2.1]? with
  | some b => some (b.1 + a.2.2.1, b.2 + a.2.2.1)
  | none => none
theorem ab_ok {r0 : List Int} {rho : List Int} {S : Sto} {x : Int32} {a : AV} {b : Int × Int} (hs : gs r0 rho S) (h : gv rho (.int x) a) (hb : ab S a = some b) : b.1 ≤ x.toInt ∧ x.toInt ≤ b.2 := by
  obtain ⟨-, e, h2, h3⟩ := h
  unfold ab at hb
  cases hk : S[a.2.1]? with
  | none => rw [hk] at hb; cases hb
  | some c =>
    rw [hk] at hb
    cases hb
    obtain ⟨y, h4, h5, h6⟩ := hs.2 _ c hk
    cases h2.symm.trans h4
    show c.1 + a.2.2.1 ≤ x.toInt ∧ x.toInt ≤ c.2 + a.2.2.1
    omega
/-- a symbol's bounds made narrower -/
def nar (S : Sto) (s : Nat) (lo hi : Int) : Sto := S.modify s (fun b => (max b.1 lo, min b.2 hi))
theorem gs_nar {r0 : List Int} {rho : List Int} {S : Sto} {s : Nat} {lo hi e : Int} (h : gs r0 rho S) (he : rho[s]? = some e) (h1 : lo ≤ e) (h2 : e ≤ hi) : gs r0 rho (nar S s lo hi) := by
  refine ⟨⟨by simp [nar, h.1.1], h.1.2⟩, fun k b hb => ?_⟩
  unfold nar at hb
  rw [List.getElem?_modify] at hb
  cases hk : S[k]? with
  | none => rw [hk] at hb; cases hb
  | some c =>
    rw [hk] at hb
    obtain ⟨y, h3, h4, h5⟩ := h.2 k c hk
    by_cases hsk : s = k
    · subst hsk
      cases h3.symm.trans he
      simp at hb
      subst hb
      exact ⟨_, h3, by simp; omega, by simp; omega⟩
    · simp [hsk] at hb
      subst hb
      exact ⟨y, h3, h4, h5⟩
/-- values in a row -/
def gl (rho : List Int) : List Value → List AV → Prop
  | [], [] => True
  | v :: t, a :: u => gv rho v a ∧ gl rho t u
  | _, _ => False
/-- locals, in the same order -/
def gm (rho : List Int) : Ls → List (Nat × AV) → Prop
  | [], [] => True
  | x :: t, y :: u => x.1 = y.1 ∧ gv rho x.2 y.2 ∧ gm rho t u
  | _, _ => False
theorem gl_app {rho : List Int} {e : Int} : ∀ {vs : List Value} {as : List AV}, gl rho vs as → gl (rho ++ [e]) vs as
  | [], [], _ => trivial
  | _ :: _, _ :: _, h => ⟨gv_app h.1, gl_app h.2⟩
  | [], _ :: _, h => h.elim
  | _ :: _, [], h => h.elim
theorem gm_app {rho : List Int} {e : Int} : ∀ {ls : Ls} {al : List (Nat × AV)}, gm rho ls al → gm (rho ++ [e]) ls al
  | [], [], _ => trivial
  | _ :: _, _ :: _, h => ⟨h.1, gv_app h.2.1, gm_app h.2.2⟩
  | [], _ :: _, h => h.elim
  | _ :: _, [], h => h.elim
def acat (a : AV) : Nat := cond (Nat.beq a.1 1) 2 1
theorem gv_cat {rho : List Int} {v : Value} {a : AV} (h : gv rho v a) : v.category = acat a := by
  cases v with
  | int x => have h1 := h.1; unfold acat; rw [h1]; rfl
  | long x => have h1 : a.1 = 1 := h; unfold acat; rw [h1]; rfl
  | ref n => have h1 := h.1; unfold acat; rw [h1]; rfl
  | _ => exact h.elim
def ag : List (Nat × AV) → Nat → Option AV
  | [], _ => none
  | x :: t, i => cond (Nat.beq x.1 i) (some x.2) (ag t i)
theorem gm_lg {rho : List Int} {i : Nat} {a : AV} : ∀ {ls : Ls} {al : List (Nat × AV)}, gm rho ls al → ag al i = some a → ∃ v, lg ls i = some v ∧ gv rho v a
  | [], [], _, h => by cases h
  | [], _ :: _, h, _ => h.elim
  | _ :: _, [], h, _ => h.elim
  | x :: t, y :: u, h, ha => by
    unfold ag at ha
    unfold lg
    rw [h.1]
    cases hb : Nat.beq y.1 i with
    | true =>
      rw [hb] at ha
      have e : y.2 = a := Option.some.inj ha
      exact ⟨x.2, rfl, by rw [← e]; exact h.2.1⟩
    | false =>
      rw [hb] at ha
      exact gm_lg h.2.2 ha
def alf (i : Nat) (two : Bool) (q : Nat × AV) : Bool := !(Nat.beq q.1 i) && (!(Nat.beq (q.1 + 1) i && Nat.beq (acat q.2) 2) && !(two && Nat.beq q.1 (i + 1)))
def ali : List (Nat × AV) → Nat → AV → List (Nat × AV)
  | [], i, v => [(i, v)]
  | x :: t, i, v => cond (Nat.ble x.1 i) (x :: ali t i v) ((i, v) :: x :: t)
def alp (al : List (Nat × AV)) (i : Nat) (a : AV) : List (Nat × AV) := ali (al.filter (alf i (Nat.beq (acat a) 2))) i a
theorem gm_filter {rho : List Int} {i : Nat} {two : Bool} : ∀ {ls : Ls} {al : List (Nat × AV)}, gm rho ls al → gm rho (ls.filter (lf i two)) (al.filter (alf i two))
  | [], [], _ => trivial
  | [], _ :: _, h => h.elim
  | _ :: _, [], h => h.elim
  | x :: t, y :: u, h => by
    have e : lf i two x = alf i two y := by
      unfold lf alf
      rw [h.1, gv_cat h.2.1]
    rw [List.filter_cons, List.filter_cons, e]
    cases alf i two y with
    | true => exact ⟨h.1, h.2.1, gm_filter h.2.2⟩
    | false => exact gm_filter h.2.2
theorem gm_li {rho : List Int} {i : Nat} {v : Value} {a : AV} (hv : gv rho v a) : ∀ {ls : Ls} {al : List (Nat × AV)}, gm rho ls al → gm rho (li ls i v) (ali al i a)
  | [], [], _ => ⟨rfl, hv, trivial⟩
  | [], _ :: _, h => h.elim
  | _ :: _, [], h => h.elim
  | x :: t, y :: u, h => by
    unfold li ali
    rw [h.1]
    cases Nat.ble y.1 i with
    | true => exact ⟨h.1, h.2.1, gm_li hv h.2.2⟩
    | false => exact ⟨rfl, hv, h⟩
theorem gm_lp {rho : List Int} {i : Nat} {v : Value} {a : AV} {ls : Ls} {al : List (Nat × AV)} (hv : gv rho v a) (h : gm rho ls al) : gm rho (lp ls i v) (alp al i a) := by
  unfold lp alp
  rw [gv_cat hv]
  exact gm_li hv (gm_filter h)
