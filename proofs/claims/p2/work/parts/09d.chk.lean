/-! the checker's steps: codes of operations, what they do to a state, and that it is so -/
abbrev Cd : Type := Nat × Nat × Nat × Nat × Int
def cmpS (r : Nat × Bool) (A : ASt) (x y : AV) (sk : List AV) : Option ASt := cond r.2 (cmp r.1 A y x sk) (cmp r.1 A x y sk)
theorem cmpS_ok {r0 : List Int} {r : Nat × Bool} {rho : List Int} {ls : Ls} {st st' : List Value} {A A' : ASt} {x y : AV} {sk : List AV} {a b : Int32} (h : gA r0 rho ls st A) (hx : gv rho (.int a) x) (hy : gv rho (.int b) y) (hk : gl rho st' sk) (hr : relS r a.toInt b.toInt) (he : cmpS r A x y sk = some A') : gX r0 ls st' A' ∧ ded A'.2.2 = false := by
  unfold cmpS at he
  unfold relS at hr
  cases hb : r.2 with
  | true => rw [hb] at he hr; exact cmp_ok h hy hx hk hr he
  | false => rw [hb] at he hr; exact cmp_ok h hx hy hk hr he
/-- the ways on behind a state, none where no run comes -/
def on1 (pc : Nat) (A : ASt) : List (Nat × ASt) := cond (ded A.2.2) [] [(pc, A)]
def two (pc t k : Nat) (A : ASt) (x y : AV) (sk : List AV) : Option (List (Nat × ASt)) := match cmpS (cpR k).1 A x y sk, cmpS (cpR k).2 A x y sk with
  | some T, some F => some (on1 t T ++ on1 (pc + 3) F)
  | _, _ => none
def cop (pc : Nat) (c : Cd) : OP := match c.1 with
  | 0 => oIc pc c.2.1 (Int32.ofInt c.2.2.2.2)
  | 1 => oIl pc c.2.1 c.2.2.1
  | 2 => oIs pc c.2.1 c.2.2.1
  | 3 => oInc pc c.2.1 (Int32.ofInt c.2.2.2.2)
  | 4 => o2 pc (fun x y => x + y)
  | 5 => oGo c.2.1
  | 6 => oIf pc c.2.1 (fun x => cpP c.2.2.1 x 0) (fun x => cpN c.2.2.1 x 0)
  | 7 => oCm pc c.2.1 (cpP c.2.2.1) (cpN c.2.2.1)
  | _ => fun _ _ _ _ _ => False
def astep (pc : Nat) (c : Cd) (A : ASt) : Option (List (Nat × ASt)) := match c.1 with
  | 0 => some [(pc + c.2.1, (A.1, cst (Int32.ofInt c.2.2.2.2).toInt :: A.2.1, A.2.2))]
  | 1 => match ag A.1 c.2.2.1 with
    | some a => cond (Nat.beq a.1 0) (some [(pc + c.2.1, (A.1, a :: A.2.1, A.2.2))]) none
    | none => none
  | 2 => match A.2.1 with
    | a :: sk => cond (Nat.beq a.1 0) (some [(pc + c.2.1, (alp A.1 c.2.2.1 a, sk, A.2.2))]) none
    | [] => none
  | 3 => match ag A.1 c.2.1 with
    | some a => cond (Nat.beq a.1 0) (match aAdd A a (cst (Int32.ofInt c.2.2.2.2).toInt) A.2.1 with
      | some (al, v :: sk, S) => some [(pc + 3, (alp al c.2.1 v, sk, S))]
      | _ => none) none
    | none => none
  | 4 => match A.2.1 with
    | y :: x :: sk => cond (Nat.beq y.1 0 && Nat.beq x.1 0) (match aAdd A x y sk with
      | some B => some [(pc + 1, B)]
      | none => none) none
    | _ => none
  | 5 => some [(c.2.1, A)]
  | 6 => match A.2.1 with
    | x :: sk => cond (Nat.beq x.1 0) (two pc c.2.1 c.2.2.1 A x (cst 0) sk) none
    | _ => none
  | 7 => match A.2.1 with
    | y :: x :: sk => cond (Nat.beq y.1 0 && Nat.beq x.1 0) (two pc c.2.1 c.2.2.1 A x y sk) none
    | _ => none
  | _ => none
theorem condN {α : Type} {c : Bool} {x : Option α} {y : α} (h : cond c x none = some y) : c = true ∧ x = some y := by
  cases c with
  | true => exact ⟨rfl, h⟩
  | false => cases h
theorem gv_int {rho : List Int} {v : Value} {a : AV} (h : gv rho v a) (h0 : Nat.beq a.1 0 = true) : ∃ x, v = .int x := by
  have e : a.1 = 0 := Nat.eq_of_beq_eq_true h0
  cases v with
  | int x => exact ⟨x, rfl⟩
  | long x => have h1 : a.1 = 1 := h; omega
  | ref n => have h1 := h.1; omega
  | _ => exact h.elim
theorem gl_1 {rho : List Int} {st : List Value} {a : AV} {sk : List AV} (h : gl rho st (a :: sk)) : ∃ v t, st = v :: t ∧ gv rho v a ∧ gl rho t sk := by
  cases st with
  | nil => exact h.elim
  | cons v t => exact ⟨v, t, rfl, h.1, h.2⟩
theorem two_ok {r0 : List Int} {pc t k : Nat} {rho : List Int} {ls : Ls} {st st' : List Value} {A : ASt} {x y : AV} {sk : List AV} {a b : Int32} {L : List (Nat × ASt)} {M : Mm} {kn : KN} (h : gA r0 rho ls st A) (hx : gv rho (.int a) x) (hy : gv rho (.int b) y) (hk : gl rho st' sk) (he : two pc t k A x y sk = some L) (hn : ∀ z ∈ L, ∀ ls' st2, gX r0 ls' st2 z.2 → kn z.1 ls' st2 M) : (cpP k a b → kn t ls st' M) ∧ (cpN k a b → kn (pc + 3) ls st' M) := by
  unfold two at he
  cases hT : cmpS (cpR k).1 A x y sk with
  | none => rw [hT] at he; cases he
  | some T =>
    cases hF : cmpS (cpR k).2 A x y sk with
    | none => rw [hT, hF] at he; cases he
    | some F =>
      rw [hT, hF] at he
      cases he
      refine ⟨fun hp => ?_, fun hp => ?_⟩
      · obtain ⟨h1, h2⟩ := cmpS_ok h hx hy hk (cp_p hp) hT
        exact hn (t, T) (List.mem_append_left _ (by unfold on1; rw [h2]; exact List.mem_singleton.mpr rfl)) _ _ h1
      · obtain ⟨h1, h2⟩ := cmpS_ok h hx hy hk (cp_n hp) hF
        exact hn (pc + 3, F) (List.mem_append_right _ (by unfold on1; rw [h2]; exact List.mem_singleton.mpr rfl)) _ _ h1
theorem astep_ok {r0 : List Int} {pc : Nat} {c : Cd} {A : ASt} {L : List (Nat × ASt)} {ls : Ls} {st : List Value} {M : Mm} {kn : KN} {kr : KR} (he : astep pc c A = some L) (h : gX r0 ls st A) (hn : ∀ z ∈ L, ∀ ls' st', gX r0 ls' st' z.2 → kn z.1 ls' st' M) : cop pc c kn kr ls st M := by
  obtain ⟨rho, hg⟩ := h
  obtain ⟨ck, c1, c2, c3, cv⟩ := c
  match ck with
  | 0 =>
    cases he
    exact hn _ (List.mem_singleton.mpr rfl) _ _ ⟨rho, gA_iconst hg⟩
  | 1 =>
    have he : (match ag A.1 c2 with
      | some a => cond (Nat.beq a.1 0) (some [(pc + c1, (A.1, a :: A.2.1, A.2.2))]) none
      | none => none) = some L := he
    show oIl pc c1 c2 kn kr ls st M
    cases ha : ag A.1 c2 with
    | none => rw [ha] at he; cases he
    | some a =>
      rw [ha] at he
      obtain ⟨h0, he⟩ := condN he
      cases he
      obtain ⟨v, hv, hva⟩ := gm_lg hg.2.2.1 ha
      obtain ⟨x, rfl⟩ := gv_int hva h0
      simp only [oIl, hv]
      exact hn _ (List.mem_singleton.mpr rfl) _ _ ⟨rho, hg.1, hg.2.1, hg.2.2.1, hva, hg.2.2.2⟩
  | 2 =>
    have he : (match A.2.1 with
      | a :: sk => cond (Nat.beq a.1 0) (some [(pc + c1, (alp A.1 c2 a, sk, A.2.2))]) none
      | [] => none) = some L := he
    show oIs pc c1 c2 kn kr ls st M
    cases hs : A.2.1 with
    | nil => rw [hs] at he; cases he
    | cons a sk =>
      rw [hs] at he
      obtain ⟨h0, he⟩ := condN he
      cases he
      have hl := hg.2.2.2
      rw [hs] at hl
      obtain ⟨v, t, rfl, hva, hl2⟩ := gl_1 hl
      obtain ⟨x, rfl⟩ := gv_int hva h0
      exact hn _ (List.mem_singleton.mpr rfl) _ _ ⟨rho, hg.1, hg.2.1, gm_lp hva hg.2.2.1, hl2⟩
  | 3 =>
    have he : (match ag A.1 c1 with
      | some a => cond (Nat.beq a.1 0) (match aAdd A a (cst (Int32.ofInt cv).toInt) A.2.1 with
        | some (al, v :: sk, S) => some [(pc + 3, (alp al c1 v, sk, S))]
        | _ => none) none
      | none => none) = some L := he
    show oInc pc c1 (Int32.ofInt cv) kn kr ls st M
    cases ha : ag A.1 c1 with
    | none => rw [ha] at he; cases he
    | some a =>
      rw [ha] at he
      obtain ⟨h0, he⟩ := condN he
      obtain ⟨v, hv, hva⟩ := gm_lg hg.2.2.1 ha
      obtain ⟨x, rfl⟩ := gv_int hva h0
      simp only [oInc, hv]
      split at he
      · rename_i al w sk S hadd
        cases he
        obtain ⟨rho2, g1, g2, g3, g4⟩ := aAdd_ok (b := Int32.ofInt cv) hg hva (gA_iconst (v := Int32.ofInt cv) hg).2.2.2.1 hg.2.2.2 hadd
        exact hn _ (List.mem_singleton.mpr rfl) _ _ ⟨rho2, g1, g2, gm_lp g4.1 g3, g4.2⟩
      · cases he
  | 4 =>
    have he : (match A.2.1 with
      | y :: x :: sk => cond (Nat.beq y.1 0 && Nat.beq x.1 0) (match aAdd A x y sk with
        | some B => some [(pc + 1, B)]
        | none => none) none
      | _ => none) = some L := he
    show o2 pc (fun x y => x + y) kn kr ls st M
    split at he
    · rename_i y x sk hs
      obtain ⟨h0, he⟩ := condN he
      obtain ⟨hy0, hx0⟩ := Bool.and_eq_true_iff.mp h0
      have hl := hg.2.2.2
      rw [hs] at hl
      obtain ⟨v, t, rfl, hva, hl2⟩ := gl_1 hl
      obtain ⟨w, t, rfl, hwa, hl3⟩ := gl_1 hl2
      obtain ⟨b, rfl⟩ := gv_int hva hy0
      obtain ⟨a, rfl⟩ := gv_int hwa hx0
      split at he
      · rename_i B hB
        cases he
        exact hn _ (List.mem_singleton.mpr rfl) _ _ (aAdd_ok hg hwa hva hl3 hB)
      · cases he
    · cases he
  | 5 =>
    cases he
    exact hn _ (List.mem_singleton.mpr rfl) _ _ ⟨rho, hg⟩
  | 6 =>
    have he : (match A.2.1 with
      | x :: sk => cond (Nat.beq x.1 0) (two pc c1 c2 A x (cst 0) sk) none
      | _ => none) = some L := he
    show oIf pc c1 (fun x => cpP c2 x 0) (fun x => cpN c2 x 0) kn kr ls st M
    split at he
    · rename_i x sk hs
      obtain ⟨h0, he⟩ := condN he
      have hl := hg.2.2.2
      rw [hs] at hl
      obtain ⟨v, t, rfl, hva, hl2⟩ := gl_1 hl
      obtain ⟨a, rfl⟩ := gv_int hva h0
      exact two_ok (b := 0) hg hva (gA_iconst (v := 0) hg).2.2.2.1 hl2 he hn
    · cases he
  | 7 =>
    have he : (match A.2.1 with
      | y :: x :: sk => cond (Nat.beq y.1 0 && Nat.beq x.1 0) (two pc c1 c2 A x y sk) none
      | _ => none) = some L := he
    show oCm pc c1 (cpP c2) (cpN c2) kn kr ls st M
    split at he
    · rename_i y x sk hs
      obtain ⟨h0, he⟩ := condN he
      obtain ⟨hy0, hx0⟩ := Bool.and_eq_true_iff.mp h0
      have hl := hg.2.2.2
      rw [hs] at hl
      obtain ⟨v, t, rfl, hva, hl2⟩ := gl_1 hl
      obtain ⟨w, t, rfl, hwa, hl3⟩ := gl_1 hl2
      obtain ⟨b, rfl⟩ := gv_int hva hy0
      obtain ⟨a, rfl⟩ := gv_int hwa hx0
      exact two_ok hg hwa hva hl3 he hn
    · cases he
  | k + 8 => cases he
