/-! what a comparison tells -/
def relH (r : Nat) (x y : Int) : Prop := match r with
  | 0 => x = y
  | 1 => x ≠ y
  | 2 => x < y
  | _ => x ≤ y
/-- bounds of both sides behind it -/
def relB (r : Nat) (p q : Int × Int) : (Int × Int) × (Int × Int) := match r with
  | 0 => (q, p)
  | 1 => (if q.1 = q.2 ∧ p.1 = q.1 then (p.1 + 1, iHi) else if q.1 = q.2 ∧ p.2 = q.1 then (iLo, p.2 - 1) else (iLo, iHi), if p.1 = p.2 ∧ q.1 = p.1 then (q.1 + 1, iHi) else if p.1 = p.2 ∧ q.2 = p.1 then (iLo, q.2 - 1) else (iLo, iHi))
  | 2 => ((iLo, q.2 - 1), (p.1 + 1, iHi))
  | _ => ((iLo, q.2), (p.1, iHi))
theorem relN {p q : Int × Int} {x y : Int} (hx : p.1 ≤ x ∧ x ≤ p.2) (hy : q.1 ≤ y ∧ y ≤ q.2) (ix : iLo ≤ x ∧ x ≤ iHi) (h : x ≠ y) : (if q.1 = q.2 ∧ p.1 = q.1 then (p.1 + 1, iHi) else if q.1 = q.2 ∧ p.2 = q.1 then (iLo, p.2 - 1) else (iLo, iHi)).1 ≤ x ∧ x ≤ (if q.1 = q.2 ∧ p.1 = q.1 then (p.1 + 1, iHi) else if q.1 = q.2 ∧ p.2 = q.1 then (iLo, p.2 - 1) else (iLo, iHi)).2 := by
  split
  · show p.1 + 1 ≤ x ∧ x ≤ iHi
    omega
  · split
    · show iLo ≤ x ∧ x ≤ p.2 - 1
      omega
    · exact ix
theorem relB_ok {r : Nat} {p q : Int × Int} {x y : Int} (hx : p.1 ≤ x ∧ x ≤ p.2) (hy : q.1 ≤ y ∧ y ≤ q.2) (ix : iLo ≤ x ∧ x ≤ iHi) (iy : iLo ≤ y ∧ y ≤ iHi) (h : relH r x y) : ((relB r p q).1.1 ≤ x ∧ x ≤ (relB r p q).1.2) ∧ ((relB r p q).2.1 ≤ y ∧ y ≤ (relB r p q).2.2) := by
  match r with
  | 0 =>
    have h : x = y := h
    show (q.1 ≤ x ∧ x ≤ q.2) ∧ (p.1 ≤ y ∧ y ≤ p.2)
    omega
  | 1 => exact ⟨relN hx hy ix h, relN hy hx iy (fun e => (show x ≠ y from h) e.symm)⟩
  | 2 =>
    have h : x < y := h
    show (iLo ≤ x ∧ x ≤ q.2 - 1) ∧ (p.1 + 1 ≤ y ∧ y ≤ iHi)
    omega
  | r + 3 =>
    have h : x ≤ y := h
    show (iLo ≤ x ∧ x ≤ q.2) ∧ (p.1 ≤ y ∧ y ≤ iHi)
    omega
def rfn (S : Sto) (a : AV) (b : Int × Int) : Sto := nar S a.2.1 (b.1 - a.2.2.1) (b.2 - a.2.2.1)
theorem rfn_ok {r0 : List Int} {rho : List Int} {S : Sto} {x : Int32} {a : AV} {b : Int × Int} (h : gs r0 rho S) (hx : gv rho (.int x) a) (h1 : b.1 ≤ x.toInt) (h2 : x.toInt ≤ b.2) : gs r0 rho (rfn S a b) := by
  obtain ⟨-, e, he, he2⟩ := hx
  exact gs_nar h he (by omega) (by omega)
/-- a symbol without a value: no run comes here -/
def ded (S : Sto) : Bool := S.any (fun b => decide (b.2 < b.1))
theorem ded_ok {r0 : List Int} {rho : List Int} {S : Sto} (h : gs r0 rho S) : ded S = false := by
  cases hd : ded S with
  | false => rfl
  | true =>
    obtain ⟨b, hb, h2⟩ := List.any_eq_true.mp hd
    obtain ⟨k, hk⟩ := List.getElem?_of_mem hb
    obtain ⟨e, -, h3, h4⟩ := h.2 k b hk
    have h5 : b.2 < b.1 := of_decide_eq_true h2
    omega
/-- the ways on behind a state, none where no run comes -/
def on1 (pc : Nat) (A : ASt) : List (Nat × ASt) := cond (ded A.2.2.1) [] [(pc, A)]
theorem on1_in {pc : Nat} {A : ASt} {av : List Value} {r0 : List Int} {M : Mm} {ls : Ls} {st : List Value} (h : gX av r0 M ls st A) : (pc, A) ∈ on1 pc A := by
  obtain ⟨rho, h⟩ := h
  unfold on1
  rw [ded_ok h.1]
  exact List.mem_singleton.mpr rfl
/-- the state behind a comparison of two abstract ints -/
def cmp (r : Nat) (A : ASt) (x y : AV) (sk : List AV) : Option ASt := match ab A.2.2.1 x, ab A.2.2.1 y with
  | some p, some q => some (A.1, sk, rfn (rfn A.2.2.1 x (relB r p q).1) y (relB r p q).2, A.2.2.2)
  | _, _ => none
theorem cmp_ok {av : List Value} {r0 : List Int} {r : Nat} {rho : List Int} {M : Mm} {ls : Ls} {st st' : List Value} {A A' : ASt} {x y : AV} {sk : List AV} {a b : Int32} (h : gA av r0 rho M ls st A) (hx : gv rho (.int a) x) (hy : gv rho (.int b) y) (hk : gl rho st' sk) (hr : relH r a.toInt b.toInt) (he : cmp r A x y sk = some A') : gX av r0 M ls st' A' := by
  unfold cmp at he
  cases hp : ab A.2.2.1 x with
  | none => rw [hp] at he; cases he
  | some p =>
    cases hq : ab A.2.2.1 y with
    | none => rw [hp, hq] at he; cases he
    | some q =>
      rw [hp, hq] at he
      cases he
      have hb := relB_ok (ab_ok h.1 hx hp) (ab_ok h.1 hy hq) ⟨i32_lo a, i32_hi a⟩ ⟨i32_lo b, i32_hi b⟩ hr
      have hs := rfn_ok (rfn_ok h.1 hx hb.1.1 hb.1.2) hy hb.2.1 hb.2.2
      exact ⟨rho, hs, h.2.1, h.2.2.1, hk, h.2.2.2.2⟩
/-- the conditions of the tables, by number; what holds where they hold, where they don't -/
def cpP (k : Nat) : Int32 → Int32 → Prop := match k with
  | 0 => fun x y => x = y
  | 1 => fun x y => ¬ x = y
  | 2 => fun x y => x < y
  | 3 => fun x y => y ≤ x
  | 4 => fun x y => y < x
  | _ => fun x y => x ≤ y
def cpN (k : Nat) : Int32 → Int32 → Prop := match k with
  | 0 => fun x y => ¬ x = y
  | 1 => fun x y => x = y
  | 2 => fun x y => ¬ x < y
  | 3 => fun x y => ¬ y ≤ x
  | 4 => fun x y => ¬ y < x
  | _ => fun x y => ¬ x ≤ y
/-- (relation, the other way round) -/
def cpR (k : Nat) : (Nat × Bool) × (Nat × Bool) := match k with
  | 0 => ((0, false), (1, false))
  | 1 => ((1, false), (0, false))
  | 2 => ((2, false), (3, true))
  | 3 => ((3, true), (2, false))
  | 4 => ((2, true), (3, false))
  | _ => ((3, false), (2, true))
def relS (r : Nat × Bool) (x y : Int) : Prop := cond r.2 (relH r.1 y x) (relH r.1 x y)
theorem cp_p {k : Nat} {x y : Int32} (h : cpP k x y) : relS (cpR k).1 x.toInt y.toInt := by
  match k with
  | 0 => exact congrArg Int32.toInt (show x = y from h)
  | 1 => exact fun e => (show ¬ x = y from h) (Int32.toInt_inj.mp e)
  | 2 => exact Int32.lt_iff_toInt_lt.mp (show x < y from h)
  | 3 => exact Int32.le_iff_toInt_le.mp (show y ≤ x from h)
  | 4 => exact Int32.lt_iff_toInt_lt.mp (show y < x from h)
  | k + 5 => exact Int32.le_iff_toInt_le.mp (show x ≤ y from h)
theorem cp_n {k : Nat} {x y : Int32} (h : cpN k x y) : relS (cpR k).2 x.toInt y.toInt := by
  match k with
  | 0 => exact fun e => (show ¬ x = y from h) (Int32.toInt_inj.mp e)
  | 1 => exact congrArg Int32.toInt (show x = y from h)
  | 2 => exact Int.not_lt.mp (fun z => (show ¬ x < y from h) (Int32.lt_iff_toInt_lt.mpr z))
  | 3 => exact Int.not_le.mp (fun z => (show ¬ y ≤ x from h) (Int32.le_iff_toInt_le.mpr z))
  | 4 => exact Int.not_lt.mp (fun z => (show ¬ y < x from h) (Int32.lt_iff_toInt_lt.mpr z))
  | k + 5 => exact Int.not_le.mp (fun z => (show ¬ x ≤ y from h) (Int32.le_iff_toInt_le.mpr z))
def cmpS (r : Nat × Bool) (A : ASt) (x y : AV) (sk : List AV) : Option ASt := cond r.2 (cmp r.1 A y x sk) (cmp r.1 A x y sk)
theorem cmpS_ok {av : List Value} {r0 : List Int} {r : Nat × Bool} {rho : List Int} {M : Mm} {ls : Ls} {st st' : List Value} {A A' : ASt} {x y : AV} {sk : List AV} {a b : Int32} (h : gA av r0 rho M ls st A) (hx : gv rho (.int a) x) (hy : gv rho (.int b) y) (hk : gl rho st' sk) (hr : relS r a.toInt b.toInt) (he : cmpS r A x y sk = some A') : gX av r0 M ls st' A' := by
  unfold cmpS at he
  unfold relS at hr
  cases hb : r.2 with
  | true => rw [hb] at he hr; exact cmp_ok h hy hx hk hr he
  | false => rw [hb] at he hr; exact cmp_ok h hx hy hk hr he
def two (pc t k : Nat) (A : ASt) (x y : AV) (sk : List AV) : Option (List (Nat × ASt)) := match cmpS (cpR k).1 A x y sk, cmpS (cpR k).2 A x y sk with
  | some T, some F => some (on1 t T ++ on1 (pc + 3) F)
  | _, _ => none
theorem two_ok {J : Mm → Prop} {av : List Value} {r0 : List Int} {pc t k : Nat} {rho : List Int} {ls : Ls} {st st' : List Value} {A : ASt} {x y : AV} {sk : List AV} {a b : Int32} {L : List (Nat × ASt)} {M : Mm} {kn : KN} (hJ : J M) (h : gA av r0 rho M ls st A) (hx : gv rho (.int a) x) (hy : gv rho (.int b) y) (hk : gl rho st' sk) (he : two pc t k A x y sk = some L) (hn : Nx J av r0 kn L) : (cpP k a b → kn t ls st' M) ∧ (cpN k a b → kn (pc + 3) ls st' M) := by
  unfold two at he
  cases hT : cmpS (cpR k).1 A x y sk with
  | none => rw [hT] at he; cases he
  | some T =>
    cases hF : cmpS (cpR k).2 A x y sk with
    | none => rw [hT, hF] at he; cases he
    | some F =>
      rw [hT, hF] at he
      cases he
      refine ⟨fun hp => ?_, fun hp => ?_⟩
      · have h1 := cmpS_ok h hx hy hk (cp_p hp) hT
        exact hn (t, T) (List.mem_append_left _ (on1_in h1)) _ _ _ hJ h1
      · have h1 := cmpS_ok h hx hy hk (cp_n hp) hF
        exact hn (pc + 3, F) (List.mem_append_right _ (on1_in h1)) _ _ _ hJ h1
