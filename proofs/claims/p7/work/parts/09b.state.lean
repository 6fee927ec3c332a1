/-! the checker's states: locals (from 1000 on: the method's arguments as they came), stack, store, what is known of places of the memory -/
abbrev ASt : Type := List (Nat × AV) × List AV × Sto × List (Nat × Nat × AV)
def lz (av : List Value) (ls : Ls) (i : Nat) : Option Value := cond (Nat.blt i 999) (lg ls i) (av[i - 1000]?)
def cvl (M : Mm) (n k t : Nat) : Value := cond (Nat.beq t 2) (.ref (mR M n k)) (cond (Nat.beq t 1) (.long (mL M n k)) (.int (mI M n k)))
def gm (av : List Value) (rho : List Int) (ls : Ls) (al : List (Nat × AV)) : Prop := ∀ x ∈ al, ∃ v, lz av ls x.1 = some v ∧ gv rho v x.2
def gC (rho : List Int) (M : Mm) (C : List (Nat × Nat × AV)) : Prop := ∀ e ∈ C, gv rho (cvl M e.1 e.2.1 e.2.2.1) e.2.2
def gA (av : List Value) (r0 rho : List Int) (M : Mm) (ls : Ls) (st : List Value) (A : ASt) : Prop := gs r0 rho A.2.2.1 ∧ rho[0]? = some 0 ∧ gm av rho ls A.1 ∧ gl rho st A.2.1 ∧ gC rho M A.2.2.2
/-- some symbols' values make it so -/
def gX (av : List Value) (r0 : List Int) (M : Mm) (ls : Ls) (st : List Value) (A : ASt) : Prop := ∃ rho, gA av r0 rho M ls st A
theorem gm_app {av : List Value} {rho : List Int} {ls : Ls} {al : List (Nat × AV)} {e : Int} (h : gm av rho ls al) : gm av (rho ++ [e]) ls al := fun x hx => by
  obtain ⟨v, h1, h2⟩ := h x hx
  exact ⟨v, h1, gv_app h2⟩
theorem gC_app {rho : List Int} {M : Mm} {C : List (Nat × Nat × AV)} {e : Int} (h : gC rho M C) : gC (rho ++ [e]) M C := fun x hx => gv_app (h x hx)
theorem r0_app {rho : List Int} {e : Int} (h : rho[0]? = some 0) : (rho ++ [e])[0]? = some 0 := by
  rw [List.getElem?_append_left (List.getElem?_eq_some_iff.mp h).1]; exact h
def alf (i : Nat) (two : Bool) (q : Nat × AV) : Bool := !(Nat.beq q.1 i) && (!(Nat.beq (q.1 + 1) i && Nat.beq (acat q.2) 2) && !(two && Nat.beq q.1 (i + 1)))
def alp (al : List (Nat × AV)) (i : Nat) (a : AV) : List (Nat × AV) := (i, a) :: al.filter (alf i (Nat.beq (acat a) 2))
theorem gm_lp {av : List Value} {rho : List Int} {i : Nat} {v : Value} {a : AV} {ls : Ls} {al : List (Nat × AV)} (hi : Nat.blt i 999 = true) (hv : gv rho v a) (h : gm av rho ls al) : gm av rho (lp ls i v) (alp al i a) := by
  intro x hx
  rcases List.mem_cons.mp hx with e | hx
  · subst e
    refine ⟨v, ?_, hv⟩
    unfold lz
    rw [hi]
    exact lg_lp_eq
  · obtain ⟨h1, h2⟩ := List.mem_filter.mp hx
    obtain ⟨w, h3, h4⟩ := h x h1
    refine ⟨w, ?_, h4⟩
    unfold lz at h3 ⊢
    cases hb : Nat.blt x.1 999 with
    | false => rw [hb] at h3; exact h3
    | true =>
      rw [hb] at h3
      refine lg_lp_ne h3 ?_
      unfold lf
      unfold alf at h2
      rw [gv_cat hv, gv_cat h4]
      exact h2
theorem gm_lg {av : List Value} {rho : List Int} {ls : Ls} {al : List (Nat × AV)} {i : Nat} {a : AV} (hi : Nat.blt i 999 = true) (h : gm av rho ls al) (ha : ag al i = some a) : ∃ v, lg ls i = some v ∧ gv rho v a := by
  obtain ⟨v, h1, h2⟩ := h _ (ag_mem ha)
  unfold lz at h1
  rw [hi] at h1
  exact ⟨v, h1, h2⟩
theorem gA_stk {av : List Value} {r0 rho : List Int} {M : Mm} {ls : Ls} {st st' : List Value} {A : ASt} {sk : List AV} (h : gA av r0 rho M ls st A) (hk : gl rho st' sk) : gA av r0 rho M ls st' (A.1, sk, A.2.2) := ⟨h.1, h.2.1, h.2.2.1, hk, h.2.2.2.2⟩
theorem gA_app {av : List Value} {r0 rho : List Int} {M : Mm} {ls : Ls} {st : List Value} {A : ASt} {e lo hi : Int} (h : gA av r0 rho M ls st A) (h1 : lo ≤ e) (h2 : e ≤ hi) : gA av r0 (rho ++ [e]) M ls st (A.1, A.2.1, A.2.2.1 ++ [(lo, hi)], A.2.2.2) :=
  ⟨gs_app h.1 h1 h2, r0_app h.2.1, gm_app h.2.2.1, gl_app h.2.2.2.1, gC_app h.2.2.2.2⟩
theorem at_end {r0 rho : List Int} {S : Sto} {e : Int} (h : gs r0 rho S) : (rho ++ [e])[S.length]? = some e := by
  rw [← h.1.1, List.getElem?_append_right (Nat.le_refl _), Nat.sub_self]
  rfl
def cst (v : Int) : AV := (0, 0, v, [])
theorem gv_cst {rho : List Int} {v : Int32} (h : rho[0]? = some 0) : gv rho (.int v) (cst v.toInt) := ⟨rfl, 0, h, by show v.toInt = 0 + v.toInt; omega⟩
/-- a new symbol -/
def fsh (A : ASt) (t : Nat) (sk : List AV) (lo hi : Int) : ASt := (A.1, (t, A.2.2.1.length, 0, []) :: sk, A.2.2.1 ++ [(lo, hi)], A.2.2.2)
theorem gA_fresh {av : List Value} {r0 rho : List Int} {M : Mm} {ls : Ls} {st st' : List Value} {A : ASt} {sk : List AV} {x : Int32} {lo hi : Int} (h : gA av r0 rho M ls st A) (hk : gl rho st' sk) (h1 : lo ≤ x.toInt) (h2 : x.toInt ≤ hi) : gX av r0 M ls (.int x :: st') (fsh A 0 sk lo hi) :=
  ⟨rho ++ [x.toInt], gA_stk (gA_app h h1 h2) ⟨⟨rfl, x.toInt, at_end h.1, by show x.toInt = x.toInt + 0; omega⟩, gl_app hk⟩⟩
theorem gA_freshL {av : List Value} {r0 rho : List Int} {M : Mm} {ls : Ls} {st st' : List Value} {A : ASt} {sk : List AV} {x : Int64} {lo hi : Int} (h : gA av r0 rho M ls st A) (hk : gl rho st' sk) (h1 : lo ≤ x.toInt) (h2 : x.toInt ≤ hi) : gX av r0 M ls (.long x :: st') (fsh A 1 sk lo hi) :=
  ⟨rho ++ [x.toInt], gA_stk (gA_app h h1 h2) ⟨⟨rfl, x.toInt, at_end h.1, by show x.toInt = x.toInt + 0; omega⟩, gl_app hk⟩⟩
/-- the ways on: whatever holds of a state's memory, locals and stack leads on -/
def Nx (J : Mm → Prop) (av : List Value) (r0 : List Int) (kn : KN) (L : List (Nat × ASt)) : Prop := ∀ z ∈ L, ∀ ls st M, J M → gX av r0 M ls st z.2 → kn z.1 ls st M
/-- an operation leads from a state to the states of a list -/
def Sd (J : Mm → Prop) (av : List Value) (r0 : List Int) (kr : KR) (o : OP) (A : ASt) (L : List (Nat × ASt)) : Prop := ∀ ls st M kn, J M → gX av r0 M ls st A → Nx J av r0 kn L → o kn kr ls st M
theorem Nx.one {J : Mm → Prop} {av : List Value} {r0 : List Int} {kn : KN} {pc : Nat} {B : ASt} {ls : Ls} {st : List Value} {M : Mm} (h : Nx J av r0 kn [(pc, B)]) (hJ : J M) (hg : gX av r0 M ls st B) : kn pc ls st M := h (pc, B) (List.mem_singleton.mpr rfl) ls st M hJ hg
theorem condN {α : Type} {c : Bool} {x : Option α} {y : α} (h : cond c x none = some y) : c = true ∧ x = some y := by
  cases c with
  | true => exact ⟨rfl, h⟩
  | false => cases h
theorem andT {a b : Bool} (h : (a && b) = true) : a = true ∧ b = true := Bool.and_eq_true_iff.mp h
def iLo : Int := -2147483648
def iHi : Int := 2147483647
def lLo : Int := -9223372036854775808
def lHi : Int := 9223372036854775807
theorem i32_lo (x : Int32) : iLo ≤ x.toInt := x.le_toInt
theorem i32_hi (x : Int32) : x.toInt ≤ iHi := by have := x.toInt_lt; unfold iHi; omega
theorem i64_lo (x : Int64) : lLo ≤ x.toInt := x.le_toInt
theorem i64_hi (x : Int64) : x.toInt ≤ lHi := by have := x.toInt_lt; unfold lHi; omega
theorem bm {z : Int} (h1 : iLo ≤ z) (h2 : z ≤ iHi) : z.bmod (2 ^ 32) = z := by
  unfold iLo at h1
  unfold iHi at h2
  exact Int.bmod_eq_of_le (by omega) (by omega)
theorem add_i {x y : Int32} (h1 : iLo ≤ x.toInt + y.toInt) (h2 : x.toInt + y.toInt ≤ iHi) : (x + y).toInt = x.toInt + y.toInt := by
  rw [Int32.toInt_add]
  exact bm h1 h2
theorem sub_i {x y : Int32} (h1 : iLo ≤ x.toInt - y.toInt) (h2 : x.toInt - y.toInt ≤ iHi) : (x - y).toInt = x.toInt - y.toInt := by
  rw [Int32.toInt_sub]
  exact bm h1 h2
theorem mul_i {x y : Int32} (h1 : iLo ≤ x.toInt * y.toInt) (h2 : x.toInt * y.toInt ≤ iHi) : (x * y).toInt = x.toInt * y.toInt := by
  rw [Int32.toInt_mul]
  exact bm h1 h2
