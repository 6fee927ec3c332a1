/-! the checker's states and its steps over numbers -/
/-- locals, stack, store -/
abbrev ASt : Type := List (Nat × AV) × List AV × Sto
def gA (r0 rho : List Int) (ls : Ls) (st : List Value) (A : ASt) : Prop := gs r0 rho A.2.2 ∧ rho[0]? = some 0 ∧ gm rho ls A.1 ∧ gl rho st A.2.1
/-- some symbols' values make it so -/
def gX (r0 : List Int) (ls : Ls) (st : List Value) (A : ASt) : Prop := ∃ rho, gA r0 rho ls st A
def cst (v : Int) : AV := (0, 0, v, [])
theorem gA_iconst {r0 : List Int} {rho : List Int} {ls : Ls} {st : List Value} {A : ASt} {v : Int32} (h : gA r0 rho ls st A) : gA r0 rho ls (.int v :: st) (A.1, cst v.toInt :: A.2.1, A.2.2) :=
  ⟨h.1, h.2.1, h.2.2.1, ⟨rfl, 0, h.2.1, by show v.toInt = 0 + v.toInt; omega⟩, h.2.2.2⟩
/-- a new symbol -/
def fsh (A : ASt) (sk : List AV) (lo hi : Int) : ASt := (A.1, (0, A.2.2.length, 0, []) :: sk, A.2.2 ++ [(lo, hi)])
theorem gA_fresh {r0 : List Int} {rho : List Int} {ls : Ls} {st st' : List Value} {A : ASt} {sk : List AV} {x : Int32} {lo hi : Int} (h : gA r0 rho ls st A) (hk : gl rho st' sk) (h1 : lo ≤ x.toInt) (h2 : x.toInt ≤ hi) : gX r0 ls (.int x :: st') (fsh A sk lo hi) := by
  refine ⟨rho ++ [x.toInt], gs_app h.1 h1 h2, ?_, gm_app h.2.2.1, ⟨rfl, x.toInt, ?_, by show x.toInt = x.toInt + 0; omega⟩, gl_app hk⟩
  · rw [List.getElem?_append_left (List.getElem?_eq_some_iff.mp h.2.1).1]; exact h.2.1
  · show (rho ++ [x.toInt])[A.2.2.length]? = some x.toInt
    rw [← h.1.1.1, List.getElem?_append_right (Nat.le_refl _), Nat.sub_self]
    rfl
def iLo : Int := -2147483648
def iHi : Int := 2147483647
theorem i32_lo (x : Int32) : iLo ≤ x.toInt := x.le_toInt
theorem i32_hi (x : Int32) : x.toInt ≤ iHi := by have := x.toInt_lt; unfold iHi; omega
theorem bm {z : Int} (h1 : iLo ≤ z) (h2 : z ≤ iHi) : z.bmod (2 ^ 32) = z := by
  unfold iLo at h1
  unfold iHi at h2
  exact Int.bmod_eq_of_le (by omega) (by omega)
theorem add_i {x y : Int32} (h1 : iLo ≤ x.toInt + y.toInt) (h2 : x.toInt + y.toInt ≤ iHi) : (x + y).toInt = x.toInt + y.toInt := by
  rw [Int32.toInt_add]
  exact bm h1 h2
theorem sub_i {x y : Int32} (h1 : iLo ≤ x.toInt - y.toInt) (h2 : x.toInt - y.toInt ≤ iHi) : (x - y).toInt = x.toInt - y.toInt := by
  rw [Int32.toInt_sub]
  exact bm h1 h2
theorem mul_i {x y : Int32} (h1 : iLo ≤ x.toInt * y.toInt) (h2 : x.toInt * y.toInt ≤ iHi) : (x * y).toInt = x.toInt * y.toInt := by
  rw [Int32.toInt_mul]
  exact bm h1 h2
/-- bounds within the ints, or all ints -/
def wid (lo hi : Int) : Int × Int := if iLo ≤ lo ∧ hi ≤ iHi then (lo, hi) else (iLo, iHi)
/-- the sum: with a number known, the same symbol; else a new one -/
def aAdd (A : ASt) (x y : AV) (sk : List AV) : Option ASt := match ab A.2.2 x, ab A.2.2 y with
  | some p, some q =>
    if iLo ≤ p.1 + q.1 ∧ p.2 + q.2 ≤ iHi then
      if y.2.1 = 0 then some (A.1, (0, x.2.1, x.2.2.1 + y.2.2.1, []) :: sk, A.2.2) else some (fsh A sk (p.1 + q.1) (p.2 + q.2))
    else some (fsh A sk iLo iHi)
  | _, _ => none
theorem aAdd_ok {r0 : List Int} {rho : List Int} {ls : Ls} {st st' : List Value} {A A' : ASt} {x y : AV} {sk : List AV} {a b : Int32} (h : gA r0 rho ls st A) (hx : gv rho (.int a) x) (hy : gv rho (.int b) y) (hk : gl rho st' sk) (he : aAdd A x y sk = some A') : gX r0 ls (.int (a + b) :: st') A' := by
  unfold aAdd at he
  cases hp : ab A.2.2 x with
  | none => rw [hp] at he; cases he
  | some p =>
    cases hq : ab A.2.2 y with
    | none => rw [hp, hq] at he; cases he
    | some q =>
      rw [hp, hq] at he
      have b1 := ab_ok h.1 hx hp
      have b2 := ab_ok h.1 hy hq
      dsimp only at he
      split at he
      · rename_i hr
        have e : (a + b).toInt = a.toInt + b.toInt := add_i (by omega) (by omega)
        split at he
        · rename_i h0
          cases he
          obtain ⟨-, u, hu, hu2⟩ := hx
          obtain ⟨-, w, hw, hw2⟩ := hy
          rw [h0] at hw
          cases hw.symm.trans h.2.1
          exact ⟨rho, h.1, h.2.1, h.2.2.1, ⟨rfl, u, hu, by rw [e]; show _ = u + (x.2.2.1 + y.2.2.1); omega⟩, hk⟩
        · cases he
          exact gA_fresh h hk (by rw [e]; omega) (by rw [e]; omega)
      · cases he
        exact gA_fresh h hk (i32_lo _) (i32_hi _)
