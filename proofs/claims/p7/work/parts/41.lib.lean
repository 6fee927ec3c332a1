/-! plain facts -/
/-- the first place from i on, n places, at which P -/
def ff (P : Nat → Bool) : Nat → Nat → Option Nat
  | 0, _ => none
  | n + 1, i => if P i = true then some i else ff P n (i + 1)
theorem srch {e : Nat} {P : Nat → Bool} {Wi : Nat → Prop} {K : Option Nat → Prop} (hend : K none → Wi e) (hstep : ∀ i, i < e → (P i = true → K (some i) → Wi i) ∧ (P i = false → Wi (i + 1) → Wi i)) : ∀ i, i ≤ e → K (ff P (e - i) i) → Wi i := by
  intro i hi
  obtain ⟨n, hn⟩ : ∃ n, i + n = e := ⟨e - i, by omega⟩
  induction n generalizing i with
  | zero =>
    have e1 : i = e := by omega
    subst e1
    rw [Nat.sub_self]
    exact hend
  | succ n ih =>
    intro hK
    rw [show e - i = (e - (i + 1)) + 1 by omega] at hK
    unfold ff at hK
    cases hP : P i with
    | true =>
      rw [hP, if_pos rfl] at hK
      exact (hstep i (by omega)).1 hP hK
    | false =>
      rw [hP, if_neg (by decide)] at hK
      exact (hstep i (by omega)).2 hP (ih (i + 1) (by omega) (by omega) hK)
theorem ff_lt {P : Nat → Bool} : ∀ {n i j : Nat}, ff P n i = some j → i ≤ j ∧ j < i + n ∧ P j = true
  | 0, i, j, h => by cases h
  | n + 1, i, j, h => by
    unfold ff at h
    cases hP : P i with
    | true =>
      rw [hP, if_pos rfl] at h
      cases h
      exact ⟨Nat.le_refl _, by omega, hP⟩
    | false =>
      rw [hP, if_neg (by decide)] at h
      obtain ⟨h1, h2, h3⟩ := ff_lt h
      exact ⟨by omega, by omega, h3⟩
theorem ff_cong {P Q : Nat → Bool} : ∀ {n i : Nat}, (∀ j, i ≤ j → j < i + n → P j = Q j) → ff P n i = ff Q n i
  | 0, _, _ => rfl
  | n + 1, i, h => by
    unfold ff
    rw [h i (Nat.le_refl _) (by omega), ff_cong (fun j h1 h2 => h j (by omega) (by omega))]
def oI : Option Nat → Int32
  | none => -2
  | some i => nI i
def bI (b : Bool) : Int32 := if b = true then 1 else 0
theorem le_nI {x : Int32} {n : Nat} (hn : n < 2147483648) : ¬ (x < 0) → ¬ (nI n ≤ x) → ∃ j, j < n ∧ x = nI j := by
  intro h1 h2
  rcases pk_ix x hn with h | h | h
  · exact absurd h h1
  · exact absurd h h2
  · exact h
theorem not_ix {x : Int32} {n : Nat} (hn : n < 2147483648) (h : x < 0 ∨ nI n ≤ x) : ¬ ∃ j, j < n ∧ x = nI j := by
  rintro ⟨j, hj, rfl⟩
  rcases h with h | h
  · exact nI_pos (by omega) h
  · exact nI_ge hj (by omega) h
theorem ix {j N : Nat} (h : j < N) (hN : N ≤ 1000) : nI j = nI j ∧ j < 1000 ∧ j < N := ⟨rfl, by omega, h⟩
theorem nI_s (i : Nat) : nI i + 1 = nI (i + 1) := nI_1 i
/-- the rows that a query of the close may leave otherwise -/
def sc (I I' : Nat → Nat → Int32) : Prop := ∀ a, (a < 40 ∨ 54 < a) → I' a = I a
theorem sc.rf {I : Nat → Nat → Int32} : sc I I := fun _ _ => rfl
theorem sc.tr {I I' I'' : Nat → Nat → Int32} (h : sc I I') (h2 : sc I' I'') : sc I I'' := fun a ha => (h2 a ha).trans (h a ha)
/-- the course's row -/
def cr (I : Nat → Nat → Int32) (k w v e n h b d : Int32) : Nat → Nat → Int32 := fun a j => if a = 40 then (match j with
  | 0 => k
  | 1 => w
  | 2 => v
  | 3 => e
  | 4 => n
  | 5 => h
  | 6 => b
  | 7 => d
  | j => I 40 j) else I a j
theorem cr_sc {I : Nat → Nat → Int32} {k w v e n h b d : Int32} : sc I (cr I k w v e n h b d) := fun a ha => funext fun j => if_neg (by omega)
theorem cr_o {I : Nat → Nat → Int32} {k w v e n h b d : Int32} {a : Nat} (ha : a ≠ 40) : cr I k w v e n h b d a = I a := funext fun j => if_neg ha
theorem cr_4 {I : Nat → Nat → Int32} {k w v e n h b d x : Int32} : u2 (cr I k w v e n h b d) 40 4 x = cr I k w v e x h b d := by
  funext a j
  unfold u2 cr
  by_cases ha : a = 40
  · subst ha
    match j with
    | 0 => rfl
    | 1 => rfl
    | 2 => rfl
    | 3 => rfl
    | 4 => rfl
    | 5 => rfl
    | 6 => rfl
    | 7 => rfl
    | j + 8 => simp
  · simp [ha]
theorem cr_5 {I : Nat → Nat → Int32} {k w v e n h b d x : Int32} : u2 (cr I k w v e n h b d) 40 5 x = cr I k w v e n x b d := by
  funext a j
  unfold u2 cr
  by_cases ha : a = 40
  · subst ha
    match j with
    | 0 => rfl
    | 1 => rfl
    | 2 => rfl
    | 3 => rfl
    | 4 => rfl
    | 5 => rfl
    | 6 => rfl
    | 7 => rfl
    | j + 8 => simp
  · simp [ha]
theorem cr_6 {I : Nat → Nat → Int32} {k w v e n h b d x : Int32} : u2 (cr I k w v e n h b d) 40 6 x = cr I k w v e n h x d := by
  funext a j
  unfold u2 cr
  by_cases ha : a = 40
  · subst ha
    match j with
    | 0 => rfl
    | 1 => rfl
    | 2 => rfl
    | 3 => rfl
    | 4 => rfl
    | 5 => rfl
    | 6 => rfl
    | 7 => rfl
    | j + 8 => simp
  · simp [ha]
theorem cr_7 {I : Nat → Nat → Int32} {k w v e n h b d x : Int32} : u2 (cr I k w v e n h b d) 40 7 x = cr I k w v e n h b x := by
  funext a j
  unfold u2 cr
  by_cases ha : a = 40
  · subst ha
    match j with
    | 0 => rfl
    | 1 => rfl
    | 2 => rfl
    | 3 => rfl
    | 4 => rfl
    | 5 => rfl
    | 6 => rfl
    | 7 => rfl
    | j + 8 => simp
  · simp [ha]
theorem cr_new {I : Nat → Nat → Int32} {k w v e n h b d : Int32} : u2 (u2 (u2 (u2 (u2 (u2 (u2 (u2 I 40 0 k) 40 1 w) 40 2 v) 40 3 e) 40 4 n) 40 5 h) 40 6 b) 40 7 d = cr I k w v e n h b d := by
  funext a j
  unfold u2 cr
  by_cases ha : a = 40
  · subst ha
    match j with
    | 0 => rfl
    | 1 => rfl
    | 2 => rfl
    | 3 => rfl
    | 4 => rfl
    | 5 => rfl
    | 6 => rfl
    | 7 => rfl
    | j + 8 => simp
  · simp [ha]
theorem cr_cr {I : Nat → Nat → Int32} {k w v e n h b d k2 w2 v2 e2 n2 h2 b2 d2 : Int32} : cr (cr I k w v e n h b d) k2 w2 v2 e2 n2 h2 b2 d2 = cr I k2 w2 v2 e2 n2 h2 b2 d2 := by
  funext a j
  unfold cr
  by_cases ha : a = 40
  · subst ha
    match j with
    | 0 => rfl
    | 1 => rfl
    | 2 => rfl
    | 3 => rfl
    | 4 => rfl
    | 5 => rfl
    | 6 => rfl
    | 7 => rfl
    | j + 8 => simp
  · simp [ha]
/-- A DAY of one face: number, what it holds, bears, how often it let go -/
abbrev Fc : Type := Int32 × Int32 × Int32 × Int32
def jr (x y : Int32) : Int32 := x - x / y * y
def cVx (v e : Int32) (calm : Bool) (n b : Int32) : Int32 := if calm = false ∧ 0 < e ∧ jr n e = 0 then b + v else b
def cLs (k h : Int32) : Int32 := if k = 2 then 2 * h else h
def cSt (k w v e : Int32) (calm : Bool) (x : Fc) : Fc := if x.2.1 = 0 then (x.1 + 1, x.2.1, x.2.2.1, x.2.2.2) else if cVx v e calm (x.1 + 1) x.2.2.1 < cLs k x.2.1 then (x.1 + 1, x.2.1, cVx v e calm (x.1 + 1) x.2.2.1, x.2.2.2) else if x.2.1 - w < 1 then (x.1 + 1, 0, 0, x.2.2.2 + 1) else (x.1 + 1, x.2.1 - w, (if k = 1 then cVx v e calm (x.1 + 1) x.2.2.1 - x.2.1 else 0), x.2.2.2 + 1)
/-- whether it lets go -/
def cLt (k v e : Int32) (calm : Bool) (x : Fc) : Bool := decide (¬ x.2.1 = 0 ∧ ¬ cVx v e calm (x.1 + 1) x.2.2.1 < cLs k x.2.1)
def cIt (k w v e : Int32) (x : Fc) : Nat → Fc
  | 0 => x
  | n + 1 => cSt k w v e false (cIt k w v e x n)
def crf (I : Nat → Nat → Int32) (k w v e : Int32) (y : Fc) : Nat → Nat → Int32 := cr I k w v e y.1 y.2.1 y.2.2.1 y.2.2.2
section CRV
variable {I : Nat → Nat → Int32} {k w v e n h b d : Int32}
theorem crv0 : cr I k w v e n h b d 40 0 = k := rfl
theorem crv1 : cr I k w v e n h b d 40 1 = w := rfl
theorem crv2 : cr I k w v e n h b d 40 2 = v := rfl
theorem crv3 : cr I k w v e n h b d 40 3 = e := rfl
theorem crv4 : cr I k w v e n h b d 40 4 = n := rfl
theorem crv5 : cr I k w v e n h b d 40 5 = h := rfl
theorem crv6 : cr I k w v e n h b d 40 6 = b := rfl
theorem crv7 : cr I k w v e n h b d 40 7 = d := rfl
end CRV
/-- steps up to a cut -/
def gc (l : Launch) (X : Nat × (Nat → Int32)) (q : Md) (d : Nat) (na : Bool) (b : Nat × Nat) (tb : List (Nat × OP)) (kr : KR) (cuts : List Nat) : Nat → KN
  | 0 => fun pc ls st M => Wf l X q d na b pc ls st M kr
  | n + 1 => fun pc ls st M => cond (cuts.any (fun c => Nat.beq c pc)) (Wf l X q d na b pc ls st M kr) (lo tb pc (gc l X q d na b tb kr cuts n) kr ls st M)
theorem Wf.gc0 {l : Launch} {X : Nat × (Nat → Int32)} {q : Md} {d : Nat} {na : Bool} {b : Nat × Nat} {tb : List (Nat × OP)} {kr : KR} (ht : ∀ x ∈ tb, OK l X q d na b x.1 x.2) (cuts : List Nat) : ∀ (n : Nat) {pc : Nat} {ls : Ls} {st : List Value} {M : Mm}, gc l X q d na b tb kr cuts n pc ls st M → Wf l X q d na b pc ls st M kr
  | 0, _, _, _, _, h => h
  | n + 1, pc, ls, st, M, h => by
    unfold gc at h
    cases hc : cuts.any (fun c => Nat.beq c pc) with
    | true => rw [hc] at h; exact h
    | false => rw [hc] at h; exact lo_ok ht pc _ kr ls st M (fun _ _ _ _ h' => Wf.gc0 ht cuts n h') h
/-- from here on, up to a cut (a pc of the list): run -/
theorem Wf.gc {l : Launch} {X : Nat × (Nat → Int32)} {q : Md} {d : Nat} {na : Bool} {b : Nat × Nat} {tb : List (Nat × OP)} {kr : KR} (ht : ∀ x ∈ tb, OK l X q d na b x.1 x.2) (cuts : List Nat) {pc : Nat} {ls : Ls} {st : List Value} {M : Mm} (h : lo tb pc (gc l X q d na b tb kr cuts 400) kr ls st M) : Wf l X q d na b pc ls st M kr :=
  lo_ok ht pc _ kr ls st M (fun _ _ _ _ h' => Wf.gc0 ht cuts 400 h') h
theorem cle {x : Int32} {N n : Nat} (hx : x = nI N) (h : N ≤ n) (hn : n < 2147483648) : x ≤ nI n := by rw [hx]; exact nI_le h hn
theorem cnle {x : Int32} {N n : Nat} (hx : x = nI N) (h : n < N) (hn : N < 2147483648) : ¬ x ≤ nI n := by rw [hx]; exact nI_ge h hn
