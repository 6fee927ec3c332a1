/-! the checker's steps over numbers, locals, jumps -/
def bAny (_ _ : Int × Int) : Int × Int := (iLo, iHi)
theorem bAny_ok {g : Int32 → Int32 → Int32} (p q : Int × Int) (x y : Int32) (_ : p.1 ≤ x.toInt ∧ x.toInt ≤ p.2) (_ : q.1 ≤ y.toInt ∧ y.toInt ≤ q.2) : (bAny p q).1 ≤ (g x y).toInt ∧ (g x y).toInt ≤ (bAny p q).2 := ⟨i32_lo _, i32_hi _⟩
def bSub (p q : Int × Int) : Int × Int := if iLo ≤ p.1 - q.2 ∧ p.2 - q.1 ≤ iHi then (p.1 - q.2, p.2 - q.1) else (iLo, iHi)
theorem bSub_ok (p q : Int × Int) (x y : Int32) (h1 : p.1 ≤ x.toInt ∧ x.toInt ≤ p.2) (h2 : q.1 ≤ y.toInt ∧ y.toInt ≤ q.2) : (bSub p q).1 ≤ (x - y).toInt ∧ (x - y).toInt ≤ (bSub p q).2 := by
  unfold bSub
  split
  · rw [sub_i (by omega) (by omega)]
    show p.1 - q.2 ≤ x.toInt - y.toInt ∧ x.toInt - y.toInt ≤ p.2 - q.1
    omega
  · exact ⟨i32_lo _, i32_hi _⟩
/-- a product of numbers that aren't below 0 -/
def bMul (p q : Int × Int) : Int × Int := if 0 ≤ p.1 ∧ 0 ≤ q.1 ∧ p.2 * q.2 ≤ iHi then (p.1 * q.1, p.2 * q.2) else (iLo, iHi)
theorem bMul_ok (p q : Int × Int) (x y : Int32) (h1 : p.1 ≤ x.toInt ∧ x.toInt ≤ p.2) (h2 : q.1 ≤ y.toInt ∧ y.toInt ≤ q.2) : (bMul p q).1 ≤ (x * y).toInt ∧ (x * y).toInt ≤ (bMul p q).2 := by
  unfold bMul
  split
  · rename_i h
    have e1 : p.1 * q.1 ≤ x.toInt * y.toInt := Int.mul_le_mul h1.1 h2.1 h.2.1 (by omega)
    have e2 : x.toInt * y.toInt ≤ p.2 * q.2 := Int.mul_le_mul h1.2 h2.2 (by omega) (by omega)
    have e3 : 0 ≤ p.1 * q.1 := Int.mul_nonneg h.1 h.2.1
    have e4 : iLo ≤ 0 := by decide
    rw [mul_i (by omega) (by omega)]
    exact ⟨e1, e2⟩
  · exact ⟨i32_lo _, i32_hi _⟩
theorem and_b {x y : Int32} (h : 0 ≤ y.toInt) : 0 ≤ (x &&& y).toInt ∧ (x &&& y).toInt ≤ y.toInt := by
  have e : (x &&& y).toBitVec.toNat ≤ y.toBitVec.toNat := by
    rw [Int32.toBitVec_and, BitVec.toNat_and]
    exact Nat.and_le_right
  have e1 : (x &&& y).toInt = (x &&& y).toBitVec.toInt := rfl
  have e2 : y.toInt = y.toBitVec.toInt := rfl
  have hl := y.toBitVec.isLt
  rw [e1, e2, BitVec.toInt_eq_toNat_cond, BitVec.toInt_eq_toNat_cond]
  rw [e2, BitVec.toInt_eq_toNat_cond] at h
  split at h
  · rename_i h3
    rw [if_pos (by omega), if_pos h3]
    omega
  · omega
def bAnd (p q : Int × Int) : Int × Int := if 0 ≤ q.1 then (0, q.2) else if 0 ≤ p.1 then (0, p.2) else (iLo, iHi)
theorem bAnd_ok (p q : Int × Int) (x y : Int32) (h1 : p.1 ≤ x.toInt ∧ x.toInt ≤ p.2) (h2 : q.1 ≤ y.toInt ∧ y.toInt ≤ q.2) : (bAnd p q).1 ≤ (x &&& y).toInt ∧ (x &&& y).toInt ≤ (bAnd p q).2 := by
  unfold bAnd
  split
  · have := and_b (x := x) (y := y) (by omega)
    show 0 ≤ (x &&& y).toInt ∧ (x &&& y).toInt ≤ q.2
    omega
  · split
    · have := and_b (x := y) (y := x) (by omega)
      rw [Int32.and_comm] at this
      show 0 ≤ (x &&& y).toInt ∧ (x &&& y).toInt ≤ p.2
      omega
    · exact ⟨i32_lo _, i32_hi _⟩
theorem shl1 : ∀ k : Fin 31, ((1 : Int32) <<< (nI k.val &&& 31)).toInt = ((2 ^ k.val : Nat) : Int) := by decide
theorem nI_at {i : Int32} (h0 : 0 ≤ i.toInt) (h1 : i.toInt < 1000) : i = nI i.toInt.toNat := by
  refine Int32.toInt_inj.mp ?_
  rw [nI_toInt (by omega)]
  omega
def bShl (p q : Int × Int) : Int × Int := if (p.1 = 1 ∧ p.2 = 1) ∧ 0 ≤ q.1 ∧ q.2 ≤ 30 then (((2 ^ q.1.toNat : Nat) : Int), ((2 ^ q.2.toNat : Nat) : Int)) else (iLo, iHi)
theorem bShl_ok (p q : Int × Int) (x y : Int32) (h1 : p.1 ≤ x.toInt ∧ x.toInt ≤ p.2) (h2 : q.1 ≤ y.toInt ∧ y.toInt ≤ q.2) : (bShl p q).1 ≤ (x <<< (y &&& 31)).toInt ∧ (x <<< (y &&& 31)).toInt ≤ (bShl p q).2 := by
  unfold bShl
  split
  · rename_i h
    have hx : x = 1 := Int32.toInt_inj.mp (by show x.toInt = 1; omega)
    have hy := nI_at (i := y) (by omega) (by omega)
    have hk := shl1 ⟨y.toInt.toNat, by omega⟩
    rw [hx, hy, hk]
    show ((2 ^ q.1.toNat : Nat) : Int) ≤ ((2 ^ y.toInt.toNat : Nat) : Int) ∧ ((2 ^ y.toInt.toNat : Nat) : Int) ≤ ((2 ^ q.2.toNat : Nat) : Int)
    exact ⟨Int.ofNat_le.mpr (Nat.pow_le_pow_right (by decide) (by omega)), Int.ofNat_le.mpr (Nat.pow_le_pow_right (by decide) (by omega))⟩
  · exact ⟨i32_lo _, i32_hi _⟩
theorem div_i {x y : Int32} (h0 : 0 ≤ x.toInt) (h1 : 0 < y.toInt) : (x / y).toInt = x.toInt.tdiv y.toInt := by
  have e1 := Int.tdiv_le_self (a := x.toInt) y.toInt h0
  have e2 : 0 ≤ x.toInt.tdiv y.toInt := Int.tdiv_nonneg h0 (Int.le_of_lt h1)
  have e3 := i32_hi x
  have e4 : iLo ≤ 0 := by decide
  rw [Int32.toInt_div]
  exact bm (by omega) (by omega)
theorem rem_i {x y : Int32} (h0 : 0 ≤ x.toInt) (h1 : 0 < y.toInt) : (x - x / y * y).toInt = x.toInt.tmod y.toInt := by
  have d := div_i h0 h1
  have m0 := Int.tmod_nonneg y.toInt h0
  have e1 := Int.tmod_def x.toInt y.toInt
  rw [Int.mul_comm] at e1
  have e2 : 0 ≤ x.toInt.tdiv y.toInt := Int.tdiv_nonneg h0 (Int.le_of_lt h1)
  have e3 : 0 ≤ x.toInt.tdiv y.toInt * y.toInt := Int.mul_nonneg e2 (Int.le_of_lt h1)
  have e4 : iLo ≤ 0 := by decide
  have e5 := i32_hi x
  have m : (x / y * y).toInt = x.toInt.tdiv y.toInt * y.toInt := by
    rw [← d]
    exact mul_i (by rw [d]; omega) (by rw [d]; omega)
  rw [sub_i (by rw [m]; omega) (by rw [m]; omega), m, e1]
def bDiv (p q : Int × Int) : Int × Int := if 0 ≤ p.1 ∧ 0 < q.1 then (0, p.2) else (iLo, iHi)
theorem bDiv_ok (p q : Int × Int) (x y : Int32) (h1 : p.1 ≤ x.toInt ∧ x.toInt ≤ p.2) (h2 : q.1 ≤ y.toInt ∧ y.toInt ≤ q.2) : (bDiv p q).1 ≤ (x / y).toInt ∧ (x / y).toInt ≤ (bDiv p q).2 := by
  unfold bDiv
  split
  · rw [div_i (by omega) (by omega)]
    have e1 := Int.tdiv_le_self (a := x.toInt) y.toInt (by omega)
    have e2 : 0 ≤ x.toInt.tdiv y.toInt := Int.tdiv_nonneg (by omega) (by omega)
    show 0 ≤ x.toInt.tdiv y.toInt ∧ x.toInt.tdiv y.toInt ≤ p.2
    omega
  · exact ⟨i32_lo _, i32_hi _⟩
def bRem (p q : Int × Int) : Int × Int := if 0 ≤ p.1 ∧ 0 < q.1 then (0, q.2 - 1) else (iLo, iHi)
theorem bRem_ok (p q : Int × Int) (x y : Int32) (h1 : p.1 ≤ x.toInt ∧ x.toInt ≤ p.2) (h2 : q.1 ≤ y.toInt ∧ y.toInt ≤ q.2) : (bRem p q).1 ≤ (x - x / y * y).toInt ∧ (x - x / y * y).toInt ≤ (bRem p q).2 := by
  unfold bRem
  split
  · rw [rem_i (by omega) (by omega)]
    have e1 := Int.tmod_nonneg (a := x.toInt) y.toInt (by omega)
    have e2 := Int.tmod_lt_of_pos x.toInt (b := y.toInt) (by omega)
    show 0 ≤ x.toInt.tmod y.toInt ∧ x.toInt.tmod y.toInt ≤ q.2 - 1
    omega
  · exact ⟨i32_lo _, i32_hi _⟩
section NUM
variable {J : Mm → Prop} {av : List Value} {r0 : List Int} {kr : KR} {A : ASt} {L : List (Nat × ASt)} {pc : Nat}
def aIc (pc n : Nat) (v : Int) (A : ASt) : Option (List (Nat × ASt)) := some [(pc + n, (A.1, cst v :: A.2.1, A.2.2))]
theorem aIc_ok {n : Nat} {v : Int32} (he : aIc pc n v.toInt A = some L) : Sd J av r0 kr (oIc pc n v) A L := by
  intro ls st M kn hJ hg hn
  obtain ⟨rho, hg⟩ := hg
  cases he
  exact hn.one hJ ⟨rho, gA_stk hg ⟨gv_cst hg.2.1, hg.2.2.2.1⟩⟩
/-- a local of a kind -/
def aLd (t pc n i : Nat) (A : ASt) : Option (List (Nat × ASt)) := match ag A.1 i with
  | some a => cond (Nat.beq a.1 t && Nat.blt i 999) (some [(pc + n, (A.1, a :: A.2.1, A.2.2))]) none
  | none => none
theorem aLd_in {t n i : Nat} {ls : Ls} {st : List Value} {M : Mm} {kn : KN} (he : aLd t pc n i A = some L) (hJ : J M) (hg : gX av r0 M ls st A) (hn : Nx J av r0 kn L) : ∃ v a rho, lg ls i = some v ∧ gv rho v a ∧ Nat.beq a.1 t = true ∧ kn (pc + n) ls (v :: st) M := by
  obtain ⟨rho, hg⟩ := hg
  unfold aLd at he
  cases ha : ag A.1 i with
  | none => rw [ha] at he; cases he
  | some a =>
    rw [ha] at he
    obtain ⟨h0, he⟩ := condN he
    obtain ⟨h1, h2⟩ := andT h0
    cases he
    obtain ⟨v, hv, hva⟩ := gm_lg h2 hg.2.2.1 ha
    exact ⟨v, a, rho, hv, hva, h1, hn.one hJ ⟨rho, gA_stk hg ⟨hva, hg.2.2.2.1⟩⟩⟩
theorem aIl_ok {n i : Nat} (he : aLd 0 pc n i A = some L) : Sd J av r0 kr (oIl pc n i) A L := by
  intro ls st M kn hJ hg hn
  obtain ⟨v, a, rho, h1, h2, h3, h4⟩ := aLd_in he hJ hg hn
  obtain ⟨x, rfl⟩ := gv_int h2 h3
  simp only [oIl, h1]
  exact h4
theorem aLl_ok {n i : Nat} (he : aLd 1 pc n i A = some L) : Sd J av r0 kr (oLl pc n i) A L := by
  intro ls st M kn hJ hg hn
  obtain ⟨v, a, rho, h1, h2, h3, h4⟩ := aLd_in he hJ hg hn
  obtain ⟨x, rfl⟩ := gv_long h2 h3
  simp only [oLl, h1]
  exact h4
def aAl (pc n i : Nat) (A : ASt) : Option (List (Nat × ASt)) := match ag A.1 i with
  | some a => cond (Nat.beq a.1 2 && (Nat.blt i 999 && a.2.2.2.all (Nat.blt 0))) (some [(pc + n, (A.1, a :: A.2.1, A.2.2))]) none
  | none => none
theorem aAl_ok {n i : Nat} (he : aAl pc n i A = some L) : Sd J av r0 kr (oAl pc n i) A L := by
  intro ls st M kn hJ hg hn
  obtain ⟨rho, hg⟩ := hg
  unfold aAl at he
  cases ha : ag A.1 i with
  | none => rw [ha] at he; cases he
  | some a =>
    rw [ha] at he
    obtain ⟨h0, he⟩ := condN he
    obtain ⟨h1, h2⟩ := andT h0
    obtain ⟨h2, h3⟩ := andT h2
    cases he
    obtain ⟨v, hv, hva⟩ := gm_lg h2 hg.2.2.1 ha
    obtain ⟨k, rfl, hm⟩ := gv_ref hva h1
    simp only [oAl, hv, List.all_eq_true.mp h3 k hm, cond_true]
    exact hn.one hJ ⟨rho, gA_stk hg ⟨hva, hg.2.2.2.1⟩⟩
/-- into a local -/
def aSt (t pc n i : Nat) (A : ASt) : Option (List (Nat × ASt)) := match A.2.1 with
  | a :: sk => cond (Nat.beq a.1 t && (Nat.blt i 999 && (Nat.blt t 2 || a.2.2.2.all (Nat.blt 0)))) (some [(pc + n, (alp A.1 i a, sk, A.2.2))]) none
  | [] => none
theorem aSt_in {t n i : Nat} {ls : Ls} {st : List Value} {M : Mm} {kn : KN} (he : aSt t pc n i A = some L) (hJ : J M) (hg : gX av r0 M ls st A) (hn : Nx J av r0 kn L) : ∃ v a rho st', st = v :: st' ∧ gv rho v a ∧ Nat.beq a.1 t = true ∧ (Nat.blt t 2 || a.2.2.2.all (Nat.blt 0)) = true ∧ kn (pc + n) (lp ls i v) st' M := by
  obtain ⟨rho, hg⟩ := hg
  unfold aSt at he
  split at he
  · rename_i a sk hs
    obtain ⟨h0, he⟩ := condN he
    obtain ⟨h1, h2⟩ := andT h0
    obtain ⟨h2, h3⟩ := andT h2
    cases he
    have hl := hg.2.2.2.1
    rw [hs] at hl
    obtain ⟨v, t, rfl, hva, hl2⟩ := gl_1 hl
    exact ⟨v, a, rho, t, rfl, hva, h1, h3, hn.one hJ ⟨rho, hg.1, hg.2.1, gm_lp h2 hva hg.2.2.1, hl2, hg.2.2.2.2⟩⟩
  · cases he
theorem aIs_ok {n i : Nat} (he : aSt 0 pc n i A = some L) : Sd J av r0 kr (oIs pc n i) A L := by
  intro ls st M kn hJ hg hn
  obtain ⟨v, a, rho, st', rfl, h2, h3, -, h4⟩ := aSt_in he hJ hg hn
  obtain ⟨x, rfl⟩ := gv_int h2 h3
  exact h4
theorem aLs_ok {n i : Nat} (he : aSt 1 pc n i A = some L) : Sd J av r0 kr (oLs pc n i) A L := by
  intro ls st M kn hJ hg hn
  obtain ⟨v, a, rho, st', rfl, h2, h3, -, h4⟩ := aSt_in he hJ hg hn
  obtain ⟨x, rfl⟩ := gv_long h2 h3
  exact h4
theorem aAs_ok {n i : Nat} (he : aSt 2 pc n i A = some L) : Sd J av r0 kr (oAs pc n i) A L := by
  intro ls st M kn hJ hg hn
  obtain ⟨v, a, rho, st', rfl, h2, h3, h5, h4⟩ := aSt_in he hJ hg hn
  obtain ⟨x, rfl, hx⟩ := gv_ref h2 h3
  have h6 : a.2.2.2.all (Nat.blt 0) = true := h5
  simp only [oAs, List.all_eq_true.mp h6 x hx, cond_true]
  exact h4
/-- the sum: with a number known, the same symbol; else a new one -/
def aAdd (A : ASt) (x y : AV) (sk : List AV) : Option ASt := match ab A.2.2.1 x, ab A.2.2.1 y with
  | some p, some q =>
    if iLo ≤ p.1 + q.1 ∧ p.2 + q.2 ≤ iHi then
      if y.2.1 = 0 then some (A.1, (0, x.2.1, x.2.2.1 + y.2.2.1, []) :: sk, A.2.2) else if x.2.1 = 0 then some (A.1, (0, y.2.1, x.2.2.1 + y.2.2.1, []) :: sk, A.2.2) else some (fsh A 0 sk (p.1 + q.1) (p.2 + q.2))
    else some (fsh A 0 sk iLo iHi)
  | _, _ => none
theorem aAdd_ok {rho : List Int} {M : Mm} {ls : Ls} {st st' : List Value} {A' : ASt} {x y : AV} {sk : List AV} {a b : Int32} (h : gA av r0 rho M ls st A) (hx : gv rho (.int a) x) (hy : gv rho (.int b) y) (hk : gl rho st' sk) (he : aAdd A x y sk = some A') : gX av r0 M ls (.int (a + b) :: st') A' := by
  unfold aAdd at he
  cases hp : ab A.2.2.1 x with
  | none => rw [hp] at he; cases he
  | some p =>
    cases hq : ab A.2.2.1 y with
    | none => rw [hp, hq] at he; cases he
    | some q =>
      rw [hp, hq] at he
      have b1 := ab_ok h.1 hx hp
      have b2 := ab_ok h.1 hy hq
      dsimp only at he
      split at he
      · rename_i hr
        have e : (a + b).toInt = a.toInt + b.toInt := add_i (by omega) (by omega)
        split at he
        · rename_i h0
          cases he
          obtain ⟨-, u, hu, hu2⟩ := hx
          obtain ⟨-, w, hw, hw2⟩ := hy
          rw [h0] at hw
          cases hw.symm.trans h.2.1
          exact ⟨rho, gA_stk h ⟨⟨rfl, u, hu, by rw [e]; show _ = u + (x.2.2.1 + y.2.2.1); omega⟩, hk⟩⟩
        · split at he
          · rename_i h0
            cases he
            obtain ⟨-, u, hu, hu2⟩ := hx
            obtain ⟨-, w, hw, hw2⟩ := hy
            rw [h0] at hu
            cases hu.symm.trans h.2.1
            exact ⟨rho, gA_stk h ⟨⟨rfl, w, hw, by rw [e]; show _ = w + (x.2.2.1 + y.2.2.1); omega⟩, hk⟩⟩
          · cases he
            exact gA_fresh h hk (by rw [e]; omega) (by rw [e]; omega)
      · cases he
        exact gA_fresh h hk (i32_lo _) (i32_hi _)
def aInc (pc i : Nat) (v : Int) (A : ASt) : Option (List (Nat × ASt)) := match ag A.1 i with
  | some a => cond (Nat.beq a.1 0 && Nat.blt i 999) (match aAdd A a (cst v) A.2.1 with
    | some (al, w :: sk, S) => some [(pc + 3, (alp al i w, sk, S))]
    | _ => none) none
  | none => none
theorem aInc_ok {i : Nat} {v : Int32} (he : aInc pc i v.toInt A = some L) : Sd J av r0 kr (oInc pc i v) A L := by
  intro ls st M kn hJ hg hn
  obtain ⟨rho, hg⟩ := hg
  unfold aInc at he
  cases ha : ag A.1 i with
  | none => rw [ha] at he; cases he
  | some a =>
    rw [ha] at he
    obtain ⟨h0, he⟩ := condN he
    obtain ⟨h1, h2⟩ := andT h0
    obtain ⟨w, hv, hva⟩ := gm_lg h2 hg.2.2.1 ha
    obtain ⟨x, rfl⟩ := gv_int hva h1
    simp only [oInc, hv]
    split at he
    · rename_i al w sk S hadd
      cases he
      obtain ⟨rho2, g1, g2, g3, g4, g5⟩ := aAdd_ok (b := v) hg hva (gv_cst hg.2.1) hg.2.2.2.1 hadd
      exact hn.one hJ ⟨rho2, g1, g2, gm_lp h2 g4.1 g3, g4.2, g5⟩
    · cases he
def aAd (pc : Nat) (A : ASt) : Option (List (Nat × ASt)) := match A.2.1 with
  | y :: x :: sk => cond (Nat.beq y.1 0 && Nat.beq x.1 0) (match aAdd A x y sk with
    | some B => some [(pc + 1, B)]
    | none => none) none
  | _ => none
theorem aAd_ok (he : aAd pc A = some L) : Sd J av r0 kr (o2 pc (fun x y => x + y)) A L := by
  intro ls st M kn hJ hg hn
  obtain ⟨rho, hg⟩ := hg
  unfold aAd at he
  split at he
  · rename_i y x sk hs
    obtain ⟨h0, he⟩ := condN he
    obtain ⟨hy0, hx0⟩ := andT h0
    have hl := hg.2.2.2.1
    rw [hs] at hl
    obtain ⟨b, t, rfl, hva, hl2⟩ := gl_i hl hy0
    obtain ⟨a, t, rfl, hwa, hl3⟩ := gl_i hl2 hx0
    split at he
    · rename_i B hB
      cases he
      exact hn.one hJ (aAdd_ok hg hwa hva hl3 hB)
    · cases he
  · cases he
/-- two ints, and bounds of what comes of them -/
def a2 (f : Int × Int → Int × Int → Int × Int) (pc : Nat) (A : ASt) : Option (List (Nat × ASt)) := match A.2.1 with
  | y :: x :: sk => cond (Nat.beq y.1 0 && Nat.beq x.1 0) (match ab A.2.2.1 x, ab A.2.2.1 y with
    | some p, some q => some [(pc + 1, fsh A 0 sk (f p q).1 (f p q).2)]
    | _, _ => none) none
  | _ => none
theorem a2_ok {f : Int × Int → Int × Int → Int × Int} {g : Int32 → Int32 → Int32} (hf : ∀ (p q : Int × Int) (x y : Int32), (p.1 ≤ x.toInt ∧ x.toInt ≤ p.2) → (q.1 ≤ y.toInt ∧ y.toInt ≤ q.2) → (f p q).1 ≤ (g x y).toInt ∧ (g x y).toInt ≤ (f p q).2) (he : a2 f pc A = some L) : Sd J av r0 kr (o2 pc g) A L := by
  intro ls st M kn hJ hg hn
  obtain ⟨rho, hg⟩ := hg
  unfold a2 at he
  split at he
  · rename_i y x sk hs
    obtain ⟨h0, he⟩ := condN he
    obtain ⟨hy0, hx0⟩ := andT h0
    have hl := hg.2.2.2.1
    rw [hs] at hl
    obtain ⟨b, t, rfl, hva, hl2⟩ := gl_i hl hy0
    obtain ⟨a, t, rfl, hwa, hl3⟩ := gl_i hl2 hx0
    cases hp : ab A.2.2.1 x with
    | none => rw [hp] at he; cases he
    | some p =>
      cases hq : ab A.2.2.1 y with
      | none => rw [hp, hq] at he; cases he
      | some q =>
        rw [hp, hq] at he
        cases he
        have hb := hf p q a b (ab_ok hg.1 hwa hp) (ab_ok hg.1 hva hq)
        exact hn.one hJ (gA_fresh hg hl3 hb.1 hb.2)
  · cases he
/-- a difference: with a number known behind it, the same symbol -/
def aSb (pc : Nat) (A : ASt) : Option (List (Nat × ASt)) := match A.2.1 with
  | y :: x :: sk => cond (Nat.beq y.1 0 && (Nat.beq x.1 0 && Nat.beq y.2.1 0)) (match ab A.2.2.1 x with
    | some p => if iLo ≤ p.1 - y.2.2.1 ∧ p.2 - y.2.2.1 ≤ iHi then some [(pc + 1, (A.1, (0, x.2.1, x.2.2.1 - y.2.2.1, []) :: sk, A.2.2))] else a2 bSub pc A
    | none => none) (a2 bSub pc A)
  | _ => none
theorem aSb_ok (he : aSb pc A = some L) : Sd J av r0 kr (o2 pc (fun x y => x - y)) A L := by
  intro ls st M kn hJ hg hn
  unfold aSb at he
  split at he
  · rename_i y x sk hs
    cases hc : (Nat.beq y.1 0 && (Nat.beq x.1 0 && Nat.beq y.2.1 0)) with
    | false => rw [hc] at he; exact a2_ok bSub_ok he ls st M kn hJ hg hn
    | true =>
      rw [hc] at he
      obtain ⟨hy0, hx0⟩ := andT hc
      obtain ⟨hx0, hz⟩ := andT hx0
      have hz := Nat.eq_of_beq_eq_true hz
      cases hp : ab A.2.2.1 x with
      | none => rw [hp] at he; cases he
      | some p =>
        rw [hp] at he
        have he : (if iLo ≤ p.1 - y.2.2.1 ∧ p.2 - y.2.2.1 ≤ iHi then some [(pc + 1, (A.1, (0, x.2.1, x.2.2.1 - y.2.2.1, []) :: sk, A.2.2))] else a2 bSub pc A) = some L := he
        split at he
        · rename_i hr
          cases he
          obtain ⟨rho, hg⟩ := hg
          have hl := hg.2.2.2.1
          rw [hs] at hl
          obtain ⟨b, t, rfl, hva, hl2⟩ := gl_i hl hy0
          obtain ⟨a, t, rfl, hwa, hl3⟩ := gl_i hl2 hx0
          have b1 := ab_ok hg.1 hwa hp
          obtain ⟨-, u, hu, hu2⟩ := hwa
          obtain ⟨-, w, hw, hw2⟩ := hva
          rw [hz] at hw
          cases hw.symm.trans hg.2.1
          have e : (a - b).toInt = a.toInt - b.toInt := sub_i (by omega) (by omega)
          exact hn.one hJ ⟨rho, gA_stk hg ⟨⟨rfl, u, hu, by rw [e]; show _ = u + (x.2.2.1 - y.2.2.1); omega⟩, hl3⟩⟩
        · exact a2_ok bSub_ok he ls st M kn hJ hg hn
  · cases he
/-- a division: the divisor's bounds leave 0 out -/
def a2d (f : Int × Int → Int × Int → Int × Int) (pc : Nat) (A : ASt) : Option (List (Nat × ASt)) := match A.2.1 with
  | y :: x :: sk => cond (Nat.beq y.1 0 && Nat.beq x.1 0) (match ab A.2.2.1 x, ab A.2.2.1 y with
    | some p, some q => cond (decide (0 < q.1 ∨ q.2 < 0)) (some [(pc + 1, fsh A 0 sk (f p q).1 (f p q).2)]) none
    | _, _ => none) none
  | _ => none
theorem a2d_ok {f : Int × Int → Int × Int → Int × Int} {g : Int32 → Int32 → Int32} (hf : ∀ (p q : Int × Int) (x y : Int32), (p.1 ≤ x.toInt ∧ x.toInt ≤ p.2) → (q.1 ≤ y.toInt ∧ y.toInt ≤ q.2) → (f p q).1 ≤ (g x y).toInt ∧ (g x y).toInt ≤ (f p q).2) (he : a2d f pc A = some L) : Sd J av r0 kr (o2d pc g) A L := by
  intro ls st M kn hJ hg hn
  obtain ⟨rho, hg⟩ := hg
  unfold a2d at he
  split at he
  · rename_i y x sk hs
    obtain ⟨h0, he⟩ := condN he
    obtain ⟨hy0, hx0⟩ := andT h0
    have hl := hg.2.2.2.1
    rw [hs] at hl
    obtain ⟨b, t, rfl, hva, hl2⟩ := gl_i hl hy0
    obtain ⟨a, t, rfl, hwa, hl3⟩ := gl_i hl2 hx0
    cases hp : ab A.2.2.1 x with
    | none => rw [hp] at he; cases he
    | some p =>
      cases hq : ab A.2.2.1 y with
      | none => rw [hp, hq] at he; cases he
      | some q =>
        rw [hp, hq] at he
        obtain ⟨h5, he⟩ := condN he
        cases he
        have hd := of_decide_eq_true h5
        have hy := ab_ok hg.1 hva hq
        have hb := hf p q a b (ab_ok hg.1 hwa hp) hy
        refine ⟨fun z => ?_, hn.one hJ (gA_fresh hg hl3 hb.1 hb.2)⟩
        subst z
        have e0 : (0 : Int32).toInt = 0 := rfl
        omega
  · cases he
/-- one int, anything of it -/
def a1 (pc : Nat) (A : ASt) : Option (List (Nat × ASt)) := match A.2.1 with
  | x :: sk => cond (Nat.beq x.1 0) (some [(pc + 1, fsh A 0 sk iLo iHi)]) none
  | _ => none
theorem a1_ok {g : Int32 → Int32} (he : a1 pc A = some L) : Sd J av r0 kr (o1 pc g) A L := by
  intro ls st M kn hJ hg hn
  obtain ⟨rho, hg⟩ := hg
  unfold a1 at he
  split at he
  · rename_i x sk hs
    obtain ⟨h0, he⟩ := condN he
    cases he
    have hl := hg.2.2.2.1
    rw [hs] at hl
    obtain ⟨b, t, rfl, hva, hl2⟩ := gl_i hl h0
    exact hn.one hJ (gA_fresh hg hl2 (i32_lo _) (i32_hi _))
  · cases he
/-! longs -/
def aLc (pc n : Nat) (v : Int) (A : ASt) : Option (List (Nat × ASt)) := some [(pc + n, (A.1, (1, 0, v, []) :: A.2.1, A.2.2))]
theorem aLc_ok {n : Nat} {v : Int64} (he : aLc pc n v.toInt A = some L) : Sd J av r0 kr (oLc pc n v) A L := by
  intro ls st M kn hJ hg hn
  obtain ⟨rho, hg⟩ := hg
  cases he
  exact hn.one hJ ⟨rho, gA_stk hg ⟨⟨rfl, 0, hg.2.1, by show v.toInt = 0 + v.toInt; omega⟩, hg.2.2.2.1⟩⟩
def aL2 (pc : Nat) (A : ASt) : Option (List (Nat × ASt)) := match A.2.1 with
  | y :: x :: sk => cond (Nat.beq y.1 1 && Nat.beq x.1 1) (some [(pc + 1, fsh A 1 sk lLo lHi)]) none
  | _ => none
theorem aL2_ok {g : Int64 → Int64 → Int64} (he : aL2 pc A = some L) : Sd J av r0 kr (oL2 pc g) A L := by
  intro ls st M kn hJ hg hn
  obtain ⟨rho, hg⟩ := hg
  unfold aL2 at he
  split at he
  · rename_i y x sk hs
    obtain ⟨h0, he⟩ := condN he
    obtain ⟨hy0, hx0⟩ := andT h0
    cases he
    have hl := hg.2.2.2.1
    rw [hs] at hl
    obtain ⟨b, t, rfl, hva, hl2⟩ := gl_l hl hy0
    obtain ⟨a, t, rfl, hwa, hl3⟩ := gl_l hl2 hx0
    exact hn.one hJ (gA_freshL hg hl3 (i64_lo _) (i64_hi _))
  · cases he
def aL2d (pc : Nat) (A : ASt) : Option (List (Nat × ASt)) := match A.2.1 with
  | y :: x :: sk => cond (Nat.beq y.1 1 && Nat.beq x.1 1) (match ab A.2.2.1 y with
    | some q => cond (decide (0 < q.1 ∨ q.2 < 0)) (some [(pc + 1, fsh A 1 sk lLo lHi)]) none
    | none => none) none
  | _ => none
theorem aL2d_ok {g : Int64 → Int64 → Int64} (he : aL2d pc A = some L) : Sd J av r0 kr (oL2d pc g) A L := by
  intro ls st M kn hJ hg hn
  obtain ⟨rho, hg⟩ := hg
  unfold aL2d at he
  split at he
  · rename_i y x sk hs
    obtain ⟨h0, he⟩ := condN he
    obtain ⟨hy0, hx0⟩ := andT h0
    have hl := hg.2.2.2.1
    rw [hs] at hl
    obtain ⟨b, t, rfl, hva, hl2⟩ := gl_l hl hy0
    obtain ⟨a, t, rfl, hwa, hl3⟩ := gl_l hl2 hx0
    cases hq : ab A.2.2.1 y with
    | none => rw [hq] at he; cases he
    | some q =>
      rw [hq] at he
      obtain ⟨h5, he⟩ := condN he
      cases he
      have hd := of_decide_eq_true h5
      have hy : q.1 ≤ b.toInt ∧ b.toInt ≤ q.2 := ab_num (v := .long b) hg.1 hva.2 hq
      refine ⟨fun z => ?_, hn.one hJ (gA_freshL hg hl3 (i64_lo _) (i64_hi _))⟩
      subst z
      have e0 : (0 : Int64).toInt = 0 := rfl
      omega
  · cases he
def ai2l (pc : Nat) (A : ASt) : Option (List (Nat × ASt)) := match A.2.1 with
  | x :: sk => cond (Nat.beq x.1 0) (some [(pc + 1, (A.1, (1, x.2.1, x.2.2.1, []) :: sk, A.2.2))]) none
  | _ => none
theorem ai2l_ok (he : ai2l pc A = some L) : Sd J av r0 kr (oi2l pc) A L := by
  intro ls st M kn hJ hg hn
  obtain ⟨rho, hg⟩ := hg
  unfold ai2l at he
  split at he
  · rename_i x sk hs
    obtain ⟨h0, he⟩ := condN he
    cases he
    have hl := hg.2.2.2.1
    rw [hs] at hl
    obtain ⟨b, t, rfl, hva, hl2⟩ := gl_i hl h0
    obtain ⟨-, e, h1, h2⟩ := hva
    exact hn.one hJ ⟨rho, gA_stk hg ⟨⟨rfl, e, h1, by rw [Int32.toInt_toInt64]; exact h2⟩, hl2⟩⟩
  · cases he
def alcmp (pc : Nat) (A : ASt) : Option (List (Nat × ASt)) := match A.2.1 with
  | y :: x :: sk => cond (Nat.beq y.1 1 && Nat.beq x.1 1) (some [(pc + 1, fsh A 0 sk (-1) 1)]) none
  | _ => none
theorem cmp_b (x y : Int64) : -1 ≤ (lg_cmp x y).toInt ∧ (lg_cmp x y).toInt ≤ 1 := by
  unfold lg_cmp
  split
  · decide
  · split
    · decide
    · decide
theorem alcmp_ok (he : alcmp pc A = some L) : Sd J av r0 kr (olcmp pc) A L := by
  intro ls st M kn hJ hg hn
  obtain ⟨rho, hg⟩ := hg
  unfold alcmp at he
  split at he
  · rename_i y x sk hs
    obtain ⟨h0, he⟩ := condN he
    obtain ⟨hy0, hx0⟩ := andT h0
    cases he
    have hl := hg.2.2.2.1
    rw [hs] at hl
    obtain ⟨b, t, rfl, hva, hl2⟩ := gl_l hl hy0
    obtain ⟨a, t, rfl, hwa, hl3⟩ := gl_l hl2 hx0
    exact hn.one hJ (gA_fresh hg hl3 (cmp_b _ _).1 (cmp_b _ _).2)
  · cases he
/-! the stack, jumps -/
theorem cat1 {rho : List Int} {v : Value} {a : AV} (h : gv rho v a) (h0 : Nat.beq (acat a) 1 = true) : Nat.beq v.category 1 = true := by rw [gv_cat h]; exact h0
def aDup (pc : Nat) (A : ASt) : Option (List (Nat × ASt)) := match A.2.1 with
  | a :: sk => cond (Nat.beq (acat a) 1) (some [(pc + 1, (A.1, a :: a :: sk, A.2.2))]) none
  | _ => none
theorem aDup_ok (he : aDup pc A = some L) : Sd J av r0 kr (oDup pc) A L := by
  intro ls st M kn hJ hg hn
  obtain ⟨rho, hg⟩ := hg
  unfold aDup at he
  split at he
  · rename_i a sk hs
    obtain ⟨h0, he⟩ := condN he
    cases he
    have hl := hg.2.2.2.1
    rw [hs] at hl
    obtain ⟨v, t, rfl, hva, hl2⟩ := gl_1 hl
    simp only [oDup, cat1 hva h0, cond_true]
    exact hn.one hJ ⟨rho, gA_stk hg ⟨hva, hva, hl2⟩⟩
  · cases he
def aPop (pc : Nat) (A : ASt) : Option (List (Nat × ASt)) := match A.2.1 with
  | a :: sk => cond (Nat.beq (acat a) 1) (some [(pc + 1, (A.1, sk, A.2.2))]) none
  | _ => none
theorem aPop_ok (he : aPop pc A = some L) : Sd J av r0 kr (oPop pc) A L := by
  intro ls st M kn hJ hg hn
  obtain ⟨rho, hg⟩ := hg
  unfold aPop at he
  split at he
  · rename_i a sk hs
    obtain ⟨h0, he⟩ := condN he
    cases he
    have hl := hg.2.2.2.1
    rw [hs] at hl
    obtain ⟨v, t, rfl, hva, hl2⟩ := gl_1 hl
    simp only [oPop, cat1 hva h0, cond_true]
    exact hn.one hJ ⟨rho, gA_stk hg hl2⟩
  · cases he
def aDup2 (pc : Nat) (A : ASt) : Option (List (Nat × ASt)) := match A.2.1 with
  | a :: b :: sk => cond (Nat.beq (acat a) 1 && Nat.beq (acat b) 1) (some [(pc + 1, (A.1, a :: b :: a :: b :: sk, A.2.2))]) none
  | _ => none
theorem aDup2_ok (he : aDup2 pc A = some L) : Sd J av r0 kr (oDup2 pc) A L := by
  intro ls st M kn hJ hg hn
  obtain ⟨rho, hg⟩ := hg
  unfold aDup2 at he
  split at he
  · rename_i a b sk hs
    obtain ⟨h0, he⟩ := condN he
    cases he
    obtain ⟨h1, h2⟩ := andT h0
    have hl := hg.2.2.2.1
    rw [hs] at hl
    obtain ⟨v, t, rfl, hva, hl2⟩ := gl_1 hl
    obtain ⟨w, t, rfl, hwa, hl3⟩ := gl_1 hl2
    simp only [oDup2, cat1 hva h1, cat1 hwa h2, Bool.and_self, cond_true]
    exact hn.one hJ ⟨rho, gA_stk hg ⟨hva, hwa, hva, hwa, hl3⟩⟩
  · cases he
def aGo (t : Nat) (A : ASt) : Option (List (Nat × ASt)) := some [(t, A)]
theorem aGo_ok {t : Nat} (he : aGo t A = some L) : Sd J av r0 kr (oGo t) A L := by
  intro ls st M kn hJ hg hn
  cases he
  exact hn.one hJ hg
def aIf (pc t k : Nat) (A : ASt) : Option (List (Nat × ASt)) := match A.2.1 with
  | x :: sk => cond (Nat.beq x.1 0) (two pc t k A x (cst 0) sk) none
  | _ => none
theorem aIf_ok {t k : Nat} (he : aIf pc t k A = some L) : Sd J av r0 kr (oIf pc t (fun x => cpP k x 0) (fun x => cpN k x 0)) A L := by
  intro ls st M kn hJ hg hn
  obtain ⟨rho, hg⟩ := hg
  unfold aIf at he
  split at he
  · rename_i x sk hs
    obtain ⟨h0, he⟩ := condN he
    have hl := hg.2.2.2.1
    rw [hs] at hl
    obtain ⟨a, u, rfl, hva, hl2⟩ := gl_i hl h0
    exact two_ok (b := 0) hJ hg hva (gv_cst (v := 0) hg.2.1) hl2 he hn
  · cases he
def aCm (pc t k : Nat) (A : ASt) : Option (List (Nat × ASt)) := match A.2.1 with
  | y :: x :: sk => cond (Nat.beq y.1 0 && Nat.beq x.1 0) (two pc t k A x y sk) none
  | _ => none
theorem aCm_ok {t k : Nat} (he : aCm pc t k A = some L) : Sd J av r0 kr (oCm pc t (cpP k) (cpN k)) A L := by
  intro ls st M kn hJ hg hn
  obtain ⟨rho, hg⟩ := hg
  unfold aCm at he
  split at he
  · rename_i y x sk hs
    obtain ⟨h0, he⟩ := condN he
    obtain ⟨hy0, hx0⟩ := andT h0
    have hl := hg.2.2.2.1
    rw [hs] at hl
    obtain ⟨b, t, rfl, hva, hl2⟩ := gl_i hl hy0
    obtain ⟨a, t, rfl, hwa, hl3⟩ := gl_i hl2 hx0
    exact two_ok hJ hg hwa hva hl3 he hn
  · cases he
/-- a switch: every case from the state narrowed to it, and what is left -/
def tsL (A : ASt) (x : AV) (sk : List AV) : Int → List Nat → List (Nat × ASt)
  | _, [] => []
  | v, t :: u => on1 t (A.1, sk, rfn A.2.2.1 x (v, v), A.2.2.2) ++ tsL A x sk (v + 1) u
def aTs (lo : Int) (ts : List Nat) (df : Nat) (A : ASt) : Option (List (Nat × ASt)) := match A.2.1 with
  | x :: sk => cond (Nat.beq x.1 0) (some (tsL A x sk lo ts ++ [(df, (A.1, sk, A.2.2))])) none
  | _ => none
theorem tsL_in {x : AV} {sk : List AV} {t : Nat} {B : ASt} : ∀ {ts : List Nat} {lo : Int} {k : Nat}, ts[k]? = some t → (t, B) ∈ on1 t (A.1, sk, rfn A.2.2.1 x (lo + (k : Int), lo + (k : Int)), A.2.2.2) → (t, B) ∈ tsL A x sk lo ts
  | [], _, k, h, _ => by cases k <;> cases h
  | u :: ts, lo, 0, h, hB => by
    cases h
    rw [show lo + ((0 : Nat) : Int) = lo by omega] at hB
    exact List.mem_append_left _ hB
  | u :: ts, lo, k + 1, h, hB => by
    refine List.mem_append_right _ (tsL_in (ts := ts) (lo := lo + 1) (k := k) h ?_)
    rw [show lo + 1 + (k : Int) = lo + ((k + 1 : Nat) : Int) by omega]
    exact hB
theorem aTs_ok {lo : Int} {ts : List Nat} {df : Nat} (he : aTs lo ts df A = some L) : Sd J av r0 kr (oTs lo ts df) A L := by
  intro ls st M kn hJ hg hn
  obtain ⟨rho, hg⟩ := hg
  unfold aTs at he
  split at he
  · rename_i x sk hs
    obtain ⟨h0, he⟩ := condN he
    have hl := hg.2.2.2.1
    rw [hs] at hl
    obtain ⟨a, u, rfl, hva, hl2⟩ := gl_i hl h0
    cases he
    refine ⟨fun k t hk hx => ?_, fun _ => ?_⟩
    · have hX : gX av r0 M ls u (A.1, sk, rfn A.2.2.1 x (lo + (k : Int), lo + (k : Int)), A.2.2.2) := ⟨rho, rfn_ok hg.1 hva (by show lo + (k : Int) ≤ a.toInt; omega) (by show a.toInt ≤ lo + (k : Int); omega), hg.2.1, hg.2.2.1, hl2, hg.2.2.2.2⟩
      exact hn (t, _) (List.mem_append_left _ (tsL_in hk (on1_in hX))) _ _ _ hJ hX
    · exact hn (df, _) (List.mem_append_right _ (List.mem_singleton.mpr rfl)) _ _ _ hJ ⟨rho, gA_stk hg hl2⟩
  · cases he
/-- a String constant -/
def aSc (pc n i : Nat) (A : ASt) : Option (List (Nat × ASt)) := some [(pc + n, (A.1, (2, 0, 0, [5000 + i]) :: A.2.1, A.2.2))]
theorem aSc_ok {n i : Nat} (he : aSc pc n i A = some L) : Sd J av r0 kr (oSc pc n i) A L := by
  intro ls st M kn hJ hg hn
  obtain ⟨rho, hg⟩ := hg
  cases he
  exact hn.one hJ ⟨rho, gA_stk hg ⟨⟨rfl, List.mem_singleton.mpr rfl⟩, hg.2.2.2.1⟩⟩
end NUM
