/-! more of the checker's steps: references, any operation of two ints, differences, products, bits -/
def aAl (pc n i : Nat) (A : ASt) : Option (List (Nat × ASt)) := match ag A.1 i with
  | some a => cond (Nat.beq a.1 2 && a.2.2.2.all (Nat.blt 0)) (some [(pc + n, (A.1, a :: A.2.1, A.2.2))]) none
  | none => none
theorem aAl_ok {r0 : List Int} {pc n i : Nat} {A : ASt} {L : List (Nat × ASt)} {ls : Ls} {st : List Value} {M : Mm} {kn : KN} {kr : KR} (he : aAl pc n i A = some L) (h : gX r0 ls st A) (hn : ∀ z ∈ L, ∀ ls' st', gX r0 ls' st' z.2 → kn z.1 ls' st' M) : oAl pc n i kn kr ls st M := by
  obtain ⟨rho, hg⟩ := h
  unfold aAl at he
  cases ha : ag A.1 i with
  | none => rw [ha] at he; cases he
  | some a =>
    rw [ha] at he
    obtain ⟨h0, he⟩ := condN he
    cases he
    obtain ⟨h1, h2⟩ := Bool.and_eq_true_iff.mp h0
    obtain ⟨v, hv, hva⟩ := gm_lg hg.2.2.1 ha
    obtain ⟨k, rfl, hm⟩ := gv_ref hva h1
    simp only [oAl, hv, List.all_eq_true.mp h2 k hm, cond_true]
    exact hn _ (List.mem_singleton.mpr rfl) _ _ ⟨rho, hg.1, hg.2.1, hg.2.2.1, hva, hg.2.2.2⟩
/-- two ints, and bounds of what comes of them -/
def a2 (f : Int × Int → Int × Int → Int × Int) (pc : Nat) (A : ASt) : Option (List (Nat × ASt)) := match A.2.1 with
  | y :: x :: sk => cond (Nat.beq y.1 0 && Nat.beq x.1 0) (match ab A.2.2 x, ab A.2.2 y with
    | some p, some q => some [(pc + 1, fsh A sk (f p q).1 (f p q).2)]
    | _, _ => none) none
  | _ => none
theorem a2_ok {r0 : List Int} {f : Int × Int → Int × Int → Int × Int} {g : Int32 → Int32 → Int32} (hf : ∀ (p q : Int × Int) (x y : Int32), (p.1 ≤ x.toInt ∧ x.toInt ≤ p.2) → (q.1 ≤ y.toInt ∧ y.toInt ≤ q.2) → (f p q).1 ≤ (g x y).toInt ∧ (g x y).toInt ≤ (f p q).2) {pc : Nat} {A : ASt} {L : List (Nat × ASt)} {ls : Ls} {st : List Value} {M : Mm} {kn : KN} {kr : KR} (he : a2 f pc A = some L) (h : gX r0 ls st A) (hn : ∀ z ∈ L, ∀ ls' st', gX r0 ls' st' z.2 → kn z.1 ls' st' M) : o2 pc g kn kr ls st M := by
  obtain ⟨rho, hg⟩ := h
  unfold a2 at he
  split at he
  · rename_i y x sk hs
    obtain ⟨h0, he⟩ := condN he
    obtain ⟨hy0, hx0⟩ := Bool.and_eq_true_iff.mp h0
    have hl := hg.2.2.2
    rw [hs] at hl
    obtain ⟨v, t, rfl, hva, hl2⟩ := gl_1 hl
    obtain ⟨w, t, rfl, hwa, hl3⟩ := gl_1 hl2
    obtain ⟨b, rfl⟩ := gv_int hva hy0
    obtain ⟨a, rfl⟩ := gv_int hwa hx0
    cases hp : ab A.2.2 x with
    | none => rw [hp] at he; cases he
    | some p =>
      cases hq : ab A.2.2 y with
      | none => rw [hp, hq] at he; cases he
      | some q =>
        rw [hp, hq] at he
        cases he
        have hb := hf p q a b (ab_ok hg.1 hwa hp) (ab_ok hg.1 hva hq)
        exact hn _ (List.mem_singleton.mpr rfl) _ _ (gA_fresh hg hl3 hb.1 hb.2)
  · cases he
def bAny (_ _ : Int × Int) : Int × Int := (iLo, iHi)
theorem bAny_ok {g : Int32 → Int32 → Int32} (p q : Int × Int) (x y : Int32) (_ : p.1 ≤ x.toInt ∧ x.toInt ≤ p.2) (_ : q.1 ≤ y.toInt ∧ y.toInt ≤ q.2) : (bAny p q).1 ≤ (g x y).toInt ∧ (g x y).toInt ≤ (bAny p q).2 := ⟨i32_lo _, i32_hi _⟩
def bSub (p q : Int × Int) : Int × Int := if iLo ≤ p.1 - q.2 ∧ p.2 - q.1 ≤ iHi then (p.1 - q.2, p.2 - q.1) else (iLo, iHi)
theorem bSub_ok (p q : Int × Int) (x y : Int32) (h1 : p.1 ≤ x.toInt ∧ x.toInt ≤ p.2) (h2 : q.1 ≤ y.toInt ∧ y.toInt ≤ q.2) : (bSub p q).1 ≤ (x - y).toInt ∧ (x - y).toInt ≤ (bSub p q).2 := by
  unfold bSub
  split
  · rw [sub_i (by omega) (by omega)]
    show p.1 - q.2 ≤ x.toInt - y.toInt ∧ x.toInt - y.toInt ≤ p.2 - q.1
    omega
  · exact ⟨i32_lo _, i32_hi _⟩
/-- a product of numbers that aren't below 0 -/
def bMul (p q : Int × Int) : Int × Int := if 0 ≤ p.1 ∧ 0 ≤ q.1 ∧ p.2 * q.2 ≤ iHi then (p.1 * q.1, p.2 * q.2) else (iLo, iHi)
theorem bMul_ok (p q : Int × Int) (x y : Int32) (h1 : p.1 ≤ x.toInt ∧ x.toInt ≤ p.2) (h2 : q.1 ≤ y.toInt ∧ y.toInt ≤ q.2) : (bMul p q).1 ≤ (x * y).toInt ∧ (x * y).toInt ≤ (bMul p q).2 := by
  unfold bMul
  split
  · rename_i h
    have e1 : p.1 * q.1 ≤ x.toInt * y.toInt := Int.mul_le_mul h1.1 h2.1 h.2.1 (by omega)
    have e2 : x.toInt * y.toInt ≤ p.2 * q.2 := Int.mul_le_mul h1.2 h2.2 (by omega) (by omega)
    have e3 : 0 ≤ p.1 * q.1 := Int.mul_nonneg h.1 h.2.1
    have e4 : iLo ≤ 0 := by decide
    rw [mul_i (by omega) (by omega)]
    exact ⟨e1, e2⟩
  · exact ⟨i32_lo _, i32_hi _⟩
