/-! the checker's steps on the stack, divisions, longs -/
theorem cat1 {rho : List Int} {v : Value} {a : AV} (h : gv rho v a) (h0 : Nat.beq (acat a) 1 = true) : Nat.beq v.category 1 = true := by rw [gv_cat h]; exact h0
def aDup (pc : Nat) (A : ASt) : Option (List (Nat × ASt)) := match A.2.1 with
  | a :: sk => cond (Nat.beq (acat a) 1) (some [(pc + 1, (A.1, a :: a :: sk, A.2.2))]) none
  | _ => none
theorem aDup_ok {r0 : List Int} {pc : Nat} {A : ASt} {L : List (Nat × ASt)} {ls : Ls} {st : List Value} {M : Mm} {kn : KN} {kr : KR} (he : aDup pc A = some L) (h : gX r0 ls st A) (hn : ∀ z ∈ L, ∀ ls' st', gX r0 ls' st' z.2 → kn z.1 ls' st' M) : oDup pc kn kr ls st M := by
  obtain ⟨rho, hg⟩ := h
  unfold aDup at he
  split at he
  · rename_i a sk hs
    obtain ⟨h0, he⟩ := condN he
    cases he
    have hl := hg.2.2.2
    rw [hs] at hl
    obtain ⟨v, t, rfl, hva, hl2⟩ := gl_1 hl
    simp only [oDup, cat1 hva h0, cond_true]
    exact hn _ (List.mem_singleton.mpr rfl) _ _ ⟨rho, hg.1, hg.2.1, hg.2.2.1, hva, hva, hl2⟩
  · cases he
def aPop (pc : Nat) (A : ASt) : Option (List (Nat × ASt)) := match A.2.1 with
  | a :: sk => cond (Nat.beq (acat a) 1) (some [(pc + 1, (A.1, sk, A.2.2))]) none
  | _ => none
theorem aPop_ok {r0 : List Int} {pc : Nat} {A : ASt} {L : List (Nat × ASt)} {ls : Ls} {st : List Value} {M : Mm} {kn : KN} {kr : KR} (he : aPop pc A = some L) (h : gX r0 ls st A) (hn : ∀ z ∈ L, ∀ ls' st', gX r0 ls' st' z.2 → kn z.1 ls' st' M) : oPop pc kn kr ls st M := by
  obtain ⟨rho, hg⟩ := h
  unfold aPop at he
  split at he
  · rename_i a sk hs
    obtain ⟨h0, he⟩ := condN he
    cases he
    have hl := hg.2.2.2
    rw [hs] at hl
    obtain ⟨v, t, rfl, hva, hl2⟩ := gl_1 hl
    simp only [oPop, cat1 hva h0, cond_true]
    exact hn _ (List.mem_singleton.mpr rfl) _ _ ⟨rho, hg.1, hg.2.1, hg.2.2.1, hl2⟩
  · cases he
def aDup2 (pc : Nat) (A : ASt) : Option (List (Nat × ASt)) := match A.2.1 with
  | a :: b :: sk => cond (Nat.beq (acat a) 1 && Nat.beq (acat b) 1) (some [(pc + 1, (A.1, a :: b :: a :: b :: sk, A.2.2))]) none
  | _ => none
theorem aDup2_ok {r0 : List Int} {pc : Nat} {A : ASt} {L : List (Nat × ASt)} {ls : Ls} {st : List Value} {M : Mm} {kn : KN} {kr : KR} (he : aDup2 pc A = some L) (h : gX r0 ls st A) (hn : ∀ z ∈ L, ∀ ls' st', gX r0 ls' st' z.2 → kn z.1 ls' st' M) : oDup2 pc kn kr ls st M := by
  obtain ⟨rho, hg⟩ := h
  unfold aDup2 at he
  split at he
  · rename_i a b sk hs
    obtain ⟨h0, he⟩ := condN he
    cases he
    obtain ⟨h1, h2⟩ := Bool.and_eq_true_iff.mp h0
    have hl := hg.2.2.2
    rw [hs] at hl
    obtain ⟨v, t, rfl, hva, hl2⟩ := gl_1 hl
    obtain ⟨w, t, rfl, hwa, hl3⟩ := gl_1 hl2
    simp only [oDup2, cat1 hva h1, cat1 hwa h2, Bool.and_self, cond_true]
    exact hn _ (List.mem_singleton.mpr rfl) _ _ ⟨rho, hg.1, hg.2.1, hg.2.2.1, hva, hwa, hva, hwa, hl3⟩
  · cases he
/-- a division: the divisor's bounds leave 0 out -/
def a2d (f : Int × Int → Int × Int → Int × Int) (pc : Nat) (A : ASt) : Option (List (Nat × ASt)) := match A.2.1 with
  | y :: x :: sk => cond (Nat.beq y.1 0 && Nat.beq x.1 0) (match ab A.2.2 x, ab A.2.2 y with
    | some p, some q => cond (decide (0 < q.1 ∨ q.2 < 0)) (some [(pc + 1, fsh A sk (f p q).1 (f p q).2)]) none
    | _, _ => none) none
  | _ => none
theorem a2d_ok {r0 : List Int} {f : Int × Int → Int × Int → Int × Int} {g : Int32 → Int32 → Int32} (hf : ∀ (p q : Int × Int) (x y : Int32), (p.1 ≤ x.toInt ∧ x.toInt ≤ p.2) → (q.1 ≤ y.toInt ∧ y.toInt ≤ q.2) → (f p q).1 ≤ (g x y).toInt ∧ (g x y).toInt ≤ (f p q).2) {pc : Nat} {A : ASt} {L : List (Nat × ASt)} {ls : Ls} {st : List Value} {M : Mm} {kn : KN} {kr : KR} (he : a2d f pc A = some L) (h : gX r0 ls st A) (hn : ∀ z ∈ L, ∀ ls' st', gX r0 ls' st' z.2 → kn z.1 ls' st' M) : o2d pc g kn kr ls st M := by
  obtain ⟨rho, hg⟩ := h
  unfold a2d at he
  split at he
  · rename_i y x sk hs
    obtain ⟨h0, he⟩ := condN he
    obtain ⟨hy0, hx0⟩ := Bool.and_eq_true_iff.mp h0
    have hl := hg.2.2.2
    rw [hs] at hl
    obtain ⟨v, t, rfl, hva, hl2⟩ := gl_1 hl
    obtain ⟨w, t, rfl, hwa, hl3⟩ := gl_1 hl2
    obtain ⟨b, rfl⟩ := gv_int hva hy0
    obtain ⟨a, rfl⟩ := gv_int hwa hx0
    cases hp : ab A.2.2 x with
    | none => rw [hp] at he; cases he
    | some p =>
      cases hq : ab A.2.2 y with
      | none => rw [hp, hq] at he; cases he
      | some q =>
        rw [hp, hq] at he
        obtain ⟨h5, he⟩ := condN he
        cases he
        have hd := of_decide_eq_true h5
        have hy := ab_ok hg.1 hva hq
        have hb := hf p q a b (ab_ok hg.1 hwa hp) hy
        refine ⟨fun z => ?_, hn _ (List.mem_singleton.mpr rfl) _ _ (gA_fresh hg hl3 hb.1 hb.2)⟩
        subst z
        have e0 : (0 : Int32).toInt = 0 := rfl
        omega
  · cases he
def lng : AV := (1, 0, 0, [])
def aLc (pc n : Nat) (A : ASt) : Option (List (Nat × ASt)) := some [(pc + n, (A.1, lng :: A.2.1, A.2.2))]
theorem aLc_ok {r0 : List Int} {pc n : Nat} {v : Int64} {A : ASt} {L : List (Nat × ASt)} {ls : Ls} {st : List Value} {M : Mm} {kn : KN} {kr : KR} (he : aLc pc n A = some L) (h : gX r0 ls st A) (hn : ∀ z ∈ L, ∀ ls' st', gX r0 ls' st' z.2 → kn z.1 ls' st' M) : oLc pc n v kn kr ls st M := by
  obtain ⟨rho, hg⟩ := h
  cases he
  exact hn _ (List.mem_singleton.mpr rfl) _ _ ⟨rho, hg.1, hg.2.1, hg.2.2.1, rfl, hg.2.2.2⟩
