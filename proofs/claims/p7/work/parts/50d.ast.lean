/-! the plain state of a close: plan, how it is now, what was kept, images; what each act does to it -/
section AST
abbrev Rw : Type := Nat → Int32
abbrev Ast : Type := Ps × Rw × List Rw × List Rw
def rD (U : List Rw) (j : Nat) : Rw := U.getD j (fun _ => 0)
/-- the moment a of the class says the row S (for F faces, C canons) -/
def MR (F C a : Nat) (S : Rw) (I : Nat → Nat → Int32) : Prop := (∀ f, f < F → I (a + 1) f = S f ∧ I (a + 2) f = S (6 + f) ∧ I (a + 3) f = S (12 + f)) ∧ (∀ c, c < C → I (a + 4) c = S (18 + c)) ∧ I a 4 = S 23 ∧ I a 5 = S 24
def kSl (x k j : Nat) : Nat := (x + 16 - k + j) % 16
def AS6 (A : Ast) (p : Nat) (I : Nat → Nat → Int32) : Prop := PC p A.1.1 A.1.2.1 I ∧ MR (A.1.1 4) (A.1.1 5) 33 A.2.1 I ∧ (∃ x, x < 16 ∧ I 1 5 = nI x ∧ ∀ j, j < A.2.2.1.length → MR (A.1.1 4) (A.1.1 5) (55 + 5 * kSl x A.2.2.1.length j) (rD A.2.2.1 j) I) ∧ I 1 6 = nI A.2.2.1.length ∧ I 1 8 = nI A.2.2.2.length ∧ ∀ j, j < A.2.2.2.length → MR (A.1.1 4) (A.1.1 5) (55 + 5 * (16 + j)) (rD A.2.2.2 j) I
def AS7 (A : Ast) (I : Nat → Nat → Int32) : Prop := I 150 14 = 1 ∧ FS A.1.1 A.1.2.1 I ∧ FH 155 A.1.1 I ∧ (∀ i, i < 25 → I 157 i = A.2.1 i) ∧ I 150 22 = nI A.2.2.1.length ∧ (∀ j, j < A.2.2.1.length → ∀ i, i < 25 → I 158 (25 * j + i) = rD A.2.2.1 j i) ∧ I 150 23 = nI A.2.2.2.length ∧ ∀ j, j < A.2.2.2.length → ∀ i, i < 25 → I 159 (25 * j + i) = rD A.2.2.2 j i
def RI (P : Ps) (S : Rw) : Prop := (∀ f, f < P.1 4 → ∃ h, h ≤ 99 ∧ S f = nI h) ∧ (∀ c, c < P.1 5 → ∃ j, j < P.1 4 ∧ S (18 + c) = nI j) ∧ (∀ c c', c < c' → c' < P.1 5 → S (18 + c) ≠ S (18 + c')) ∧ ∃ n, n ≤ 999 ∧ S 23 = nI n ∧ ∀ f, f < P.1 4 → ∃ k, k ≤ n ∧ S (12 + f) = nI k
def RA (A : Ast) : Prop := (B3 A.1 ∧ PI A.1.1 ∧ 0 < A.1.1 4) ∧ (A.2.2.1.length ≤ 16 ∧ A.2.2.2.length ≤ 3) ∧ RI A.1 A.2.1 ∧ (∀ j, j < A.2.2.1.length → RI A.1 (rD A.2.2.1 j)) ∧ ∀ j, j < A.2.2.2.length → RI A.1 (rD A.2.2.2 j)
def psh (U : List Rw) (S : Rw) : List Rw := if U.length < 16 then U ++ [S] else U.drop 1 ++ [S]
theorem psh_len {U : List Rw} {S : Rw} (h : U.length ≤ 16) : (psh U S).length = if U.length < 16 then U.length + 1 else 16 := by
  unfold psh
  split
  · rw [List.length_append]; rfl
  · rw [List.length_append, List.length_drop]
    show U.length - 1 + 1 = 16
    omega
theorem rD_a {U : List Rw} {S : Rw} {j : Nat} (h : j < U.length) : rD (U ++ [S]) j = rD U j := by
  unfold rD
  rw [List.getD_eq_getElem?_getD, List.getD_eq_getElem?_getD, List.getElem?_append_left h]
theorem rD_l {U : List Rw} {S : Rw} {j : Nat} (h : j = U.length) : rD (U ++ [S]) j = S := by
  unfold rD
  rw [List.getD_eq_getElem?_getD, List.getElem?_append_right (by omega), h, Nat.sub_self]
  rfl
theorem rD_d {U : List Rw} {j : Nat} : rD (U.drop 1) j = rD U (j + 1) := by
  unfold rD
  rw [List.getD_eq_getElem?_getD, List.getD_eq_getElem?_getD, List.getElem?_drop, Nat.add_comm]
/-- the rows that stand behind a push -/
theorem psh_D {U : List Rw} {S : Rw} {j : Nat} (h : U.length ≤ 16) (hj : j < (psh U S).length) : (j = (psh U S).length - 1 ∧ rD (psh U S) j = S) ∨ (j < (psh U S).length - 1 ∧ rD (psh U S) j = rD U (if U.length < 16 then j else j + 1) ∧ (if U.length < 16 then j else j + 1) < U.length) := by
  rw [psh_len h] at hj ⊢
  unfold psh
  by_cases c : U.length < 16
  · rw [if_pos c] at hj
    rw [if_pos c, if_pos c, if_pos c]
    by_cases e : j = U.length
    · exact Or.inl ⟨by omega, rD_l e⟩
    · exact Or.inr ⟨by omega, rD_a (by omega), by omega⟩
  · rw [if_neg c] at hj
    rw [if_neg c, if_neg c, if_neg c]
    by_cases e : j = 15
    · refine Or.inl ⟨by omega, rD_l ?_⟩
      rw [List.length_drop]
      omega
    · refine Or.inr ⟨by omega, ?_, by omega⟩
      rw [rD_a (by rw [List.length_drop]; omega), rD_d]
variable {F C a b p x : Nat} {S : Rw} {I I' : Nat → Nat → Int32} {A : Ast}
theorem MR_o (h : MR F C a S I) (he : ∀ c i, a ≤ c → c ≤ a + 4 → I' c i = I c i) : MR F C a S I' := by
  obtain ⟨h1, h2, h3, h4⟩ := h
  refine ⟨fun f hf => ?_, fun c hc => ?_, ?_, ?_⟩
  · rw [he (a + 1) f (by omega) (by omega), he (a + 2) f (by omega) (by omega), he (a + 3) f (by omega) (by omega)]; exact h1 f hf
  · rw [he (a + 4) c (by omega) (by omega)]; exact h2 c hc
  · rw [he a 4 (by omega) (by omega)]; exact h3
  · rw [he a 5 (by omega) (by omega)]; exact h4
theorem MR_cp (hF : F ≤ 6) (hC : C ≤ 5) (h : MR F C a S I) (h2 : ∀ f, f < 6 → I' (b + 1) f = I (a + 1) f ∧ I' (b + 2) f = I (a + 2) f ∧ I' (b + 3) f = I (a + 3) f) (h3 : ∀ c, c < 5 → I' (b + 4) c = I (a + 4) c) (h4 : I' b 4 = I a 4) (h5 : I' b 5 = I a 5) : MR F C b S I' := by
  refine ⟨fun f hf => ?_, fun c hc => ?_, h4.trans h.2.2.1, h5.trans h.2.2.2⟩
  · obtain ⟨x1, x2, x3⟩ := h2 f (by omega)
    rw [x1, x2, x3]
    exact h.1 f hf
  · rw [h3 c (by omega)]; exact h.2.1 c hc
theorem ra_FC (h : RA A) : A.1.1 4 ≤ 6 ∧ A.1.1 5 ≤ 5 := ⟨h.1.1.1.1.1.2.2.2.1, h.1.1.1.1.1.2.2.2.2.1⟩
theorem AS6_keep {k : Nat} (hp : p = 7 ∨ p = 20) (hR : RA A) (h : AS6 A p I) (hx : x < 16) (e5 : I 1 5 = nI x) (hk : A.2.2.1.length = k) (hke : keO x k I I') : AS6 (A.1, A.2.1, psh A.2.2.1 A.2.1, A.2.2.2) p I' := by
  obtain ⟨P, S, U, G⟩ := A
  obtain ⟨h1, h2, ⟨x', hx', e5', h3⟩, h4, h5, h6⟩ := h
  obtain ⟨hF, hC⟩ := ra_FC hR
  have hU : U.length ≤ 16 := hR.2.1.1
  have hG : G.length ≤ 3 := hR.2.1.2
  have ex : x' = x := (nI_eq (by omega) (by omega)).mp (e5'.symm.trans e5)
  subst ex
  obtain ⟨j1, j2, j3, j4, j5, j6, j7⟩ := hke
  have hk : U.length = k := hk
  subst hk
  have o : ∀ c i, ¬ (55 + 5 * x' ≤ c ∧ c ≤ 59 + 5 * x') → c ≠ 1 → I' c i = I c i := fun c i z1 z2 => j1 c i z1 (by omega)
  refine ⟨PC_cq hp hR.1.1 h1 (fun a k z1 z2 _ => o a k (by omega) (by omega)), MR_o h2 (fun c i z1 z2 => o c i (by omega) (by omega)), ⟨(x' + 1) % 16, by omega, j6, fun j hj => ?_⟩, ?_, ?_, fun j hj => ?_⟩
  · have hj : j < (psh U S).length := hj
    show MR (P.1 4) (P.1 5) (55 + 5 * kSl ((x' + 1) % 16) (psh U S).length j) (rD (psh U S) j) I'
    have hl := psh_len (S := S) hU
    rcases psh_D hU hj with ⟨z1, z2⟩ | ⟨z1, z2, z3⟩
    · rw [z2]
      have es : kSl ((x' + 1) % 16) (psh U S).length j = x' := by
        unfold kSl
        rw [z1, hl]
        split <;> omega
      rw [es]
      exact MR_cp hF hC h2 j2 j3 j4 j5
    · rw [z2]
      have es : kSl ((x' + 1) % 16) (psh U S).length j = kSl x' U.length (if U.length < 16 then j else j + 1) := by
        unfold kSl
        rw [hl] at z1 ⊢
        split at z1 <;> rename_i c
        · rw [if_pos c, if_pos c]; omega
        · rw [if_neg c, if_neg c]; omega
      have ns : kSl x' U.length (if U.length < 16 then j else j + 1) ≠ x' := by
        unfold kSl
        rw [hl] at z1
        split at z1 <;> rename_i c
        · rw [if_pos c]; omega
        · rw [if_neg c]; omega
      rw [es]
      exact MR_o (h3 _ z3) (fun c i y1 y2 => o c i (by omega) (by omega))
  · show I' 1 6 = nI (psh U S).length
    rw [j7, psh_len hU]
  · show I' 1 8 = nI G.length
    rw [j1 1 8 (by omega) (by omega)]; exact h5
  · have hj : j < G.length := hj
    exact MR_o (h6 j hj) (fun c i y1 y2 => o c i (by omega) (by omega))
end AST
