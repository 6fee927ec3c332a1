/-! what a text that was read says: the other places' bounds -/
section PXV
variable {b : Nat → Nat} {n e : Nat} {nm : List Nm} {F : Nat → Nat} {W : Int32} {P P' : Ps}
def cpk (j v : Nat) : Prop := (j = 2 → v ≤ 100) ∧ (35 ≤ j ∧ j ≤ 44 → v ≤ 30) ∧ (45 ≤ j ∧ j ≤ 52 → v ≤ 19) ∧ (j = 53 ∨ j = 55 ∨ j = 57 ∨ j = 59 → v ≤ 4) ∧ (300 ≤ j ∧ j ≤ 304 → v ≤ 5)
def PY (F : Nat → Nat) : Prop := ∀ j, cpk j (F j)
def PX (F : Nat → Nat) : Prop := PY F ∧ (F 4 ≠ 0 → F 0 ≠ 0)
theorem Z_u {k v : Nat} (hk : k ≠ 0) (h : F 0 ≠ 0) : uF F k v 0 ≠ 0 := by
  rw [uF_o (Ne.symm hk)]
  exact h
theorem PX_u {k v : Nat} (h : PY F) (hv : cpk k v) : PY (uF F k v) := by
  intro j
  by_cases c : j = k
  · subst c
    rw [uF_s]
    exact hv
  · rw [uF_o c]
    exact h j
theorem cpk_n {k v : Nat} (h2 : k ≠ 2) (h3 : ¬ (35 ≤ k ∧ k ≤ 52)) (h4 : k ≠ 53 ∧ k ≠ 55 ∧ k ≠ 57 ∧ k ≠ 59) (h5 : ¬ (300 ≤ k ∧ k ≤ 304)) : cpk k v :=
  ⟨fun z => absurd z h2, fun z => absurd ⟨z.1, Nat.le_trans z.2 (by decide)⟩ h3, fun z => absurd ⟨Nat.le_trans (by decide) z.1, z.2⟩ h3, fun z => (by omega), fun z => absurd z h5⟩
theorem nam_C (hk : KM F nm) (h : ¬ (nam b n nm 2 e).1 ≠ 0) : (nam b n nm 2 e).2 < F 5 := by
  revert h
  unfold nam
  split
  · split
    · intro h
      exact absurd (show (2 : Nat) ≠ 0 by decide) h
    · rename_i i hi
      split
      · rename_i hs
        intro _
        exact (hk i (nlk_lt hi)).2.1 hs
      · intro h
        exact absurd (show (2 : Nat) ≠ 0 by decide) h
  · intro h
    exact absurd (show (1 : Nat) ≠ 0 by decide) h
theorem PX_ln (hB : B3 (F, W, nm, e)) (hM : KM F nm) (hX : PX F) (h : ln b n F W nm e = .inr P') : PX P'.1 := by
  have hbd : Bd F W nm := hB.1.1
  have B0 : F 0 ≤ 5 := hbd.1.1
  have B1 : F 1 ≤ 4 := hbd.1.2.1
  have B4 : F 4 ≤ 6 := hbd.1.2.2.2.1
  have B5 : F 5 ≤ 5 := hbd.1.2.2.2.2.1
  have hc20 : F 0 * F 1 ≤ 5 * 4 := Nat.mul_le_mul B0 B1
  unfold ln at h
  split at h
  · cases h
  split at h
  · split at h
    · cases h
    unfold lnClose at h
    split at h
    · cases h
    rename_i c1
    split at h
    · cases h
    split at h
    · cases h
    rename_i c3
    cases h
    have w1 := lab_v c1
    have w1 : 2 ≤ tvl b n (tn b n 2 e) ∧ tvl b n (tn b n 2 e) ≤ 5 := w1
    have w3 := lab_v c3
    have w3 : 0 ≤ tvl b n (tn b n 6 e) ∧ tvl b n (tn b n 6 e) ≤ 100 := w3
    exact ⟨PX_u (PX_u (PX_u (PX_u hX.1 (cpk_n (by decide) (by decide) (by decide) (by decide))) (cpk_n (by decide) (by decide) (by decide) (by decide))) ⟨fun _ => w3.2, fun z => absurd z (by decide), fun z => absurd z (by decide), fun z => absurd z (by decide), fun z => absurd z (by decide)⟩) (cpk_n (by decide) (by decide) (by decide) (by decide)), fun _ => by
      dsimp only
      exact Z_u (by decide) (Z_u (by decide) (Z_u (by decide) (by rw [uF_s]; omega)))⟩
  split at h
  · cases h
  rename_i c0
  split at h
  · unfold lnWall at h
    split at h
    · cases h
    split at h
    · cases h
    split at h
    · cases h
    split at h
    · cases h
    cases h
    exact ⟨PX_u hX.1 (cpk_n (by decide) (by decide) (by decide) (by decide)), fun _ => by
      dsimp only
      exact Z_u (by decide) c0⟩
  split at h
  · unfold lnFace at h
    split at h
    · cases h
    rename_i c1
    split at h
    · cases h
    split at h
    · cases h
    split at h
    · cases h
    split at h
    · cases h
    split at h
    · cases h
    split at h
    · cases h
    cases h
    exact ⟨PX_u (PX_u (PX_u (PX_u (PX_u hX.1 (cpk_n (by omega) (by omega) (by omega) (by omega))) (cpk_n (by omega) (by omega) (by omega) (by omega))) (cpk_n (by omega) (by omega) (by omega) (by omega))) (cpk_n (by omega) (by omega) (by omega) (by omega))) (cpk_n (by decide) (by decide) (by decide) (by decide)), fun _ => by
      dsimp only
      exact Z_u (by decide) (Z_u (by omega) (Z_u (by omega) (Z_u (by omega) (Z_u (by omega) c0))))⟩
  split at h
  · unfold lnCanon at h
    split at h
    · cases h
    rename_i c1
    split at h
    · cases h
    split at h
    · cases h
    rename_i c2
    split at h
    · cases h
    split at h
    · cases h
    rename_i c4
    split at h
    · cases h
    rename_i c5
    cases h
    have hM2 : KM (uF F 5 (F 5 + 1)) (nm ++ [nw b n (tn b n 1 e) 2 (F 5)]) := KM_a (KM_c hM (Nat.le_of_eq (uF_o (by decide)).symm) (by rw [uF_s]; omega) (Nat.le_of_eq (uF_o (by decide)).symm)) ⟨fun z => absurd (show (2 : Nat) = 1 from z) (by decide), fun _ => (by show F 5 < uF F 5 (F 5 + 1) 5; rw [uF_s]; omega), fun z => absurd (show (2 : Nat) = 3 from z) (by decide)⟩
    have f4 := nam_F hM2 c2
    rw [uF_o (by decide)] at f4
    have w4 := lab_v c4
    have w5 := lab_v c5
    have w4 : 1 ≤ tvl b n (tn b n 4 e) ∧ tvl b n (tn b n 4 e) ≤ 30 := w4
    have w5 : 1 ≤ tvl b n (tn b n 6 e) ∧ tvl b n (tn b n 6 e) ≤ 9 := w5
    have f5 := Nat.le_of_lt_succ (Nat.lt_of_lt_of_le f4 B4)
    exact ⟨PX_u (PX_u (PX_u (PX_u hX.1 ⟨fun z => by omega, fun z => by omega, fun z => by omega, fun z => by omega, fun _ => f5⟩) ⟨fun z => by omega, fun _ => w4.2, fun z => by omega, fun z => by omega, fun z => by omega⟩) ⟨fun z => by omega, fun _ => Nat.le_trans w5.2 (by decide), fun z => by omega, fun z => by omega, fun z => by omega⟩) (cpk_n (by decide) (by decide) (by decide) (by decide)), fun _ => by
      dsimp only
      exact Z_u (by decide) (Z_u (by omega) (Z_u (by omega) (Z_u (by omega) c0)))⟩
  split at h
  · unfold lnWalker at h
    split at h
    · cases h
    rename_i c1
    split at h
    · cases h
    split at h
    · cases h
    rename_i c3
    split at h
    · cases h
    split at h
    · cases h
    rename_i c5
    split at h
    · cases h
    cases h
    have w3 := lab_v c3
    have w5 := lab_v c5
    have w3 : 0 ≤ tvl b n (tn b n 3 e) ∧ tvl b n (tn b n 3 e) ≤ F 0 * F 1 - 1 := w3
    have w5 : 0 ≤ tvl b n (tn b n 5 e) ∧ tvl b n (tn b n 5 e) ≤ F 0 * F 1 - 1 := w5
    have v3 : tvl b n (tn b n 3 e) ≤ 19 := Nat.le_trans w3.2 (by omega)
    have v5 : tvl b n (tn b n 5 e) ≤ 19 := Nat.le_trans w5.2 (by omega)
    exact ⟨PX_u (PX_u (PX_u hX.1 ⟨fun z => by omega, fun z => by omega, fun _ => v3, fun z => by omega, fun z => by omega⟩) ⟨fun z => by omega, fun z => by omega, fun _ => v5, fun z => by omega, fun z => by omega⟩) (cpk_n (by decide) (by decide) (by decide) (by decide)), fun _ => by
      dsimp only
      exact Z_u (by decide) (Z_u (by omega) (Z_u (by omega) c0))⟩
  split at h
  · unfold lnUnsure at h
    split at h
    · cases h
    rename_i c1
    split at h
    · cases h
    rename_i c2
    split at h
    · cases h
    split at h
    · cases h
    cases h
    have f5 := Nat.le_of_lt_succ (Nat.lt_of_lt_of_le (nam_C hM c2) B5)
    exact ⟨PX_u (PX_u (PX_u hX.1 ⟨fun z => by omega, fun z => by omega, fun z => by omega, fun _ => f5, fun z => by omega⟩) (cpk_n (by omega) (by omega) (by omega) (by omega))) (cpk_n (by decide) (by decide) (by decide) (by decide)), fun _ => by
      dsimp only
      exact Z_u (by decide) (Z_u (by omega) (Z_u (by omega) c0))⟩
  · unfold lnDropped at h
    split at h
    · cases h
    rename_i c1
    split at h
    · cases h
    split at h
    · cases h
    cases h
    have f4 := nam_F hM c1
    exact ⟨PX_u (PX_u hX.1 (cpk_n (by omega) (by omega) (by omega) (by omega))) (cpk_n (by decide) (by decide) (by decide) (by decide)), fun _ => by
      dsimp only
      exact Z_u (by decide) (Z_u (by omega) c0)⟩
theorem PX_rd : ∀ (k : Nat) (P P' : Ps), B3 P → PK P → PX P.1 → P.2.2.2 ≤ n → rdT b n k P = .inr P' → PX P'.1 := by
  intro k
  induction k with
  | zero => intro P P' _ _ _ _ h; cases h
  | succ k ih =>
    intro P P' hB hK hX he h
    obtain ⟨F, W, nm, e⟩ := P
    unfold rdT at h
    split at h
    · cases h
    · rename_i P1 hl
      have h1 := PK_ln hB hK hl
      have h2 := PX_ln hB hK.2 hX hl
      obtain ⟨b1, b2, -⟩ := B3_ln hB he hl
      split at h
      · split at h
        · cases h; exact h2
        · cases h
      · split at h
        · exact ih (P1.1, P1.2.1, P1.2.2.1, tsp b n P1.2.2.2) P' b1 h1 h2 (tsp_b b2).2 h
        · cases h
theorem PX_00 : PX P00.1 := ⟨fun j => ⟨fun _ => Nat.zero_le _, fun _ => Nat.zero_le _, fun _ => Nat.zero_le _, fun _ => Nat.zero_le _, fun _ => Nat.zero_le _⟩, fun h => absurd rfl h⟩
end PXV
