/-! what a text that was read says: bounds, each canon with a face of his own -/
section PIV
variable {b : Nat → Nat} {n e : Nat} {nm : List Nm} {F F' : Nat → Nat} {W : Int32} {P P' : Ps}
def PI (F : Nat → Nat) : Prop := (∀ f, f < F 4 → (1 ≤ F (12 + 4 * f) ∧ F (12 + 4 * f) ≤ 99) ∧ F (13 + 4 * f) ≤ 9 ∧ F (11 + 4 * f) ≤ 2 ∧ F (14 + 4 * f) ≤ 19) ∧ (∀ c, c < F 5 → F (300 + c) < F 4 ∧ (1 ≤ F (35 + 2 * c) ∧ F (35 + 2 * c) ≤ 30) ∧ 1 ≤ F (36 + 2 * c) ∧ F (36 + 2 * c) ≤ 9) ∧ (∀ c c', c < c' → c' < F 5 → F (300 + c) ≠ F (300 + c')) ∧ ∀ f f', f < f' → f' < F 4 → F (14 + 4 * f) ≠ F (14 + 4 * f')
theorem PI_cg (h : PI F) (B4 : F 4 ≤ 6) (B5 : F 5 ≤ 5) (he : ∀ j, (j = 4 ∨ j = 5 ∨ (11 ≤ j ∧ j ≤ 44) ∨ (300 ≤ j ∧ j ≤ 304)) → F' j = F j) : PI F' := by
  have e4 : F' 4 = F 4 := he 4 (by omega)
  have e5 : F' 5 = F 5 := he 5 (by omega)
  refine ⟨fun f hf => ?_, fun c hc => ?_, fun c c' h1 h2 => ?_, fun f f' h1 h2 => ?_⟩
  · rw [e4] at hf
    rw [he (12 + 4 * f) (by omega), he (13 + 4 * f) (by omega), he (11 + 4 * f) (by omega), he (14 + 4 * f) (by omega)]
    exact h.1 f hf
  · rw [e5] at hc
    rw [he (300 + c) (by omega), he (35 + 2 * c) (by omega), he (36 + 2 * c) (by omega), e4]
    exact h.2.1 c hc
  · rw [e5] at h2
    rw [he (300 + c) (by omega), he (300 + c') (by omega)]
    exact h.2.2.1 c c' h1 h2
  · rw [e4] at h2
    rw [he (14 + 4 * f) (by omega), he (14 + 4 * f') (by omega)]
    exact h.2.2.2 f f' h1 h2
theorem nlk_lt {i : Nat} (h : nlk b n nm e = some i) : i < nm.length := by
  have := (ff_lt h).2.1
  omega
theorem nam_F (hk : KM F nm) (h : ¬ (nam b n nm 1 e).1 ≠ 0) : (nam b n nm 1 e).2 < F 4 := by
  revert h
  unfold nam
  split
  · split
    · intro h
      exact absurd (show (2 : Nat) ≠ 0 by decide) h
    · rename_i i hi
      split
      · rename_i hs
        intro _
        exact (hk i (nlk_lt hi)).1 hs
      · intro h
        exact absurd (show (2 : Nat) ≠ 0 by decide) h
  · intro h
    exact absurd (show (1 : Nat) ≠ 0 by decide) h
def PK (P : Ps) : Prop := PI P.1 ∧ KM P.1 P.2.2.1
theorem KM_f {F' : Nat → Nat} {m : List Nm} (h : KM F m) (h4 : F' 4 = F 4) (h5 : F' 5 = F 5) (h6 : F' 6 = F 6) : KM F' m := KM_c h (by omega) (by omega) (by omega)
theorem PK_ln (hB : B3 (F, W, nm, e)) (hK : PK (F, W, nm, e)) (h : ln b n F W nm e = .inr P') : PK P' := by
  have hbd : Bd F W nm := hB.1.1
  have B0 : F 0 ≤ 5 := hbd.1.1
  have B1 : F 1 ≤ 4 := hbd.1.2.1
  have B4 : F 4 ≤ 6 := hbd.1.2.2.2.1
  have B5 : F 5 ≤ 5 := hbd.1.2.2.2.2.1
  have B6 : F 6 ≤ 4 := hbd.1.2.2.2.2.2.1
  have B7 : F 7 ≤ 4 := hbd.1.2.2.2.2.2.2
  have hc20 : F 0 * F 1 ≤ 5 * 4 := Nat.mul_le_mul B0 B1
  obtain ⟨hI, hM⟩ := hK
  have hI : PI F := hI
  have hM : KM F nm := hM
  unfold ln at h
  split at h
  · cases h
  split at h
  · split at h
    · cases h
    unfold lnClose at h
    split at h
    · cases h
    split at h
    · cases h
    split at h
    · cases h
    cases h
    refine ⟨PI_cg hI B4 B5 (fun j hj => ?_), KM_f hM ?_ ?_ ?_⟩
    · show uF (uF (uF (uF F 0 _) 1 _) 2 _) 9 1 j = F j
      rw [uF_o (by omega), uF_o (by omega), uF_o (by omega), uF_o (by omega)]
    all_goals rfl
  split at h
  · cases h
  split at h
  · unfold lnWall at h
    split at h
    · cases h
    split at h
    · cases h
    split at h
    · cases h
    split at h
    · cases h
    cases h
    refine ⟨PI_cg hI B4 B5 (fun j hj => ?_), KM_f hM ?_ ?_ ?_⟩
    · show uF F 3 _ j = F j
      rw [uF_o (by omega)]
    all_goals rfl
  split at h
  · unfold lnFace at h
    split at h
    · cases h
    rename_i c1
    split at h
    · cases h
    split at h
    · cases h
    rename_i kd hk
    split at h
    · cases h
    rename_i c4
    split at h
    · cases h
    rename_i c5
    split at h
    · cases h
    rename_i c6
    split at h
    · cases h
    rename_i c7
    cases h
    have k3 := kin_3 hk
    have w4 := lab_v c4
    have w5 := lab_v c5
    have w6 := lab_v c6
    have w4 : 1 ≤ tvl b n (tn b n 4 e) ∧ tvl b n (tn b n 4 e) ≤ 99 := w4
    have w5 : 0 ≤ tvl b n (tn b n 6 e) ∧ tvl b n (tn b n 6 e) ≤ 9 := w5
    have w6 : 0 ≤ tvl b n (tn b n 8 e) ∧ tvl b n (tn b n 8 e) ≤ F 0 * F 1 - 1 := w6
    generalize hG : uF (uF (uF (uF (uF F (11 + 4 * F 4) kd) (12 + 4 * F 4) (tvl b n (tn b n 4 e))) (13 + 4 * F 4) (tvl b n (tn b n 6 e))) (14 + 4 * F 4) (tvl b n (tn b n 8 e))) 4 (F 4 + 1) = G
    have g4 : G 4 = F 4 + 1 := by rw [← hG]; exact uF_s
    have go : ∀ j, j ≠ 4 → ¬ (11 + 4 * F 4 ≤ j ∧ j ≤ 14 + 4 * F 4) → G j = F j := fun j h1 h2 => by
      rw [← hG, uF_o (by omega), uF_o (by omega), uF_o (by omega), uF_o (by omega), uF_o (by omega)]
    have g11 : G (11 + 4 * F 4) = kd := by rw [← hG, uF_o (by omega), uF_o (by omega), uF_o (by omega), uF_o (by omega), uF_s]
    have g12 : G (12 + 4 * F 4) = tvl b n (tn b n 4 e) := by rw [← hG, uF_o (by omega), uF_o (by omega), uF_o (by omega), uF_s]
    have g13 : G (13 + 4 * F 4) = tvl b n (tn b n 6 e) := by rw [← hG, uF_o (by omega), uF_o (by omega), uF_s]
    have g14 : G (14 + 4 * F 4) = tvl b n (tn b n 8 e) := by rw [← hG, uF_o (by omega), uF_s]
    have g5 : G 5 = F 5 := go 5 (by decide) (by omega)
    have g6 : G 6 = F 6 := go 6 (by decide) (by omega)
    have nv : ∀ f, f < F 4 → F (14 + 4 * f) ≠ tvl b n (tn b n 8 e) := by
      intro f hf z
      have q : fov F (tvl b n (tn b n 8 e)) = none := by
        cases hq : fov F (tvl b n (tn b n 8 e)) with
        | none => rfl
        | some x => rw [hq] at c7; exact absurd rfl c7
      have := ff_none (P := fun g => Nat.beq (F (14 + 4 * g)) (tvl b n (tn b n 8 e))) q f (Nat.zero_le _) (by omega)
      rw [z, Nat.beq_refl] at this
      cases this
    refine ⟨⟨fun f hf => ?_, fun c hc => ?_, fun c c' h1 h2 => ?_, fun f f' h1 h2 => ?_⟩, KM_a (KM_c hM ?_ ?_ ?_) ⟨fun _ => ?_, fun z => ?_, fun z => ?_⟩⟩
    · have hf : f < G 4 := hf
      show (1 ≤ G (12 + 4 * f) ∧ G (12 + 4 * f) ≤ 99) ∧ G (13 + 4 * f) ≤ 9 ∧ G (11 + 4 * f) ≤ 2 ∧ G (14 + 4 * f) ≤ 19
      rw [g4] at hf
      by_cases z : f = F 4
      · subst z
        rw [g11, g12, g13, g14]
        omega
      · rw [go _ (by omega) (by omega), go _ (by omega) (by omega), go _ (by omega) (by omega), go _ (by omega) (by omega)]
        exact hI.1 f (by omega)
    · have hc : c < G 5 := hc
      show G (300 + c) < G 4 ∧ (1 ≤ G (35 + 2 * c) ∧ G (35 + 2 * c) ≤ 30) ∧ 1 ≤ G (36 + 2 * c) ∧ G (36 + 2 * c) ≤ 9
      rw [g5] at hc
      have := hI.2.1 c hc
      rw [go _ (by omega) (by omega), go (35 + 2 * c) (by omega) (by omega), go (36 + 2 * c) (by omega) (by omega), g4]
      exact ⟨by omega, this.2⟩
    · have h2 : c' < G 5 := h2
      show G (300 + c) ≠ G (300 + c')
      rw [g5] at h2
      rw [go _ (by omega) (by omega), go _ (by omega) (by omega)]
      exact hI.2.2.1 c c' h1 h2
    · have h2 : f' < G 4 := h2
      show G (14 + 4 * f) ≠ G (14 + 4 * f')
      rw [g4] at h2
      rw [go (14 + 4 * f) (by omega) (by omega)]
      by_cases z : f' = F 4
      · subst z
        rw [g14]
        exact nv f h1
      · rw [go (14 + 4 * f') (by omega) (by omega)]
        exact hI.2.2.2 f f' h1 (by omega)
    · show F 4 ≤ G 4; omega
    · show F 5 ≤ G 5; omega
    · show F 6 ≤ G 6; omega
    · show F 4 < G 4; omega
    · exact absurd (show (1 : Nat) = 2 from z) (by decide)
    · exact absurd (show (1 : Nat) = 3 from z) (by decide)
  split at h
  · unfold lnCanon at h
    split at h
    · cases h
    rename_i c1
    split at h
    · cases h
    split at h
    · cases h
    rename_i c2
    split at h
    · cases h
    rename_i c3
    split at h
    · cases h
    rename_i c4
    split at h
    · cases h
    rename_i c5
    cases h
    have hM2 : KM (uF F 5 (F 5 + 1)) (nm ++ [nw b n (tn b n 1 e) 2 (F 5)]) := KM_a (KM_c hM (Nat.le_of_eq (uF_o (by decide)).symm) (by rw [uF_s]; omega) (Nat.le_of_eq (uF_o (by decide)).symm)) ⟨fun z => absurd (show (2 : Nat) = 1 from z) (by decide), fun _ => (by show F 5 < uF F 5 (F 5 + 1) 5; rw [uF_s]; omega), fun z => absurd (show (2 : Nat) = 3 from z) (by decide)⟩
    have f4 := nam_F hM2 c2
    rw [uF_o (by decide)] at f4
    have w4 := lab_v c4
    have w5 := lab_v c5
    have w4 : 1 ≤ tvl b n (tn b n 4 e) ∧ tvl b n (tn b n 4 e) ≤ 30 := w4
    have w5 : 1 ≤ tvl b n (tn b n 6 e) ∧ tvl b n (tn b n 6 e) ≤ 9 := w5
    generalize hf : (nam b n (nm ++ [nw b n (tn b n 1 e) 2 (F 5)]) 1 (tn b n 2 e)).2 = v at *
    generalize hG : uF (uF (uF (uF F (300 + F 5) v) (35 + 2 * F 5) (tvl b n (tn b n 4 e))) (36 + 2 * F 5) (tvl b n (tn b n 6 e))) 5 (F 5 + 1) = G
    have g5 : G 5 = F 5 + 1 := by rw [← hG]; exact uF_s
    have go : ∀ j, j ≠ 5 → j ≠ 300 + F 5 → j ≠ 35 + 2 * F 5 → j ≠ 36 + 2 * F 5 → G j = F j := fun j h1 h2 h3 h4 => by
      rw [← hG, uF_o h1, uF_o h4, uF_o h3, uF_o h2]
    have g3 : G (300 + F 5) = v := by rw [← hG, uF_o (by omega), uF_o (by omega), uF_o (by omega), uF_s]
    have g35 : G (35 + 2 * F 5) = tvl b n (tn b n 4 e) := by rw [← hG, uF_o (by omega), uF_o (by omega), uF_s]
    have g36 : G (36 + 2 * F 5) = tvl b n (tn b n 6 e) := by rw [← hG, uF_o (by omega), uF_s]
    have g4 : G 4 = F 4 := go 4 (by decide) (by omega) (by omega) (by omega)
    have g6 : G 6 = F 6 := go 6 (by decide) (by omega) (by omega) (by omega)
    have nv : ∀ c, c < F 5 → F (300 + c) ≠ v := by
      intro c hc z
      have q : toc F v = none := by
        cases hq : toc F v with
        | none => rfl
        | some x => rw [hq] at c3; exact absurd rfl c3
      have := ff_none (P := fun c => Nat.beq (F (300 + c)) v) q c (Nat.zero_le _) (by omega)
      rw [z, Nat.beq_refl] at this
      cases this
    refine ⟨⟨fun f hf => ?_, fun c hc => ?_, fun c c' h1 h2 => ?_, fun f f' h1 h2 => ?_⟩, ?_⟩
    · have hf : f < G 4 := hf
      show (1 ≤ G (12 + 4 * f) ∧ G (12 + 4 * f) ≤ 99) ∧ G (13 + 4 * f) ≤ 9 ∧ G (11 + 4 * f) ≤ 2 ∧ G (14 + 4 * f) ≤ 19
      rw [g4] at hf
      rw [go _ (by omega) (by omega) (by omega) (by omega), go (13 + 4 * f) (by omega) (by omega) (by omega) (by omega), go (11 + 4 * f) (by omega) (by omega) (by omega) (by omega), go (14 + 4 * f) (by omega) (by omega) (by omega) (by omega)]
      exact hI.1 f hf
    · have hc : c < G 5 := hc
      show G (300 + c) < G 4 ∧ (1 ≤ G (35 + 2 * c) ∧ G (35 + 2 * c) ≤ 30) ∧ 1 ≤ G (36 + 2 * c) ∧ G (36 + 2 * c) ≤ 9
      rw [g5] at hc
      rw [g4]
      by_cases z : c = F 5
      · subst z
        rw [g3, g35, g36]
        exact ⟨f4, w4, w5⟩
      · rw [go _ (by omega) (by omega) (by omega) (by omega), go (35 + 2 * c) (by omega) (by omega) (by omega) (by omega), go (36 + 2 * c) (by omega) (by omega) (by omega) (by omega)]
        exact hI.2.1 c (by omega)
    · have h2 : c' < G 5 := h2
      show G (300 + c) ≠ G (300 + c')
      rw [g5] at h2
      rw [go (300 + c) (by omega) (by omega) (by omega) (by omega)]
      by_cases z : c' = F 5
      · subst z
        rw [g3]
        exact nv c h1
      · rw [go (300 + c') (by omega) (by omega) (by omega) (by omega)]
        exact hI.2.2.1 c c' h1 (by omega)
    · have h2 : f' < G 4 := h2
      show G (14 + 4 * f) ≠ G (14 + 4 * f')
      rw [g4] at h2
      rw [go (14 + 4 * f) (by omega) (by omega) (by omega) (by omega), go (14 + 4 * f') (by omega) (by omega) (by omega) (by omega)]
      exact hI.2.2.2 f f' h1 h2
    · exact KM_f hM2 (by show G 4 = _; rw [g4, uF_o (by decide)]) (by show G 5 = _; rw [g5, uF_s]) (by show G 6 = _; rw [g6, uF_o (by decide)])
  split at h
  · unfold lnWalker at h
    split at h
    · cases h
    split at h
    · cases h
    split at h
    · cases h
    split at h
    · cases h
    split at h
    · cases h
    split at h
    · cases h
    cases h
    refine ⟨PI_cg hI B4 B5 (fun j hj => ?_), KM_a (KM_c hM ?_ ?_ ?_) ⟨fun z => absurd (show (3 : Nat) = 1 from z) (by decide), fun z => absurd (show (3 : Nat) = 2 from z) (by decide), fun _ => ?_⟩⟩
    · show uF (uF (uF F (45 + 2 * F 6) (tvl b n (tn b n 3 e))) (46 + 2 * F 6) (tvl b n (tn b n 5 e))) 6 (F 6 + 1) j = F j
      rw [uF_o (by omega), uF_o (by omega), uF_o (by omega)]
    · show F 4 ≤ uF (uF (uF F (45 + 2 * F 6) (tvl b n (tn b n 3 e))) (46 + 2 * F 6) (tvl b n (tn b n 5 e))) 6 (F 6 + 1) 4
      rw [uF_o (by omega), uF_o (by omega), uF_o (by omega)]; exact Nat.le_refl _
    · show F 5 ≤ uF (uF (uF F (45 + 2 * F 6) (tvl b n (tn b n 3 e))) (46 + 2 * F 6) (tvl b n (tn b n 5 e))) 6 (F 6 + 1) 5
      rw [uF_o (by omega), uF_o (by omega), uF_o (by omega)]; exact Nat.le_refl _
    · show F 6 ≤ uF (uF (uF F (45 + 2 * F 6) (tvl b n (tn b n 3 e))) (46 + 2 * F 6) (tvl b n (tn b n 5 e))) 6 (F 6 + 1) 6
      rw [uF_s]; exact Nat.le_succ _
    · show F 6 < uF (uF (uF F (45 + 2 * F 6) (tvl b n (tn b n 3 e))) (46 + 2 * F 6) (tvl b n (tn b n 5 e))) 6 (F 6 + 1) 6
      rw [uF_s]; exact Nat.lt_succ_self _
  split at h
  · unfold lnUnsure at h
    split at h
    · cases h
    split at h
    · cases h
    split at h
    · cases h
    split at h
    · cases h
    cases h
    refine ⟨PI_cg hI B4 B5 (fun j hj => ?_), KM_f hM ?_ ?_ ?_⟩
    · show uF (uF (uF F (53 + 2 * F 7) (nam b n nm 2 (tn b n 1 e)).2) (54 + 2 * F 7) (tvl b n (tn b n 2 e))) 7 (F 7 + 1) j = F j
      rw [uF_o (by omega), uF_o (by omega), uF_o (by omega)]
    · show uF (uF (uF F (53 + 2 * F 7) (nam b n nm 2 (tn b n 1 e)).2) (54 + 2 * F 7) (tvl b n (tn b n 2 e))) 7 (F 7 + 1) 4 = F 4
      rw [uF_o (by omega), uF_o (by omega), uF_o (by omega)]
    · show uF (uF (uF F (53 + 2 * F 7) (nam b n nm 2 (tn b n 1 e)).2) (54 + 2 * F 7) (tvl b n (tn b n 2 e))) 7 (F 7 + 1) 5 = F 5
      rw [uF_o (by omega), uF_o (by omega), uF_o (by omega)]
    · show uF (uF (uF F (53 + 2 * F 7) (nam b n nm 2 (tn b n 1 e)).2) (54 + 2 * F 7) (tvl b n (tn b n 2 e))) 7 (F 7 + 1) 6 = F 6
      rw [uF_o (by omega), uF_o (by omega), uF_o (by omega)]
  · unfold lnDropped at h
    split at h
    · cases h
    rename_i c1
    split at h
    · cases h
    split at h
    · cases h
    cases h
    have f4 := nam_F hM c1
    refine ⟨PI_cg hI B4 B5 (fun j hj => ?_), KM_f hM ?_ ?_ ?_⟩
    · show uF (uF F (61 + (nam b n nm 1 (tn b n 1 e)).2) (tvl b n (tn b n 3 e))) 8 (F 8 + 1) j = F j
      rw [uF_o (by omega), uF_o (by omega)]
    · show uF (uF F (61 + (nam b n nm 1 (tn b n 1 e)).2) (tvl b n (tn b n 3 e))) 8 (F 8 + 1) 4 = F 4
      rw [uF_o (by omega), uF_o (by omega)]
    · show uF (uF F (61 + (nam b n nm 1 (tn b n 1 e)).2) (tvl b n (tn b n 3 e))) 8 (F 8 + 1) 5 = F 5
      rw [uF_o (by omega), uF_o (by omega)]
    · show uF (uF F (61 + (nam b n nm 1 (tn b n 1 e)).2) (tvl b n (tn b n 3 e))) 8 (F 8 + 1) 6 = F 6
      rw [uF_o (by omega), uF_o (by omega)]
theorem PK_rd : ∀ (k : Nat) (P P' : Ps), B3 P → PK P → P.2.2.2 ≤ n → rdT b n k P = .inr P' → PK P' := by
  intro k
  induction k with
  | zero => intro P P' _ _ _ h; cases h
  | succ k ih =>
    intro P P' hB hK he h
    obtain ⟨F, W, nm, e⟩ := P
    unfold rdT at h
    split at h
    · cases h
    · rename_i P1 hl
      have h1 := PK_ln hB hK hl
      obtain ⟨b1, b2, -⟩ := B3_ln hB he hl
      split at h
      · split at h
        · cases h; exact h1
        · cases h
      · split at h
        · exact ih (P1.1, P1.2.1, P1.2.2.1, tsp b n P1.2.2.2) P' b1 h1 (tsp_b b2).2 h
        · cases h
theorem PK_00 : PK P00 := ⟨⟨fun f hf => absurd hf (Nat.not_lt_zero _), fun c hc => absurd hc (Nat.not_lt_zero _), fun c c' _ h => absurd h (Nat.not_lt_zero _), fun c c' _ h => absurd h (Nat.not_lt_zero _)⟩, fun i hi => absurd hi (Nat.not_lt_zero _)⟩
end PIV
