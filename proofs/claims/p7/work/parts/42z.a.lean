section SA
variable {l : Launch} {X : Nat × (Nat → Int32)} {d : Nat} {w : Nat × Nat} {p r : Nat} {I : Nat → Nat → Int32} {L : Nat → Nat → Int64} {kr : KR}
theorem sX6_answer {v : Int32} (h : kr (some (.int v)) (mk w p r (u2 I 1 13 0) L)) : Ev l X uX6_answer d true 0 0 [.ref 1, .int v] (mk w p r I L) kr := by
  refine Ev.of (by decide) (Nat.le_of_ble_eq_true rfl) ?_
  refine Wf.go tkX6_answer 6 ?_
  conv => whnf
  exact h
theorem sX6_refuse {v : Int32} (h : kr (some (.int (-1))) (mk w p r (u2 I 1 13 v) L)) : Ev l X uX6_refuse d true 0 0 [.ref 1, .int v] (mk w p r I L) kr := by
  refine Ev.of (by decide) (Nat.le_of_ble_eq_true rfl) ?_
  refine Wf.go tkX6_refuse 6 ?_
  conv => whnf
  exact h
theorem sX6_within {x a b : Int32} {M : Mm} (h1 : a ≤ x → x ≤ b → kr (some (.int 1)) M) (h0 : ¬ (a ≤ x ∧ x ≤ b) → kr (some (.int 0)) M) : Ev l X uX6_within d true 0 0 [.int x, .int a, .int b] M kr := by
  refine Ev.of (by decide) (Nat.le_of_ble_eq_true rfl) ?_
  refine Wf.go tkX6_within 12 ?_
  conv => whnf
  refine ⟨fun c1 => ?_, fun c1 => ?_⟩
  · conv => whnf
    exact ⟨Or.inl rfl, h0 (fun z => absurd z.1 (Int32.not_le.mpr c1))⟩
  · conv => whnf
    refine ⟨fun c2 => ?_, fun c2 => ?_⟩
    · conv => whnf
      exact ⟨Or.inl rfl, h0 (fun z => absurd z.2 (Int32.not_le.mpr c2))⟩
    · conv => whnf
      exact ⟨Or.inr rfl, h1 (Int32.not_lt.mp c1) (Int32.not_lt.mp c2)⟩
theorem sX6_hasClose (hp : p = 7 ∨ p = 20) (h1 : 0 < I p 4 → kr (some (.int 1)) (mk w p r I L)) (h0 : ¬ 0 < I p 4 → kr (some (.int 0)) (mk w p r I L)) : Ev l X uX6_hasClose d true 0 0 [.ref 1] (mk w p r I L) kr := by
  refine Ev.of (by decide) (Nat.le_of_ble_eq_true rfl) ?_
  refine Wf.go tkX6_hasClose 12 ?_
  rcases hp with rfl | rfl
  all_goals
    conv => whnf
    refine ⟨fun c1 => ?_, fun c1 => ?_⟩
    · conv => whnf
      exact ⟨Or.inl rfl, h0 (Int32.not_lt.mpr c1)⟩
    · conv => whnf
      exact ⟨Or.inr rfl, h1 (Int32.not_le.mp c1)⟩
/-- a number below a count of the plan -/
theorem sX6_isFace {f : Int32} {N : Nat} (hp : p = 7 ∨ p = 20) (hN : I p 4 = nI N) (hb : N < 1000) (h1 : ∀ j, j < N → f = nI j → kr (some (.int 1)) (mk w p r I L)) (h0 : (¬ ∃ j, j < N ∧ f = nI j) → kr (some (.int 0)) (mk w p r I L)) : Ev l X uX6_isFace d true 0 0 [.ref 1, .int f] (mk w p r I L) kr := by
  refine Ev.of (by decide) (Nat.le_of_ble_eq_true rfl) ?_
  refine Wf.go tkX6_isFace 14 ?_
  rcases hp with rfl | rfl
  all_goals
    conv => whnf
    refine ⟨fun c1 => ?_, fun c1 => ?_⟩
    · conv => whnf
      exact ⟨Or.inl rfl, h0 (not_ix (by omega) (Or.inl c1))⟩
    · conv => whnf
      refine ⟨fun c2 => ?_, fun c2 => ?_⟩
      · conv => whnf
        exact ⟨Or.inl rfl, h0 (not_ix (by omega) (Or.inr (hN ▸ c2)))⟩
      · conv => whnf
        obtain ⟨j, hj, e⟩ := le_nI (n := N) (by omega) c1 (fun z => c2 (by rw [← hN] at z; exact z))
        exact ⟨Or.inr rfl, h1 j hj e⟩
theorem sX6_isCanon {f : Int32} {N : Nat} (hp : p = 7 ∨ p = 20) (hN : I p 10 = nI N) (hb : N < 1000) (h1 : ∀ j, j < N → f = nI j → kr (some (.int 1)) (mk w p r I L)) (h0 : (¬ ∃ j, j < N ∧ f = nI j) → kr (some (.int 0)) (mk w p r I L)) : Ev l X uX6_isCanon d true 0 0 [.ref 1, .int f] (mk w p r I L) kr := by
  refine Ev.of (by decide) (Nat.le_of_ble_eq_true rfl) ?_
  refine Wf.go tkX6_isCanon 14 ?_
  rcases hp with rfl | rfl
  all_goals
    conv => whnf
    refine ⟨fun c1 => ?_, fun c1 => ?_⟩
    · conv => whnf
      exact ⟨Or.inl rfl, h0 (not_ix (by omega) (Or.inl c1))⟩
    · conv => whnf
      refine ⟨fun c2 => ?_, fun c2 => ?_⟩
      · conv => whnf
        exact ⟨Or.inl rfl, h0 (not_ix (by omega) (Or.inr (hN ▸ c2)))⟩
      · conv => whnf
        obtain ⟨j, hj, e⟩ := le_nI (n := N) (by omega) c1 (fun z => c2 (by rw [← hN] at z; exact z))
        exact ⟨Or.inr rfl, h1 j hj e⟩
theorem sX6_isWalker {f : Int32} {N : Nat} (hp : p = 7 ∨ p = 20) (hN : I p 14 = nI N) (hb : N < 1000) (h1 : ∀ j, j < N → f = nI j → kr (some (.int 1)) (mk w p r I L)) (h0 : (¬ ∃ j, j < N ∧ f = nI j) → kr (some (.int 0)) (mk w p r I L)) : Ev l X uX6_isWalker d true 0 0 [.ref 1, .int f] (mk w p r I L) kr := by
  refine Ev.of (by decide) (Nat.le_of_ble_eq_true rfl) ?_
  refine Wf.go tkX6_isWalker 14 ?_
  rcases hp with rfl | rfl
  all_goals
    conv => whnf
    refine ⟨fun c1 => ?_, fun c1 => ?_⟩
    · conv => whnf
      exact ⟨Or.inl rfl, h0 (not_ix (by omega) (Or.inl c1))⟩
    · conv => whnf
      refine ⟨fun c2 => ?_, fun c2 => ?_⟩
      · conv => whnf
        exact ⟨Or.inl rfl, h0 (not_ix (by omega) (Or.inr (hN ▸ c2)))⟩
      · conv => whnf
        obtain ⟨j, hj, e⟩ := le_nI (n := N) (by omega) c1 (fun z => c2 (by rw [← hN] at z; exact z))
        exact ⟨Or.inr rfl, h1 j hj e⟩
theorem sX6_isSeed {f : Int32} {M : Mm} (h1 : ∀ j, j < 65537 → f = nI j → kr (some (.int 1)) M) (h0 : (¬ ∃ j, j < 65537 ∧ f = nI j) → kr (some (.int 0)) M) : Ev l X uX6_isSeed d true 0 0 [.int f] M kr := by
  refine Ev.of (by decide) (Nat.le_of_ble_eq_true rfl) ?_
  refine Wf.go tkX6_isSeed 14 ?_
  conv => whnf
  refine ⟨fun c1 => ?_, fun c1 => ?_⟩
  · conv => whnf
    exact ⟨Or.inl rfl, h0 (not_ix (by decide) (Or.inl c1))⟩
  · conv => whnf
    refine ⟨fun c2 => ?_, fun c2 => ?_⟩
    · conv => whnf
      exact ⟨Or.inl rfl, h0 (not_ix (by decide) (Or.inr c2))⟩
    · conv => whnf
      obtain ⟨j, hj, e⟩ := le_nI (n := 65537) (by decide) c1 c2
      exact ⟨Or.inr rfl, h1 j hj e⟩
/-! a plan's own (a: 7 or 20) -/
theorem sX3_cells {a : Nat} (ha : a = 7 ∨ a = 20) (h : kr (some (.int (I a 0 * I a 1))) (mk w p r I L)) : Ev l X uX3_cells d true 0 0 [.ref a] (mk w p r I L) kr := by
  refine Ev.of (by decide) (Nat.le_of_ble_eq_true rfl) ?_
  refine Wf.go tkX3_cells 6 ?_
  rcases ha with rfl | rfl
  all_goals
    conv => whnf
    exact h
theorem sX3_isWall {a : Nat} {k : Int32} (ha : a = 7 ∨ a = 20) (h1 : ¬ (I a 3 >>> (k &&& 31)) &&& 1 = 0 → kr (some (.int 1)) (mk w p r I L)) (h0 : (I a 3 >>> (k &&& 31)) &&& 1 = 0 → kr (some (.int 0)) (mk w p r I L)) : Ev l X uX3_isWall d true 0 0 [.ref a, .int k] (mk w p r I L) kr := by
  refine Ev.of (by decide) (Nat.le_of_ble_eq_true rfl) ?_
  refine Wf.go tkX3_isWall 12 ?_
  rcases ha with rfl | rfl
  all_goals
    conv => whnf
    refine ⟨fun c1 => ?_, fun c1 => ?_⟩
    · conv => whnf
      exact ⟨Or.inl rfl, h0 c1⟩
    · conv => whnf
      exact ⟨Or.inr rfl, h1 c1⟩
theorem sX3_faceOver {a N : Nat} {k : Int32} (ha : a = 7 ∨ a = 20) (hN : I a 4 = nI N) (hb : N ≤ 6) (h : kr (some (.int (oI (ff (fun f => decide (I (a + 4) f = k)) N 0)))) (mk w p r I L)) : Ev l X uX3_faceOver d true 0 0 [.ref a, .int k] (mk w p r I L) kr := by
  refine Ev.of (by decide) (Nat.le_of_ble_eq_true rfl) ?_
  refine Wf.gc tkX3_faceOver [2] ?_
  conv => whnf
  refine srch (e := N) (P := fun f => decide (I (a + 4) f = k)) (Wi := fun i => Wf l X uX3_faceOver d true _ 2 [(0, .ref a), (1, .int k), (2, .int (nI i))] [] (mk w p r I L) kr) (K := fun o => kr (some (.int (oI o))) (mk w p r I L)) (fun hk => ?_) (fun i hi => ⟨fun hP hk => ?_, fun hP hw => ?_⟩) 0 (Nat.zero_le _) h
  all_goals rcases ha with rfl | rfl
  all_goals refine Wf.gc tkX3_faceOver [2] ?_
  all_goals conv => whnf
  · refine ⟨fun _ => ?_, fun z => absurd (by rw [mI_mk, hN]; exact nI_le (Nat.le_refl _) (by omega)) z⟩
    conv => whnf
    exact hk
  · refine ⟨fun _ => ?_, fun z => absurd (by rw [mI_mk, hN]; exact nI_le (Nat.le_refl _) (by omega)) z⟩
    conv => whnf
    exact hk
  all_goals
    refine b2 (fun z => nI_ge hi (by omega) (by rw [mI_mk, hN] at z; exact z)) ?_
    conv => whnf
    refine ⟨i, ix (N := 6) (by omega) (by decide), ?_⟩
    conv => whnf
    first
      | (refine b2 (fun z => z (of_decide_eq_true hP)) ?_
         conv => whnf
         exact hk)
      | (refine b1 (of_decide_eq_false hP) ?_
         conv => whnf
         rw [nI_s]
         exact hw)
end SA
