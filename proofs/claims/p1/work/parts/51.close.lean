section CLOSE
variable {l : Launch} {X : Nat × (Nat → Int32)} {d : Nat} {w : Nat × Nat} {p r v : Nat} {I J : Nat → Nat → Int32} {L : Nat → Nat → Int64} {kr : KR} {x1 x2 x3 x4 x5 : Int32} {M : Mm}
theorem u2_same {I : Nat → Nat → Int32} {a i : Nat} {v : Int32} (h : I a i = v) : u2 I a i v = I := by
  funext b j
  unfold u2
  split
  · rename_i z
    rw [z.1, z.2, h]
  · rfl
theorem z0' {a i : Nat} (h : ¬ (a = 150 ∧ i = 10)) : u2 I0 a i 0 = I0 := u2_same (if_neg h)
set_option maxRecDepth 20000 in
theorem R0_o {b j : Nat} (h : b ≠ 2) : R0 p r b j = R0 p v b j := by
  cases h2 : Nat.ble b 2 with
  | true =>
    have hb := Nat.le_of_ble_eq_true h2
    rcases (show b = 0 ∨ b = 1 by omega) with rfl | rfl <;> rfl
  | false =>
    unfold R0
    rw [h2]
    rfl
theorem wR_mk : wR (mk w p r I L) 2 3 v = mk w p v I L := by
  show ((167, w.1, w.2, K0), I, L, (fun b j => if b = 2 ∧ j = 3 then v else R0 p r b j)) = ((167, w.1, w.2, K0), I, L, R0 p v)
  congr 3
  funext b j
  by_cases hb : b = 2
  · subst hb
    by_cases hj : j = 3
    · subst hj
      rw [if_pos ⟨rfl, rfl⟩]
      rfl
    · rw [if_neg (fun z => hj z.2)]
      show R0_2 p r j = R0_2 p v j
      have e : Nat.beq j 3 = false := by
        cases h : Nat.beq j 3 with
        | true => exact absurd (Nat.eq_of_beq_eq_true h) hj
        | false => rfl
      unfold R0_2
      rw [e]
      rfl
  · rw [if_neg (fun z => hb z.1)]
    exact R0_o hb
set_option maxRecDepth 20000 in
theorem kJ_min (h : kr (some (.int 0)) M) : Ev l X uJ9_min_7cf53 d true 0 0 [.int 0, .int 900] M kr := by
  refine Ev.ofF (by decide +kernel) (Nat.le_of_ble_eq_true rfl) ?_
  refine Wf.gc tkJ9_min_7cf53 [] ?_
  conv => whnf
  refine ⟨fun z => absurd z (by decide), fun _ => ?_⟩
  conv => whnf
  exact h
set_option maxRecDepth 20000 in
theorem k3_clear (h : kr none (mk w 7 20 I0 L)) : Ev l X uX3_clear d true 0 0 [.ref 20] (mk w 7 20 I0 L) kr := by
  refine Ev.of (by decide) (Nat.le_of_ble_eq_true rfl) ?_
  have key : ∀ n k : Nat, k + n = 6 → Wf l X uX3_clear d true (mC (mk w 7 20 I0 L) + 0, mS (mk w 7 20 I0 L) + 0) 42 [(0, .ref 20), (1, .int (nI k))] [] (mk w 7 20 I0 L) kr := by
    intro n
    induction n with
    | zero =>
      intro k hk
      have hk : k = 6 := by omega
      subst hk
      refine Wf.gc tkX3_clear [] ?_
      conv => whnf
      refine ⟨fun _ => ?_, fun z => absurd (show (6 : Int32) ≤ nI 6 by decide) z⟩
      conv => whnf
      exact h
    | succ n ih =>
      intro k hk
      refine Wf.gc tkX3_clear [42] ?_
      conv => whnf
      refine ⟨fun z => absurd (show (6 : Int32) ≤ nI k from z) (nI_ge (a := k) (b := 6) (by omega) (by decide)), fun _ => ?_⟩
      conv => whnf
      refine ⟨k, ⟨rfl, by omega, show k < 6 by omega⟩, ?_⟩
      conv => whnf
      have := ih (k + 1) (by omega)
      rw [← nI_1] at this
      have e : u2 I0 25 k 0 = I0 := z0' (by omega)
      rw [← e] at this
      exact this
  refine Wf.gc tkX3_clear [42] ?_
  conv => whnf
  have := key 6 0 rfl
  have e : u2 (u2 (u2 (u2 (u2 (u2 (u2 (u2 I0 20 0 0) 20 1 0) 20 2 0) 20 3 0) 20 4 0) 20 10 0) 20 14 0) 20 17 0 = I0 := by
    rw [z0' (by omega), z0' (by omega), z0' (by omega), z0' (by omega), z0' (by omega), z0' (by omega), z0' (by omega), z0' (by omega)]
  rw [← e] at this
  exact this
set_option maxRecDepth 20000 in
theorem k4_take (h : kr none (mk w 7 20 I0 L)) : Ev l X uX4_take (d + 1) true 0 0 [.ref 2] (mk w 7 20 I0 L) kr := by
  refine Ev.of (by decide) (Nat.le_of_ble_eq_true rfl) ?_
  refine Wf.gc tkX4_take [] ?_
  conv => whnf
  refine ⟨fun _ => ?_, fun z => absurd (show (0 : Int32) ≤ 0 by decide) z⟩
  conv => whnf
  refine ⟨fun z => absurd (show (0 : Int32) < 0 from z) (by decide), fun _ => ?_⟩
  conv => whnf
  have e : u2 (u2 (u2 I0 2 5 0) 2 6 0) 2 4 0 = I0 := by rw [z0' (by omega), z0' (by omega), z0' (by omega)]
  rw [← e] at h
  exact h
theorem k4_isWord {n : Nat} (h : kr (some (.int 0)) (mk w 7 20 I0 L)) : Ev l X uX4_isWord (d + 1) true 0 0 [.ref 2, .ref n] (mk w 7 20 I0 L) kr := by
  refine Ev.of (by decide) (Nat.le_of_ble_eq_true rfl) ?_
  refine Wf.gc tkX4_isWord [] ?_
  conv => whnf
  refine ⟨fun _ => ?_, fun z => absurd (show (0 : Int32) = 1 from z) (by decide)⟩
  conv => whnf
  exact ⟨Or.inl rfl, h⟩
set_option maxRecDepth 20000 in
theorem k4_beginsLine (h : kr (some (.int 0)) (mk w 7 20 I0 L)) : Ev l X uX4_beginsLine (d + 2) true 0 0 [.ref 2] (mk w 7 20 I0 L) kr := by
  refine Ev.of (by decide) (Nat.le_of_ble_eq_true rfl) ?_
  refine Wf.gc tkX4_beginsLine [] ?_
  conv => whnf
  repeat (first
    | exact ⟨Or.inl rfl, h⟩
    | (refine k4_isWord ?_; conv => whnf)
    | (refine ⟨fun z => absurd rfl z, fun _ => ?_⟩; conv => whnf)
    | (refine ⟨fun _ => ?_, fun z => absurd rfl z⟩; conv => whnf))
theorem k4_readsLine (h : kr (some (.int 0)) (mk w 7 20 (u2 I0 2 13 1) L)) : Ev l X uX4_readsLine (d + 3) true 0 0 [.ref 2] (mk w 7 20 I0 L) kr := by
  refine Ev.of (by decide) (Nat.le_of_ble_eq_true rfl) ?_
  refine Wf.gc tkX4_readsLine [] ?_
  conv => whnf
  refine k4_beginsLine ?_
  conv => whnf
  refine ⟨fun z => absurd rfl z, fun _ => ?_⟩
  conv => whnf
  refine Ev.of (by decide) (Nat.le_of_ble_eq_true rfl) ?_
  refine Wf.gc tkX4_fails [] ?_
  conv => whnf
  refine ⟨Or.inl rfl, ?_⟩
  conv => whnf
  refine ⟨Or.inl rfl, ?_⟩
  have e : u2 (u2 I0 2 13 1) 2 14 0 = u2 I0 2 13 1 := u2_same rfl
  rw [← e] at h
  exact h
set_option maxRecDepth 20000 in
theorem k4_reads (h : kr (some (.int 0)) (mk w 7 20 (u2 I0 2 13 1) L)) : Ev l X uX4_reads (d + 4) true 0 0 [.ref 2, .int 0, .ref 20] (mk w 7 0 I0 L) kr := by
  refine Ev.of (by decide) (Nat.le_of_ble_eq_true rfl) ?_
  refine Wf.gc tkX4_reads [] ?_
  conv => whnf
  refine kJ_min ?_
  conv => whnf
  have e1 : wR (wI (mk w 7 0 I0 L) 2 2 0) 2 3 20 = mk w 7 20 I0 L := by
    rw [wI_mk, z0' (by omega), wR_mk]
  have c1 : ∀ kr' : KR, kr' none (mk w 7 20 I0 L) → Ev l X uX3_clear (d + 3) true 0 0 [.ref 20] (wR (wI (mk w 7 0 I0 L) 2 2 0) 2 3 20) kr' := by
    rw [e1]; exact fun kr' z => k3_clear z
  refine c1 _ ?_
  conv => whnf
  have e2 : u2 (u2 (u2 (u2 I0 2 12 0) 2 13 0) 2 14 0) 2 6 0 = I0 := by rw [z0' (by omega), z0' (by omega), z0' (by omega), z0' (by omega)]
  have c2 : ∀ kr' : KR, kr' none (mk w 7 20 I0 L) → Ev l X uX4_take (d + 3) true 0 0 [.ref 2] (mk w 7 20 (u2 (u2 (u2 (u2 I0 2 12 0) 2 13 0) 2 14 0) 2 6 0) L) kr' := by
    rw [e2]; exact fun kr' z => k4_take z
  refine c2 _ ?_
  conv => whnf
  refine ⟨fun z => absurd (show (0 : Int32) < 0 from z) (by decide), fun _ => ?_⟩
  conv => whnf
  refine k4_readsLine ?_
  conv => whnf
  refine ⟨fun z => absurd rfl z, fun _ => ?_⟩
  conv => whnf
  exact ⟨Or.inl rfl, h⟩
set_option maxRecDepth 20000 in
theorem f6_close (h : ∀ r I', n150 I' → kr (some (.int (-1))) (mk w 7 r I' L)) : Ev l X uX6_close (d + 6) true 0 0 [.ref 1, .int x1] (mk w 7 0 I0 L) kr := by
  refine Ev.of (by decide) (Nat.le_of_ble_eq_true rfl) ?_
  refine Wf.gc tkX6_close [] ?_
  conv => whnf
  refine ⟨fun c1 => ?_, fun c1 => ?_⟩
  · conv => whnf
    refine sX6_refuse ?_
    conv => whnf
    exact h 0 _ (n150_u2 (by decide) n150_0)
  · conv => whnf
    refine ⟨fun c2 => ?_, fun c2 => ?_⟩
    · have hx : x1 = 0 := Int32.le_antisymm c2 (Int32.not_lt.mp c1)
      subst hx
      conv => whnf
      have e : u2 I0 2 1 0 = I0 := z0' (by omega)
      have c3 : ∀ kr' : KR, kr' (some (.int 0)) (mk w 7 20 (u2 I0 2 13 1) L) → Ev l X uX4_reads (d + 5) true 0 0 [.ref 2, .int 0, .ref 20] (mk w 7 0 (u2 I0 2 1 0) L) kr' := by
        rw [e]; exact fun kr' z => k4_reads z
      refine c3 _ ?_
      conv => whnf
      refine ⟨fun z => absurd rfl z, fun _ => ?_⟩
      conv => whnf
      refine sX6_refuse ?_
      conv => whnf
      exact h 20 _ (n150_u2 (by decide) (n150_u2 (by decide) n150_0))
    · conv => whnf
      refine sX6_refuse ?_
      conv => whnf
      exact h 0 _ (n150_u2 (by decide) n150_0)
end CLOSE
