section CLOSE7
variable {l : Launch} {X : Nat × (Nat → Int32)} {d : Nat} {w : Nat × Nat} {r : Nat} {I J : Nat → Nat → Int32} {L : Nat → Nat → Int64} {kr : KR} {x1 x2 x3 x4 x5 : Int32} {M : Mm}
theorem jz {i : Nat} (h : i ≠ 10) : u2 (jn I) 150 i 0 = jn I := u2_same (by show (if 150 = 150 then (if i = 10 then (-1 : Int32) else 0) else I 150 i) = 0; rw [if_pos rfl, if_neg h])
theorem k7_see (h : kr (some (.int (-1))) (mk w 7 r (jn I) L)) : Ev l X uX7_see d true 0 0 [.ref 150, .int 0] (mk w 7 r (jn I) L) kr := by
  refine Ev.of (by decide) (Nat.le_of_ble_eq_true rfl) ?_
  refine Wf.gc tkX7_see [] ?_
  conv => whnf
  refine ⟨fun _ => ?_, fun z => absurd (show (0 : Int32) ≤ 0 by decide) z⟩
  conv => whnf
  exact h
set_option maxRecDepth 20000 in
theorem k7_next (h : kr none (mk w 7 r (jn I) L)) : Ev l X uX7_next (d + 1) true 0 0 [.ref 150] (mk w 7 r (jn I) L) kr := by
  refine Ev.of (by decide) (Nat.le_of_ble_eq_true rfl) ?_
  refine Wf.gc tkX7_next [] ?_
  conv => whnf
  have c1 : ∀ kr' : KR, kr' (some (.int (-1))) (mk w 7 r (jn I) L) → Ev l X uX7_see d true 0 0 [.ref 150, .int 0] (mk w 7 r (jn I) L) kr' := fun kr' z => k7_see z
  refine c1 _ ?_
  conv => whnf
  refine ⟨fun _ => ?_, fun z => absurd z (by decide)⟩
  conv => whnf
  have e4 : u2 (jn I) 150 4 0 = jn I := jz (by decide)
  have c2 : ∀ kr' : KR, kr' (some (.int (-1))) (mk w 7 r (jn I) L) → Ev l X uX7_see d true 0 0 [.ref 150, .int 0] (mk w 7 r (u2 (jn I) 150 4 0) L) kr' := by
    rw [e4]; exact fun kr' z => k7_see z
  refine c2 _ ?_
  conv => whnf
  refine ⟨fun z => absurd rfl z, fun _ => ?_⟩
  conv => whnf
  have e : u2 (u2 (u2 (u2 (jn I) 150 8 0) 150 7 0) 150 6 0) 150 5 0 = jn I := by rw [jz (by decide), jz (by decide), jz (by decide), jz (by decide)]
  rw [← e] at h
  exact h
theorem k7_isWord {n : Nat} (h : kr (some (.int 0)) (mk w 7 r (jn I) L)) : Ev l X uX7_isWord (d + 1) true 0 0 [.ref 150, .ref n] (mk w 7 r (jn I) L) kr := by
  refine Ev.of (by decide) (Nat.le_of_ble_eq_true rfl) ?_
  refine Wf.gc tkX7_isWord [] ?_
  conv => whnf
  refine ⟨fun z => absurd rfl z, fun _ => ?_⟩
  conv => whnf
  refine ⟨fun _ => ?_, fun z => absurd (show (0 : Int32) = 2 from z) (by decide)⟩
  conv => whnf
  exact ⟨Or.inl rfl, h⟩
theorem k7_begins {n : Nat} (h : kr (some (.int 0)) (mk w 7 r (jn I) L)) : Ev l X uX7_begins (d + 2) true 0 0 [.ref 150, .ref (n + 1), .int x1] (mk w 7 r (jn I) L) kr := by
  refine Ev.of (by decide) (Nat.le_of_ble_eq_true rfl) ?_
  refine Wf.gc tkX7_begins [] ?_
  conv => whnf
  refine k7_isWord ?_
  conv => whnf
  refine ⟨fun z => absurd rfl z, fun _ => ?_⟩
  conv => whnf
  exact ⟨Or.inl rfl, h⟩
theorem k7_wrong (h : kr none (mk w 7 r (u2 (u2 (u2 (jn I) 150 13 1) 150 9 1) 150 10 0) L)) : Ev l X uX7_wrong d true 0 0 [.ref 150, .int 1, .int 0] (mk w 7 r (jn I) L) kr := by
  refine Ev.of (by decide) (Nat.le_of_ble_eq_true rfl) ?_
  refine Wf.gc tkX7_wrong [] ?_
  conv => whnf
  refine ⟨fun _ => ?_, fun z => absurd rfl z⟩
  conv => whnf
  refine ⟨Or.inr rfl, ?_⟩
  conv => whnf
  exact h
set_option maxRecDepth 20000 in
theorem k7_readLine (hz : ∀ i, I 154 i = 0) (h : kr none (mk w 7 r (u2 (u2 (u2 (jn I) 150 13 1) 150 9 1) 150 10 0) L)) : Ev l X uX7_readLine (d + 3) true 0 0 [.ref 150] (mk w 7 r (jn I) L) kr := by
  refine Ev.of (by decide) (Nat.le_of_ble_eq_true rfl) ?_
  refine Wf.gc tkX7_readLine [] ?_
  conv => whnf
  repeat (first
    | exact h
    | (refine k7_isWord ?_; conv => whnf)
    | (refine k7_begins ?_; conv => whnf)
    | (refine k7_wrong ?_; conv => whnf)
    | (refine ⟨fun _ => ?_, fun z => absurd rfl z⟩; conv => whnf)
    | (refine ⟨3, ⟨by decide, by decide, Nat.le_of_ble_eq_true rfl⟩, ?_⟩; conv => whnf)
    | (refine ⟨4, ⟨by decide, by decide, Nat.le_of_ble_eq_true rfl⟩, ?_⟩; conv => whnf)
    | (refine ⟨5, ⟨by decide, by decide, Nat.le_of_ble_eq_true rfl⟩, ?_⟩; conv => whnf)
    | (refine ⟨6, ⟨by decide, by decide, Nat.le_of_ble_eq_true rfl⟩, ?_⟩; conv => whnf)
    | (refine ⟨7, ⟨by decide, by decide, Nat.le_of_ble_eq_true rfl⟩, ?_⟩; conv => whnf)
    | (refine ⟨fun z => absurd (show (5 : Int32) ≤ I 154 3 from z) (by rw [hz]; decide), fun _ => ?_⟩; conv => whnf)
    | (refine ⟨fun z => absurd (show (6 : Int32) ≤ I 154 4 from z) (by rw [hz]; decide), fun _ => ?_⟩; conv => whnf)
    | (refine ⟨fun z => absurd (show (5 : Int32) ≤ I 154 5 from z) (by rw [hz]; decide), fun _ => ?_⟩; conv => whnf)
    | (refine ⟨fun z => absurd (show (4 : Int32) ≤ I 154 6 from z) (by rw [hz]; decide), fun _ => ?_⟩; conv => whnf)
    | (refine ⟨fun z => absurd (show (4 : Int32) ≤ I 154 7 from z) (by rw [hz]; decide), fun _ => ?_⟩; conv => whnf))
/-- a loop that fills with 0 what is 0 -/
theorem k7_fill1 {b : Nat × Nat} (hz : ∀ i, I 154 i = 0) (k0 : Wf l X uX7_close (d + 6) true b 59 [(0, .ref 150), (1, .int x1), (2, .int (nI 202))] [] (mk w 7 r (jn I) L) kr) : ∀ n k : Nat, k + n = 202 → Wf l X uX7_close (d + 6) true b 39 [(0, .ref 150), (1, .int x1), (2, .int (nI k))] [] (mk w 7 r (jn I) L) kr := by
  intro n
  induction n with
  | zero =>
    intro k hk
    have hk : k = 202 := by omega
    subst hk
    refine Wf.gc tkX7_close [59] ?_
    conv => whnf
    refine ⟨fun _ => ?_, fun z => absurd (show (202 : Int32) ≤ nI 202 by decide) z⟩
    conv => whnf
    exact k0
  | succ n ih =>
    intro k hk
    refine Wf.gc tkX7_close [39, 59] ?_
    conv => whnf
    refine ⟨fun z => absurd (show (202 : Int32) ≤ nI k from z) (nI_ge (a := k) (b := 202) (by omega) (by decide)), fun _ => ?_⟩
    conv => whnf
    refine ⟨k, ⟨rfl, by omega, show k < 202 by omega⟩, ?_⟩
    conv => whnf
    have := ih (k + 1) (by omega)
    rw [← nI_1] at this
    have e : u2 (jn I) 154 k 0 = jn I := u2_same (hz k)
    rw [← e] at this
    exact this
theorem k7_fill2 {b : Nat × Nat} (hz : ∀ i, I 156 i = 0) (k0 : Wf l X uX7_close (d + 6) true b 80 [(0, .ref 150), (1, .int x1), (2, .int (nI 25))] [] (mk w 7 r (jn I) L) kr) : ∀ n k : Nat, k + n = 25 → Wf l X uX7_close (d + 6) true b 61 [(0, .ref 150), (1, .int x1), (2, .int (nI k))] [] (mk w 7 r (jn I) L) kr := by
  intro n
  induction n with
  | zero =>
    intro k hk
    have hk : k = 25 := by omega
    subst hk
    refine Wf.gc tkX7_close [80] ?_
    conv => whnf
    refine ⟨fun _ => ?_, fun z => absurd (show (25 : Int32) ≤ nI 25 by decide) z⟩
    conv => whnf
    exact k0
  | succ n ih =>
    intro k hk
    refine Wf.gc tkX7_close [61, 80] ?_
    conv => whnf
    refine ⟨fun z => absurd (show (25 : Int32) ≤ nI k from z) (nI_ge (a := k) (b := 25) (by omega) (by decide)), fun _ => ?_⟩
    conv => whnf
    refine ⟨k, ⟨rfl, by omega, show k < 25 by omega⟩, ?_⟩
    conv => whnf
    have := ih (k + 1) (by omega)
    rw [← nI_1] at this
    have e : u2 (jn I) 156 k 0 = jn I := u2_same (hz k)
    rw [← e] at this
    exact this
set_option maxRecDepth 20000 in
theorem f7_close (hI : n150 I) (h : ∀ M', kr (some (.int (-1))) M') : Ev l X uX7_close (d + 6) true 0 0 [.ref 150, .int x1] (mk w 7 r I L) kr := by
  have hz : ∀ a, 151 ≤ a → ∀ i, I a i = 0 := fun a ha i => by
    rw [hI a (by omega)]
    exact if_neg (by omega)
  rw [jn_of hI]
  refine Ev.of (by decide) (Nat.le_of_ble_eq_true rfl) ?_
  refine Wf.gc tkX7_close [39] ?_
  conv => whnf
  refine k7_good ?_
  conv => whnf
  refine k7_inb (fun a b => ?_) (fun _ => ?_)
  · have hx : x1 = 0 := Int32.le_antisymm b a
    subst hx
    conv => whnf
    refine ⟨fun _ => ?_, fun z => absurd z (by decide)⟩
    conv => whnf
    refine ⟨Or.inl rfl, ?_⟩
    conv => whnf
    have key : Wf l X uX7_close (d + 6) true (mC (mk w 7 r (jn I) L) + 0, mS (mk w 7 r (jn I) L) + 0) 80 [(0, .ref 150), (1, .int 0), (2, .int (nI 25))] [] (mk w 7 r (jn I) L) kr := by
      refine Wf.gc tkX7_close [] ?_
      conv => whnf
      have e : u2 (u2 (jn I) 150 3 0) 150 5 0 = jn I := by rw [jz (by decide), jz (by decide)]
      have c1 : ∀ kr' : KR, kr' none (mk w 7 r (jn I) L) → Ev l X uX7_next (d + 5) true 0 0 [.ref 150] (mk w 7 r (u2 (u2 (jn I) 150 3 0) 150 5 0) L) kr' := by
        rw [e]; exact fun kr' z => k7_next z
      refine c1 _ ?_
      conv => whnf
      refine k7_readLine (hz 154 (by decide)) ?_
      conv => whnf
      repeat (first
        | exact h _
        | (refine k7_no ?_; conv => whnf)
        | (refine ⟨fun _ => ?_, fun z => absurd (show (1 : Int32) = 0 from z) (by decide)⟩; conv => whnf)
        | (refine ⟨fun z => absurd (show (1 : Int32) = 0 from z) (by decide), fun _ => ?_⟩; conv => whnf))
    have k2 : Wf l X uX7_close (d + 6) true (mC (mk w 7 r (jn I) L) + 0, mS (mk w 7 r (jn I) L) + 0) 59 [(0, .ref 150), (1, .int 0), (2, .int (nI 202))] [] (mk w 7 r (jn I) L) kr := by
      refine Wf.gc tkX7_close [61] ?_
      conv => whnf
      exact k7_fill2 (hz 156 (by decide)) key 25 0 rfl
    have := k7_fill1 (hz 154 (by decide)) k2 202 0 rfl
    have e : u2 (u2 (u2 (u2 (u2 (jn I) 150 0 0) 150 11 0) 150 2 0) 150 9 0) 150 13 0 = jn I := by rw [jz (by decide), jz (by decide), jz (by decide), jz (by decide), jz (by decide)]
    rw [← e] at this
    exact this
  · conv => whnf
    refine ⟨fun z => absurd rfl z, fun _ => ?_⟩
    conv => whnf
    refine k7_no ?_
    conv => whnf
    exact h _
end CLOSE7
