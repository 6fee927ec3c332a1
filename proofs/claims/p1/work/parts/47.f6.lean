/-! a fresh object: all numbers 0, but the reference's place -/
def I0 : Nat → Nat → Int32 := fun a i => if a = 150 ∧ i = 10 then -1 else 0
/-- of the reference all is fresh -/
def n150 (I : Nat → Nat → Int32) : Prop := ∀ a, 150 ≤ a → I a = I0 a
theorem n150_0 : n150 I0 := fun _ _ => rfl
theorem n150_u2 {I : Nat → Nat → Int32} {a i : Nat} {v : Int32} (ha : a < 150) (h : n150 I) : n150 (u2 I a i v) := by
  intro b hb
  rw [u2_oa (by omega)]
  exact h b hb
section F6
variable {l : Launch} {X : Nat × (Nat → Int32)} {d : Nat} {w : Nat × Nat} {L : Nat → Nat → Int64} {kr : KR} {x1 x2 x3 x4 : Int32}
theorem k6_hasClose (h : kr (some (.int 0)) (mk w 7 0 I0 L)) : Ev l X uX6_hasClose d true 0 0 [.ref 1] (mk w 7 0 I0 L) kr := sX6_hasClose (Or.inl rfl) (fun z => absurd z (by decide)) (fun _ => h)
theorem k6_isFace (h : kr (some (.int 0)) (mk w 7 0 I0 L)) : Ev l X uX6_isFace d true 0 0 [.ref 1, .int x1] (mk w 7 0 I0 L) kr := sX6_isFace (N := 0) (Or.inl rfl) (by decide) (by decide) (fun j hj => absurd hj (Nat.not_lt_zero j)) (fun _ => h)
theorem k6_isCanon (h : kr (some (.int 0)) (mk w 7 0 I0 L)) : Ev l X uX6_isCanon d true 0 0 [.ref 1, .int x1] (mk w 7 0 I0 L) kr := sX6_isCanon (N := 0) (Or.inl rfl) (by decide) (by decide) (fun j hj => absurd hj (Nat.not_lt_zero j)) (fun _ => h)
theorem k6_isWalker (h : kr (some (.int 0)) (mk w 7 0 I0 L)) : Ev l X uX6_isWalker d true 0 0 [.ref 1, .int x1] (mk w 7 0 I0 L) kr := sX6_isWalker (N := 0) (Or.inl rfl) (by decide) (by decide) (fun j hj => absurd hj (Nat.not_lt_zero j)) (fun _ => h)
theorem k6_isCell (h : kr (some (.int 0)) (mk w 7 0 I0 L)) : Ev l X uX6_isCell (d + 1) true 0 0 [.ref 1, .int x1] (mk w 7 0 I0 L) kr := by
  refine Ev.of (by decide) (Nat.le_of_ble_eq_true rfl) ?_
  refine Wf.gc tkX6_isCell [] ?_
  conv => whnf
  refine ⟨fun c1 => ?_, fun c1 => ?_⟩
  · conv => whnf
    exact ⟨Or.inl rfl, h⟩
  · conv => whnf
    refine sX3_cells (Or.inl rfl) ?_
    conv => whnf
    refine ⟨fun c2 => ?_, fun c2 => ?_⟩
    · conv => whnf
      exact ⟨Or.inl rfl, h⟩
    · exact absurd (show I0 7 0 * I0 7 1 ≤ x1 from (show I0 7 0 * I0 7 1 = 0 by decide) ▸ Int32.not_lt.mp c1) c2
theorem k6_canFollow (h : kr (some (.int 0)) (mk w 7 0 (u2 I0 1 13 1) L)) : Ev l X uX6_canFollow (d + 1) true 0 0 [.ref 1, .int x1, .int x2] (mk w 7 0 I0 L) kr := by
  refine Ev.of (by decide) (Nat.le_of_ble_eq_true rfl) ?_
  refine Wf.gc tkX6_canFollow [] ?_
  conv => whnf
  repeat (first
    | exact ⟨Or.inl rfl, h⟩
    | (refine k6_isFace ?_; conv => whnf)
    | (refine sX6_refuse ?_; conv => whnf)
    | (refine ⟨fun _ => ?_, fun z => absurd rfl z⟩; conv => whnf)
    | (refine ⟨fun z => absurd rfl z, fun _ => ?_⟩; conv => whnf)
    | (refine ⟨fun z => absurd z (by decide), fun _ => ?_⟩; conv => whnf)
    | (refine ⟨fun _ => ?_, fun z => absurd z (by decide)⟩; conv => whnf)
    | (refine ⟨fun _ => ?_, fun z => absurd (show (0 : Int32) = 4 from z) (by decide)⟩; conv => whnf))
theorem k6_canLookAhead (h : kr (some (.int 0)) (mk w 7 0 (u2 I0 1 13 1) L)) : Ev l X uX6_canLookAhead (d + 1) true 0 0 [.ref 1, .int x1, .int x2, .int x3] (mk w 7 0 I0 L) kr := by
  refine Ev.of (by decide) (Nat.le_of_ble_eq_true rfl) ?_
  refine Wf.gc tkX6_canLookAhead [] ?_
  conv => whnf
  repeat (first
    | exact ⟨Or.inl rfl, h⟩
    | (refine k6_hasClose ?_; conv => whnf)
    | (refine sX6_refuse ?_; conv => whnf)
    | (refine ⟨fun _ => ?_, fun z => absurd rfl z⟩; conv => whnf)
    | (refine ⟨fun z => absurd rfl z, fun _ => ?_⟩; conv => whnf)
    | (refine ⟨fun z => absurd z (by decide), fun _ => ?_⟩; conv => whnf)
    | (refine ⟨fun _ => ?_, fun z => absurd z (by decide)⟩; conv => whnf)
    | (refine ⟨fun _ => ?_, fun z => absurd (show (0 : Int32) = 4 from z) (by decide)⟩; conv => whnf))
theorem k6_canWalk (h : kr (some (.int 0)) (mk w 7 0 (u2 I0 1 13 1) L)) : Ev l X uX6_canWalk (d + 1) true 0 0 [.ref 1, .int x1, .int x2] (mk w 7 0 I0 L) kr := by
  refine Ev.of (by decide) (Nat.le_of_ble_eq_true rfl) ?_
  refine Wf.gc tkX6_canWalk [] ?_
  conv => whnf
  repeat (first
    | exact ⟨Or.inl rfl, h⟩
    | (refine k6_isWalker ?_; conv => whnf)
    | (refine sX6_refuse ?_; conv => whnf)
    | (refine ⟨fun _ => ?_, fun z => absurd rfl z⟩; conv => whnf)
    | (refine ⟨fun z => absurd rfl z, fun _ => ?_⟩; conv => whnf)
    | (refine ⟨fun z => absurd z (by decide), fun _ => ?_⟩; conv => whnf)
    | (refine ⟨fun _ => ?_, fun z => absurd z (by decide)⟩; conv => whnf)
    | (refine ⟨fun _ => ?_, fun z => absurd (show (0 : Int32) = 4 from z) (by decide)⟩; conv => whnf))
theorem k6_canChance (h : kr (some (.int 0)) (mk w 7 0 (u2 I0 1 13 1) L)) : Ev l X uX6_canChance (d + 2) true 0 0 [.ref 1, .int x1, .int x2] (mk w 7 0 I0 L) kr := by
  refine Ev.of (by decide) (Nat.le_of_ble_eq_true rfl) ?_
  refine Wf.gc tkX6_canChance [] ?_
  conv => whnf
  repeat (first
    | exact ⟨Or.inl rfl, h⟩
    | (refine k6_isFace ?_; conv => whnf)
    | (refine sX6_refuse ?_; conv => whnf)
    | (refine ⟨fun _ => ?_, fun z => absurd rfl z⟩; conv => whnf)
    | (refine ⟨fun z => absurd rfl z, fun _ => ?_⟩; conv => whnf)
    | (refine ⟨fun z => absurd z (by decide), fun _ => ?_⟩; conv => whnf)
    | (refine ⟨fun _ => ?_, fun z => absurd z (by decide)⟩; conv => whnf)
    | (refine ⟨fun _ => ?_, fun z => absurd (show (0 : Int32) = 4 from z) (by decide)⟩; conv => whnf))
theorem k6_canGame (h : kr (some (.int 0)) (mk w 7 0 (u2 I0 1 13 1) L)) : Ev l X uX6_canGame (d + 2) true 0 0 [.ref 1, .int x1] (mk w 7 0 I0 L) kr := by
  refine Ev.of (by decide) (Nat.le_of_ble_eq_true rfl) ?_
  refine Wf.gc tkX6_canGame [] ?_
  conv => whnf
  repeat (first
    | exact ⟨Or.inl rfl, h⟩
    | (refine k6_canLookAhead ?_; conv => whnf)
    | (refine ⟨fun _ => ?_, fun z => absurd rfl z⟩; conv => whnf)
    | (refine ⟨fun z => absurd rfl z, fun _ => ?_⟩; conv => whnf)
    | (refine ⟨fun z => absurd z (by decide), fun _ => ?_⟩; conv => whnf)
    | (refine ⟨fun _ => ?_, fun z => absurd z (by decide)⟩; conv => whnf)
    | (refine ⟨fun _ => ?_, fun z => absurd (show (0 : Int32) = 4 from z) (by decide)⟩; conv => whnf))
set_option maxRecDepth 20000 in
theorem f6_fault (h : ∀ I', n150 I' → kr (some (.int 0)) (mk w 7 0 I' L)) : Ev l X uX6_fault (d + 6) true 0 0 [.ref 1] (mk w 7 0 I0 L) kr := by
  refine Ev.of (by decide) (Nat.le_of_ble_eq_true rfl) ?_
  refine Wf.gc tkX6_fault [] ?_
  conv => whnf
  repeat (first
    | exact h _ (n150_u2 (by decide) n150_0)
    | exact h _ n150_0
    | exact ⟨Or.inl rfl, h _ (n150_u2 (by decide) n150_0)⟩
    | (refine ⟨fun _ => ?_, fun z => absurd rfl z⟩; conv => whnf)
    | (refine ⟨fun z => absurd rfl z, fun _ => ?_⟩; conv => whnf)
    | (refine ⟨fun z => absurd z (by decide), fun _ => ?_⟩; conv => whnf)
    | (refine ⟨fun _ => ?_, fun z => absurd z (by decide)⟩; conv => whnf)
    | (refine ⟨fun _ => ?_, fun z => absurd (show (0 : Int32) = 4 from z) (by decide)⟩; conv => whnf))
set_option maxRecDepth 20000 in
theorem f6_where (h : ∀ I', n150 I' → kr (some (.int (-1))) (mk w 7 0 I' L)) : Ev l X uX6_where (d + 6) true 0 0 [.ref 1] (mk w 7 0 I0 L) kr := by
  refine Ev.of (by decide) (Nat.le_of_ble_eq_true rfl) ?_
  refine Wf.gc tkX6_where [] ?_
  conv => whnf
  repeat (first
    | exact h _ (n150_u2 (by decide) n150_0)
    | exact h _ n150_0
    | exact ⟨Or.inl rfl, h _ (n150_u2 (by decide) n150_0)⟩
    | (refine ⟨fun _ => ?_, fun z => absurd rfl z⟩; conv => whnf)
    | (refine ⟨fun z => absurd rfl z, fun _ => ?_⟩; conv => whnf)
    | (refine ⟨fun z => absurd z (by decide), fun _ => ?_⟩; conv => whnf)
    | (refine ⟨fun _ => ?_, fun z => absurd z (by decide)⟩; conv => whnf)
    | (refine ⟨fun _ => ?_, fun z => absurd (show (0 : Int32) = 4 from z) (by decide)⟩; conv => whnf))
set_option maxRecDepth 20000 in
theorem f6_face (h : ∀ I', n150 I' → kr (some (.int (-1))) (mk w 7 0 I' L)) : Ev l X uX6_face (d + 6) true 0 0 [.ref 1, .int x1, .int x2] (mk w 7 0 I0 L) kr := by
  refine Ev.of (by decide) (Nat.le_of_ble_eq_true rfl) ?_
  refine Wf.gc tkX6_face [] ?_
  conv => whnf
  repeat (first
    | exact h _ (n150_u2 (by decide) n150_0)
    | exact h _ n150_0
    | exact ⟨Or.inl rfl, h _ (n150_u2 (by decide) n150_0)⟩
    | (refine sX6_answer ?_; conv => whnf)
    | (refine k6_isFace ?_; conv => whnf)
    | (refine sX6_refuse ?_; conv => whnf)
    | (refine ⟨fun _ => ?_, fun z => absurd rfl z⟩; conv => whnf)
    | (refine ⟨fun z => absurd rfl z, fun _ => ?_⟩; conv => whnf)
    | (refine ⟨fun z => absurd z (by decide), fun _ => ?_⟩; conv => whnf)
    | (refine ⟨fun _ => ?_, fun z => absurd z (by decide)⟩; conv => whnf)
    | (refine ⟨fun _ => ?_, fun z => absurd (show (0 : Int32) = 4 from z) (by decide)⟩; conv => whnf))
set_option maxRecDepth 20000 in
theorem f6_canon (h : ∀ I', n150 I' → kr (some (.int (-1))) (mk w 7 0 I' L)) : Ev l X uX6_canon (d + 6) true 0 0 [.ref 1, .int x1, .int x2] (mk w 7 0 I0 L) kr := by
  refine Ev.of (by decide) (Nat.le_of_ble_eq_true rfl) ?_
  refine Wf.gc tkX6_canon [] ?_
  conv => whnf
  repeat (first
    | exact h _ (n150_u2 (by decide) n150_0)
    | exact h _ n150_0
    | exact ⟨Or.inl rfl, h _ (n150_u2 (by decide) n150_0)⟩
    | (refine sX6_answer ?_; conv => whnf)
    | (refine k6_isCanon ?_; conv => whnf)
    | (refine sX6_refuse ?_; conv => whnf)
    | (refine ⟨fun _ => ?_, fun z => absurd rfl z⟩; conv => whnf)
    | (refine ⟨fun z => absurd rfl z, fun _ => ?_⟩; conv => whnf)
    | (refine ⟨fun z => absurd z (by decide), fun _ => ?_⟩; conv => whnf)
    | (refine ⟨fun _ => ?_, fun z => absurd z (by decide)⟩; conv => whnf)
    | (refine ⟨fun _ => ?_, fun z => absurd (show (0 : Int32) = 4 from z) (by decide)⟩; conv => whnf))
set_option maxRecDepth 20000 in
theorem f6_cell (h : ∀ I', n150 I' → kr (some (.int (-1))) (mk w 7 0 I' L)) : Ev l X uX6_cell (d + 6) true 0 0 [.ref 1, .int x1, .int x2] (mk w 7 0 I0 L) kr := by
  refine Ev.of (by decide) (Nat.le_of_ble_eq_true rfl) ?_
  refine Wf.gc tkX6_cell [] ?_
  conv => whnf
  repeat (first
    | exact h _ (n150_u2 (by decide) n150_0)
    | exact h _ n150_0
    | exact ⟨Or.inl rfl, h _ (n150_u2 (by decide) n150_0)⟩
    | (refine sX6_answer ?_; conv => whnf)
    | (refine k6_isCell ?_; conv => whnf)
    | (refine sX6_refuse ?_; conv => whnf)
    | (refine ⟨fun _ => ?_, fun z => absurd rfl z⟩; conv => whnf)
    | (refine ⟨fun z => absurd rfl z, fun _ => ?_⟩; conv => whnf)
    | (refine ⟨fun z => absurd z (by decide), fun _ => ?_⟩; conv => whnf)
    | (refine ⟨fun _ => ?_, fun z => absurd z (by decide)⟩; conv => whnf)
    | (refine ⟨fun _ => ?_, fun z => absurd (show (0 : Int32) = 4 from z) (by decide)⟩; conv => whnf))
set_option maxRecDepth 20000 in
theorem f6_burden (h : ∀ I', n150 I' → kr (some (.int (-1))) (mk w 7 0 I' L)) : Ev l X uX6_burden (d + 6) true 0 0 [.ref 1] (mk w 7 0 I0 L) kr := by
  refine Ev.of (by decide) (Nat.le_of_ble_eq_true rfl) ?_
  refine Wf.gc tkX6_burden [] ?_
  conv => whnf
  repeat (first
    | exact h _ (n150_u2 (by decide) n150_0)
    | exact h _ n150_0
    | exact ⟨Or.inl rfl, h _ (n150_u2 (by decide) n150_0)⟩
    | (refine sX6_answer ?_; conv => whnf)
    | (refine k6_hasClose ?_; conv => whnf)
    | (refine sX6_refuse ?_; conv => whnf)
    | (refine ⟨fun _ => ?_, fun z => absurd rfl z⟩; conv => whnf)
    | (refine ⟨fun z => absurd rfl z, fun _ => ?_⟩; conv => whnf)
    | (refine ⟨fun z => absurd z (by decide), fun _ => ?_⟩; conv => whnf)
    | (refine ⟨fun _ => ?_, fun z => absurd z (by decide)⟩; conv => whnf)
    | (refine ⟨fun _ => ?_, fun z => absurd (show (0 : Int32) = 4 from z) (by decide)⟩; conv => whnf))
set_option maxRecDepth 20000 in
theorem f6_bears (h : ∀ I', n150 I' → kr (some (.int (-1))) (mk w 7 0 I' L)) : Ev l X uX6_bears (d + 6) true 0 0 [.ref 1, .int x1, .int x2] (mk w 7 0 I0 L) kr := by
  refine Ev.of (by decide) (Nat.le_of_ble_eq_true rfl) ?_
  refine Wf.gc tkX6_bears [] ?_
  conv => whnf
  repeat (first
    | exact h _ (n150_u2 (by decide) n150_0)
    | exact h _ n150_0
    | exact ⟨Or.inl rfl, h _ (n150_u2 (by decide) n150_0)⟩
    | (refine sX6_answer ?_; conv => whnf)
    | (refine k6_canFollow ?_; conv => whnf)
    | (refine ⟨fun _ => ?_, fun z => absurd rfl z⟩; conv => whnf)
    | (refine ⟨fun z => absurd rfl z, fun _ => ?_⟩; conv => whnf)
    | (refine ⟨fun z => absurd z (by decide), fun _ => ?_⟩; conv => whnf)
    | (refine ⟨fun _ => ?_, fun z => absurd z (by decide)⟩; conv => whnf)
    | (refine ⟨fun _ => ?_, fun z => absurd (show (0 : Int32) = 4 from z) (by decide)⟩; conv => whnf))
set_option maxRecDepth 20000 in
theorem f6_holds (h : ∀ I', n150 I' → kr (some (.int (-1))) (mk w 7 0 I' L)) : Ev l X uX6_holds (d + 6) true 0 0 [.ref 1, .int x1, .int x2] (mk w 7 0 I0 L) kr := by
  refine Ev.of (by decide) (Nat.le_of_ble_eq_true rfl) ?_
  refine Wf.gc tkX6_holds [] ?_
  conv => whnf
  repeat (first
    | exact h _ (n150_u2 (by decide) n150_0)
    | exact h _ n150_0
    | exact ⟨Or.inl rfl, h _ (n150_u2 (by decide) n150_0)⟩
    | (refine sX6_answer ?_; conv => whnf)
    | (refine k6_canFollow ?_; conv => whnf)
    | (refine ⟨fun _ => ?_, fun z => absurd rfl z⟩; conv => whnf)
    | (refine ⟨fun z => absurd rfl z, fun _ => ?_⟩; conv => whnf)
    | (refine ⟨fun z => absurd z (by decide), fun _ => ?_⟩; conv => whnf)
    | (refine ⟨fun _ => ?_, fun z => absurd z (by decide)⟩; conv => whnf)
    | (refine ⟨fun _ => ?_, fun z => absurd (show (0 : Int32) = 4 from z) (by decide)⟩; conv => whnf))
set_option maxRecDepth 20000 in
theorem f6_drops (h : ∀ I', n150 I' → kr (some (.int (-1))) (mk w 7 0 I' L)) : Ev l X uX6_drops (d + 6) true 0 0 [.ref 1, .int x1, .int x2] (mk w 7 0 I0 L) kr := by
  refine Ev.of (by decide) (Nat.le_of_ble_eq_true rfl) ?_
  refine Wf.gc tkX6_drops [] ?_
  conv => whnf
  repeat (first
    | exact h _ (n150_u2 (by decide) n150_0)
    | exact h _ n150_0
    | exact ⟨Or.inl rfl, h _ (n150_u2 (by decide) n150_0)⟩
    | (refine sX6_answer ?_; conv => whnf)
    | (refine k6_canFollow ?_; conv => whnf)
    | (refine ⟨fun _ => ?_, fun z => absurd rfl z⟩; conv => whnf)
    | (refine ⟨fun z => absurd rfl z, fun _ => ?_⟩; conv => whnf)
    | (refine ⟨fun z => absurd z (by decide), fun _ => ?_⟩; conv => whnf)
    | (refine ⟨fun _ => ?_, fun z => absurd z (by decide)⟩; conv => whnf)
    | (refine ⟨fun _ => ?_, fun z => absurd (show (0 : Int32) = 4 from z) (by decide)⟩; conv => whnf))
set_option maxRecDepth 20000 in
theorem f6_dropsIn (h : ∀ I', n150 I' → kr (some (.int (-1))) (mk w 7 0 I' L)) : Ev l X uX6_dropsIn (d + 6) true 0 0 [.ref 1, .int x1] (mk w 7 0 I0 L) kr := by
  refine Ev.of (by decide) (Nat.le_of_ble_eq_true rfl) ?_
  refine Wf.gc tkX6_dropsIn [] ?_
  conv => whnf
  repeat (first
    | exact h _ (n150_u2 (by decide) n150_0)
    | exact h _ n150_0
    | exact ⟨Or.inl rfl, h _ (n150_u2 (by decide) n150_0)⟩
    | (refine sX6_answer ?_; conv => whnf)
    | (refine k6_isFace ?_; conv => whnf)
    | (refine sX6_refuse ?_; conv => whnf)
    | (refine ⟨fun _ => ?_, fun z => absurd rfl z⟩; conv => whnf)
    | (refine ⟨fun z => absurd rfl z, fun _ => ?_⟩; conv => whnf)
    | (refine ⟨fun z => absurd z (by decide), fun _ => ?_⟩; conv => whnf)
    | (refine ⟨fun _ => ?_, fun z => absurd z (by decide)⟩; conv => whnf)
    | (refine ⟨fun _ => ?_, fun z => absurd (show (0 : Int32) = 4 from z) (by decide)⟩; conv => whnf))
set_option maxRecDepth 20000 in
theorem f6_fallsIn (h : ∀ I', n150 I' → kr (some (.int (-1))) (mk w 7 0 I' L)) : Ev l X uX6_fallsIn (d + 6) true 0 0 [.ref 1, .int x1] (mk w 7 0 I0 L) kr := by
  refine Ev.of (by decide) (Nat.le_of_ble_eq_true rfl) ?_
  refine Wf.gc tkX6_fallsIn [] ?_
  conv => whnf
  repeat (first
    | exact h _ (n150_u2 (by decide) n150_0)
    | exact h _ n150_0
    | exact ⟨Or.inl rfl, h _ (n150_u2 (by decide) n150_0)⟩
    | (refine sX6_answer ?_; conv => whnf)
    | (refine k6_isFace ?_; conv => whnf)
    | (refine sX6_refuse ?_; conv => whnf)
    | (refine ⟨fun _ => ?_, fun z => absurd rfl z⟩; conv => whnf)
    | (refine ⟨fun z => absurd rfl z, fun _ => ?_⟩; conv => whnf)
    | (refine ⟨fun z => absurd z (by decide), fun _ => ?_⟩; conv => whnf)
    | (refine ⟨fun _ => ?_, fun z => absurd z (by decide)⟩; conv => whnf)
    | (refine ⟨fun _ => ?_, fun z => absurd (show (0 : Int32) = 4 from z) (by decide)⟩; conv => whnf))
set_option maxRecDepth 20000 in
theorem f6_wet (h : ∀ I', n150 I' → kr (some (.int (-1))) (mk w 7 0 I' L)) : Ev l X uX6_wet (d + 6) true 0 0 [.ref 1, .int x1] (mk w 7 0 I0 L) kr := by
  refine Ev.of (by decide) (Nat.le_of_ble_eq_true rfl) ?_
  refine Wf.gc tkX6_wet [] ?_
  conv => whnf
  repeat (first
    | exact h _ (n150_u2 (by decide) n150_0)
    | exact h _ n150_0
    | exact ⟨Or.inl rfl, h _ (n150_u2 (by decide) n150_0)⟩
    | (refine sX6_answer ?_; conv => whnf)
    | (refine k6_canLookAhead ?_; conv => whnf)
    | (refine ⟨fun _ => ?_, fun z => absurd rfl z⟩; conv => whnf)
    | (refine ⟨fun z => absurd rfl z, fun _ => ?_⟩; conv => whnf)
    | (refine ⟨fun z => absurd z (by decide), fun _ => ?_⟩; conv => whnf)
    | (refine ⟨fun _ => ?_, fun z => absurd z (by decide)⟩; conv => whnf)
    | (refine ⟨fun _ => ?_, fun z => absurd (show (0 : Int32) = 4 from z) (by decide)⟩; conv => whnf))
set_option maxRecDepth 20000 in
theorem f6_wetDays (h : ∀ I', n150 I' → kr (some (.int (-1))) (mk w 7 0 I' L)) : Ev l X uX6_wetDays (d + 6) true 0 0 [.ref 1, .int x1, .int x2] (mk w 7 0 I0 L) kr := by
  refine Ev.of (by decide) (Nat.le_of_ble_eq_true rfl) ?_
  refine Wf.gc tkX6_wetDays [] ?_
  conv => whnf
  repeat (first
    | exact h _ (n150_u2 (by decide) n150_0)
    | exact h _ n150_0
    | exact ⟨Or.inl rfl, h _ (n150_u2 (by decide) n150_0)⟩
    | (refine sX6_answer ?_; conv => whnf)
    | (refine k6_isCell ?_; conv => whnf)
    | (refine sX6_refuse ?_; conv => whnf)
    | (refine ⟨fun _ => ?_, fun z => absurd rfl z⟩; conv => whnf)
    | (refine ⟨fun z => absurd rfl z, fun _ => ?_⟩; conv => whnf)
    | (refine ⟨fun z => absurd z (by decide), fun _ => ?_⟩; conv => whnf)
    | (refine ⟨fun _ => ?_, fun z => absurd z (by decide)⟩; conv => whnf)
    | (refine ⟨fun _ => ?_, fun z => absurd (show (0 : Int32) = 4 from z) (by decide)⟩; conv => whnf))
set_option maxRecDepth 20000 in
theorem f6_wettest (h : ∀ I', n150 I' → kr (some (.int (-1))) (mk w 7 0 I' L)) : Ev l X uX6_wettest (d + 6) true 0 0 [.ref 1] (mk w 7 0 I0 L) kr := by
  refine Ev.of (by decide) (Nat.le_of_ble_eq_true rfl) ?_
  refine Wf.gc tkX6_wettest [] ?_
  conv => whnf
  repeat (first
    | exact h _ (n150_u2 (by decide) n150_0)
    | exact h _ n150_0
    | exact ⟨Or.inl rfl, h _ (n150_u2 (by decide) n150_0)⟩
    | (refine sX6_answer ?_; conv => whnf)
    | (refine k6_hasClose ?_; conv => whnf)
    | (refine sX6_refuse ?_; conv => whnf)
    | (refine ⟨fun _ => ?_, fun z => absurd rfl z⟩; conv => whnf)
    | (refine ⟨fun z => absurd rfl z, fun _ => ?_⟩; conv => whnf)
    | (refine ⟨fun z => absurd z (by decide), fun _ => ?_⟩; conv => whnf)
    | (refine ⟨fun _ => ?_, fun z => absurd z (by decide)⟩; conv => whnf)
    | (refine ⟨fun _ => ?_, fun z => absurd (show (0 : Int32) = 4 from z) (by decide)⟩; conv => whnf))
set_option maxRecDepth 20000 in
theorem f6_sunny (h : ∀ I', n150 I' → kr (some (.int (-1))) (mk w 7 0 I' L)) : Ev l X uX6_sunny (d + 6) true 0 0 [.ref 1] (mk w 7 0 I0 L) kr := by
  refine Ev.of (by decide) (Nat.le_of_ble_eq_true rfl) ?_
  refine Wf.gc tkX6_sunny [] ?_
  conv => whnf
  repeat (first
    | exact h _ (n150_u2 (by decide) n150_0)
    | exact h _ n150_0
    | exact ⟨Or.inl rfl, h _ (n150_u2 (by decide) n150_0)⟩
    | (refine sX6_answer ?_; conv => whnf)
    | (refine k6_hasClose ?_; conv => whnf)
    | (refine sX6_refuse ?_; conv => whnf)
    | (refine ⟨fun _ => ?_, fun z => absurd rfl z⟩; conv => whnf)
    | (refine ⟨fun z => absurd rfl z, fun _ => ?_⟩; conv => whnf)
    | (refine ⟨fun z => absurd z (by decide), fun _ => ?_⟩; conv => whnf)
    | (refine ⟨fun _ => ?_, fun z => absurd z (by decide)⟩; conv => whnf)
    | (refine ⟨fun _ => ?_, fun z => absurd (show (0 : Int32) = 4 from z) (by decide)⟩; conv => whnf))
set_option maxRecDepth 20000 in
theorem f6_heaviest (h : ∀ I', n150 I' → kr (some (.int (-1))) (mk w 7 0 I' L)) : Ev l X uX6_heaviest (d + 6) true 0 0 [.ref 1] (mk w 7 0 I0 L) kr := by
  refine Ev.of (by decide) (Nat.le_of_ble_eq_true rfl) ?_
  refine Wf.gc tkX6_heaviest [] ?_
  conv => whnf
  repeat (first
    | exact h _ (n150_u2 (by decide) n150_0)
    | exact h _ n150_0
    | exact ⟨Or.inl rfl, h _ (n150_u2 (by decide) n150_0)⟩
    | (refine sX6_answer ?_; conv => whnf)
    | (refine k6_hasClose ?_; conv => whnf)
    | (refine sX6_refuse ?_; conv => whnf)
    | (refine ⟨fun _ => ?_, fun z => absurd rfl z⟩; conv => whnf)
    | (refine ⟨fun z => absurd rfl z, fun _ => ?_⟩; conv => whnf)
    | (refine ⟨fun z => absurd z (by decide), fun _ => ?_⟩; conv => whnf)
    | (refine ⟨fun _ => ?_, fun z => absurd z (by decide)⟩; conv => whnf)
    | (refine ⟨fun _ => ?_, fun z => absurd (show (0 : Int32) = 4 from z) (by decide)⟩; conv => whnf))
set_option maxRecDepth 20000 in
theorem f6_fallen (h : ∀ I', n150 I' → kr (some (.int (-1))) (mk w 7 0 I' L)) : Ev l X uX6_fallen (d + 6) true 0 0 [.ref 1, .int x1] (mk w 7 0 I0 L) kr := by
  refine Ev.of (by decide) (Nat.le_of_ble_eq_true rfl) ?_
  refine Wf.gc tkX6_fallen [] ?_
  conv => whnf
  repeat (first
    | exact h _ (n150_u2 (by decide) n150_0)
    | exact h _ n150_0
    | exact ⟨Or.inl rfl, h _ (n150_u2 (by decide) n150_0)⟩
    | (refine sX6_answer ?_; conv => whnf)
    | (refine k6_canLookAhead ?_; conv => whnf)
    | (refine ⟨fun _ => ?_, fun z => absurd rfl z⟩; conv => whnf)
    | (refine ⟨fun z => absurd rfl z, fun _ => ?_⟩; conv => whnf)
    | (refine ⟨fun z => absurd z (by decide), fun _ => ?_⟩; conv => whnf)
    | (refine ⟨fun _ => ?_, fun z => absurd z (by decide)⟩; conv => whnf)
    | (refine ⟨fun _ => ?_, fun z => absurd (show (0 : Int32) = 4 from z) (by decide)⟩; conv => whnf))
set_option maxRecDepth 20000 in
theorem f6_dropsIf (h : ∀ I', n150 I' → kr (some (.int (-1))) (mk w 7 0 I' L)) : Ev l X uX6_dropsIf (d + 6) true 0 0 [.ref 1, .int x1, .int x2, .int x3] (mk w 7 0 I0 L) kr := by
  refine Ev.of (by decide) (Nat.le_of_ble_eq_true rfl) ?_
  refine Wf.gc tkX6_dropsIf [] ?_
  conv => whnf
  repeat (first
    | exact h _ (n150_u2 (by decide) n150_0)
    | exact h _ n150_0
    | exact ⟨Or.inl rfl, h _ (n150_u2 (by decide) n150_0)⟩
    | (refine sX6_answer ?_; conv => whnf)
    | (refine k6_isCanon ?_; conv => whnf)
    | (refine k6_isFace ?_; conv => whnf)
    | (refine sX6_refuse ?_; conv => whnf)
    | (refine ⟨fun _ => ?_, fun z => absurd rfl z⟩; conv => whnf)
    | (refine ⟨fun z => absurd rfl z, fun _ => ?_⟩; conv => whnf)
    | (refine ⟨fun z => absurd z (by decide), fun _ => ?_⟩; conv => whnf)
    | (refine ⟨fun _ => ?_, fun z => absurd z (by decide)⟩; conv => whnf)
    | (refine ⟨fun _ => ?_, fun z => absurd (show (0 : Int32) = 4 from z) (by decide)⟩; conv => whnf))
set_option maxRecDepth 20000 in
theorem f6_faceFor (h : ∀ I', n150 I' → kr (some (.int (-1))) (mk w 7 0 I' L)) : Ev l X uX6_faceFor (d + 6) true 0 0 [.ref 1, .int x1, .int x2] (mk w 7 0 I0 L) kr := by
  refine Ev.of (by decide) (Nat.le_of_ble_eq_true rfl) ?_
  refine Wf.gc tkX6_faceFor [] ?_
  conv => whnf
  repeat (first
    | exact h _ (n150_u2 (by decide) n150_0)
    | exact h _ n150_0
    | exact ⟨Or.inl rfl, h _ (n150_u2 (by decide) n150_0)⟩
    | (refine sX6_answer ?_; conv => whnf)
    | (refine k6_isCanon ?_; conv => whnf)
    | (refine sX6_refuse ?_; conv => whnf)
    | (refine ⟨fun _ => ?_, fun z => absurd rfl z⟩; conv => whnf)
    | (refine ⟨fun z => absurd rfl z, fun _ => ?_⟩; conv => whnf)
    | (refine ⟨fun z => absurd z (by decide), fun _ => ?_⟩; conv => whnf)
    | (refine ⟨fun _ => ?_, fun z => absurd z (by decide)⟩; conv => whnf)
    | (refine ⟨fun _ => ?_, fun z => absurd (show (0 : Int32) = 4 from z) (by decide)⟩; conv => whnf))
set_option maxRecDepth 20000 in
theorem f6_match (h : ∀ I', n150 I' → kr (some (.int (-1))) (mk w 7 0 I' L)) : Ev l X uX6_match (d + 6) true 0 0 [.ref 1, .int x1] (mk w 7 0 I0 L) kr := by
  refine Ev.of (by decide) (Nat.le_of_ble_eq_true rfl) ?_
  refine Wf.gc tkX6_match [] ?_
  conv => whnf
  repeat (first
    | exact h _ (n150_u2 (by decide) n150_0)
    | exact h _ n150_0
    | exact ⟨Or.inl rfl, h _ (n150_u2 (by decide) n150_0)⟩
    | (refine sX6_answer ?_; conv => whnf)
    | (refine k6_canLookAhead ?_; conv => whnf)
    | (refine ⟨fun _ => ?_, fun z => absurd rfl z⟩; conv => whnf)
    | (refine ⟨fun z => absurd rfl z, fun _ => ?_⟩; conv => whnf)
    | (refine ⟨fun z => absurd z (by decide), fun _ => ?_⟩; conv => whnf)
    | (refine ⟨fun _ => ?_, fun z => absurd z (by decide)⟩; conv => whnf)
    | (refine ⟨fun _ => ?_, fun z => absurd (show (0 : Int32) = 4 from z) (by decide)⟩; conv => whnf))
set_option maxRecDepth 20000 in
theorem f6_matchDrops (h : ∀ I', n150 I' → kr (some (.int (-1))) (mk w 7 0 I' L)) : Ev l X uX6_matchDrops (d + 6) true 0 0 [.ref 1, .int x1] (mk w 7 0 I0 L) kr := by
  refine Ev.of (by decide) (Nat.le_of_ble_eq_true rfl) ?_
  refine Wf.gc tkX6_matchDrops [] ?_
  conv => whnf
  repeat (first
    | exact h _ (n150_u2 (by decide) n150_0)
    | exact h _ n150_0
    | exact ⟨Or.inl rfl, h _ (n150_u2 (by decide) n150_0)⟩
    | (refine sX6_answer ?_; conv => whnf)
    | (refine k6_canLookAhead ?_; conv => whnf)
    | (refine ⟨fun _ => ?_, fun z => absurd rfl z⟩; conv => whnf)
    | (refine ⟨fun z => absurd rfl z, fun _ => ?_⟩; conv => whnf)
    | (refine ⟨fun z => absurd z (by decide), fun _ => ?_⟩; conv => whnf)
    | (refine ⟨fun _ => ?_, fun z => absurd z (by decide)⟩; conv => whnf)
    | (refine ⟨fun _ => ?_, fun z => absurd (show (0 : Int32) = 4 from z) (by decide)⟩; conv => whnf))
set_option maxRecDepth 20000 in
theorem f6_matchAt (h : ∀ I', n150 I' → kr (some (.int (-1))) (mk w 7 0 I' L)) : Ev l X uX6_matchAt (d + 6) true 0 0 [.ref 1, .int x1, .int x2] (mk w 7 0 I0 L) kr := by
  refine Ev.of (by decide) (Nat.le_of_ble_eq_true rfl) ?_
  refine Wf.gc tkX6_matchAt [] ?_
  conv => whnf
  repeat (first
    | exact h _ (n150_u2 (by decide) n150_0)
    | exact h _ n150_0
    | exact ⟨Or.inl rfl, h _ (n150_u2 (by decide) n150_0)⟩
    | (refine sX6_answer ?_; conv => whnf)
    | (refine k6_isCanon ?_; conv => whnf)
    | (refine sX6_refuse ?_; conv => whnf)
    | (refine ⟨fun _ => ?_, fun z => absurd rfl z⟩; conv => whnf)
    | (refine ⟨fun z => absurd rfl z, fun _ => ?_⟩; conv => whnf)
    | (refine ⟨fun z => absurd z (by decide), fun _ => ?_⟩; conv => whnf)
    | (refine ⟨fun _ => ?_, fun z => absurd z (by decide)⟩; conv => whnf)
    | (refine ⟨fun _ => ?_, fun z => absurd (show (0 : Int32) = 4 from z) (by decide)⟩; conv => whnf))
set_option maxRecDepth 20000 in
theorem f6_steps (h : ∀ I', n150 I' → kr (some (.int (-1))) (mk w 7 0 I' L)) : Ev l X uX6_steps (d + 6) true 0 0 [.ref 1, .int x1, .int x2] (mk w 7 0 I0 L) kr := by
  refine Ev.of (by decide) (Nat.le_of_ble_eq_true rfl) ?_
  refine Wf.gc tkX6_steps [] ?_
  conv => whnf
  repeat (first
    | exact h _ (n150_u2 (by decide) n150_0)
    | exact h _ n150_0
    | exact ⟨Or.inl rfl, h _ (n150_u2 (by decide) n150_0)⟩
    | (refine sX6_answer ?_; conv => whnf)
    | (refine k6_isCell ?_; conv => whnf)
    | (refine sX6_refuse ?_; conv => whnf)
    | (refine ⟨fun _ => ?_, fun z => absurd rfl z⟩; conv => whnf)
    | (refine ⟨fun z => absurd rfl z, fun _ => ?_⟩; conv => whnf)
    | (refine ⟨fun z => absurd z (by decide), fun _ => ?_⟩; conv => whnf)
    | (refine ⟨fun _ => ?_, fun z => absurd z (by decide)⟩; conv => whnf)
    | (refine ⟨fun _ => ?_, fun z => absurd (show (0 : Int32) = 4 from z) (by decide)⟩; conv => whnf))
set_option maxRecDepth 20000 in
theorem f6_wets (h : ∀ I', n150 I' → kr (some (.int (-1))) (mk w 7 0 I' L)) : Ev l X uX6_wets (d + 6) true 0 0 [.ref 1, .int x1, .int x2] (mk w 7 0 I0 L) kr := by
  refine Ev.of (by decide) (Nat.le_of_ble_eq_true rfl) ?_
  refine Wf.gc tkX6_wets [] ?_
  conv => whnf
  repeat (first
    | exact h _ (n150_u2 (by decide) n150_0)
    | exact h _ n150_0
    | exact ⟨Or.inl rfl, h _ (n150_u2 (by decide) n150_0)⟩
    | (refine sX6_answer ?_; conv => whnf)
    | (refine k6_canWalk ?_; conv => whnf)
    | (refine ⟨fun _ => ?_, fun z => absurd rfl z⟩; conv => whnf)
    | (refine ⟨fun z => absurd rfl z, fun _ => ?_⟩; conv => whnf)
    | (refine ⟨fun z => absurd z (by decide), fun _ => ?_⟩; conv => whnf)
    | (refine ⟨fun _ => ?_, fun z => absurd z (by decide)⟩; conv => whnf)
    | (refine ⟨fun _ => ?_, fun z => absurd (show (0 : Int32) = 4 from z) (by decide)⟩; conv => whnf))
set_option maxRecDepth 20000 in
theorem f6_way (h : ∀ I', n150 I' → kr (some (.int (-1))) (mk w 7 0 I' L)) : Ev l X uX6_way (d + 6) true 0 0 [.ref 1, .int x1, .int x2] (mk w 7 0 I0 L) kr := by
  refine Ev.of (by decide) (Nat.le_of_ble_eq_true rfl) ?_
  refine Wf.gc tkX6_way [] ?_
  conv => whnf
  repeat (first
    | exact h _ (n150_u2 (by decide) n150_0)
    | exact h _ n150_0
    | exact ⟨Or.inl rfl, h _ (n150_u2 (by decide) n150_0)⟩
    | (refine sX6_answer ?_; conv => whnf)
    | (refine k6_canWalk ?_; conv => whnf)
    | (refine ⟨fun _ => ?_, fun z => absurd rfl z⟩; conv => whnf)
    | (refine ⟨fun z => absurd rfl z, fun _ => ?_⟩; conv => whnf)
    | (refine ⟨fun z => absurd z (by decide), fun _ => ?_⟩; conv => whnf)
    | (refine ⟨fun _ => ?_, fun z => absurd z (by decide)⟩; conv => whnf)
    | (refine ⟨fun _ => ?_, fun z => absurd (show (0 : Int32) = 4 from z) (by decide)⟩; conv => whnf))
set_option maxRecDepth 20000 in
theorem f6_wayAt (h : ∀ I', n150 I' → kr (some (.int (-1))) (mk w 7 0 I' L)) : Ev l X uX6_wayAt (d + 6) true 0 0 [.ref 1, .int x1, .int x2, .int x3] (mk w 7 0 I0 L) kr := by
  refine Ev.of (by decide) (Nat.le_of_ble_eq_true rfl) ?_
  refine Wf.gc tkX6_wayAt [] ?_
  conv => whnf
  repeat (first
    | exact h _ (n150_u2 (by decide) n150_0)
    | exact h _ n150_0
    | exact ⟨Or.inl rfl, h _ (n150_u2 (by decide) n150_0)⟩
    | (refine sX6_answer ?_; conv => whnf)
    | (refine k6_canWalk ?_; conv => whnf)
    | (refine sX6_refuse ?_; conv => whnf)
    | (refine ⟨fun _ => ?_, fun z => absurd rfl z⟩; conv => whnf)
    | (refine ⟨fun z => absurd rfl z, fun _ => ?_⟩; conv => whnf)
    | (refine ⟨fun z => absurd z (by decide), fun _ => ?_⟩; conv => whnf)
    | (refine ⟨fun _ => ?_, fun z => absurd z (by decide)⟩; conv => whnf)
    | (refine ⟨fun _ => ?_, fun z => absurd (show (0 : Int32) = 4 from z) (by decide)⟩; conv => whnf))
set_option maxRecDepth 20000 in
theorem f6_dryDay (h : ∀ I', n150 I' → kr (some (.int (-1))) (mk w 7 0 I' L)) : Ev l X uX6_dryDay (d + 6) true 0 0 [.ref 1, .int x1] (mk w 7 0 I0 L) kr := by
  refine Ev.of (by decide) (Nat.le_of_ble_eq_true rfl) ?_
  refine Wf.gc tkX6_dryDay [] ?_
  conv => whnf
  repeat (first
    | exact h _ (n150_u2 (by decide) n150_0)
    | exact h _ n150_0
    | exact ⟨Or.inl rfl, h _ (n150_u2 (by decide) n150_0)⟩
    | (refine sX6_answer ?_; conv => whnf)
    | (refine k6_isWalker ?_; conv => whnf)
    | (refine sX6_refuse ?_; conv => whnf)
    | (refine ⟨fun _ => ?_, fun z => absurd rfl z⟩; conv => whnf)
    | (refine ⟨fun z => absurd rfl z, fun _ => ?_⟩; conv => whnf)
    | (refine ⟨fun z => absurd z (by decide), fun _ => ?_⟩; conv => whnf)
    | (refine ⟨fun _ => ?_, fun z => absurd z (by decide)⟩; conv => whnf)
    | (refine ⟨fun _ => ?_, fun z => absurd (show (0 : Int32) = 4 from z) (by decide)⟩; conv => whnf))
set_option maxRecDepth 20000 in
theorem f6_gate (h : ∀ I', n150 I' → kr (some (.int (-1))) (mk w 7 0 I' L)) : Ev l X uX6_gate (d + 6) true 0 0 [.ref 1] (mk w 7 0 I0 L) kr := by
  refine Ev.of (by decide) (Nat.le_of_ble_eq_true rfl) ?_
  refine Wf.gc tkX6_gate [] ?_
  conv => whnf
  repeat (first
    | exact h _ (n150_u2 (by decide) n150_0)
    | exact h _ n150_0
    | exact ⟨Or.inl rfl, h _ (n150_u2 (by decide) n150_0)⟩
    | (refine sX6_answer ?_; conv => whnf)
    | (refine k6_hasClose ?_; conv => whnf)
    | (refine sX6_refuse ?_; conv => whnf)
    | (refine ⟨fun _ => ?_, fun z => absurd rfl z⟩; conv => whnf)
    | (refine ⟨fun z => absurd rfl z, fun _ => ?_⟩; conv => whnf)
    | (refine ⟨fun z => absurd z (by decide), fun _ => ?_⟩; conv => whnf)
    | (refine ⟨fun _ => ?_, fun z => absurd z (by decide)⟩; conv => whnf)
    | (refine ⟨fun _ => ?_, fun z => absurd (show (0 : Int32) = 4 from z) (by decide)⟩; conv => whnf))
set_option maxRecDepth 20000 in
theorem f6_fits (h : ∀ I', n150 I' → kr (some (.int (-1))) (mk w 7 0 I' L)) : Ev l X uX6_fits (d + 6) true 0 0 [.ref 1] (mk w 7 0 I0 L) kr := by
  refine Ev.of (by decide) (Nat.le_of_ble_eq_true rfl) ?_
  refine Wf.gc tkX6_fits [] ?_
  conv => whnf
  repeat (first
    | exact h _ (n150_u2 (by decide) n150_0)
    | exact h _ n150_0
    | exact ⟨Or.inl rfl, h _ (n150_u2 (by decide) n150_0)⟩
    | (refine sX6_answer ?_; conv => whnf)
    | (refine k6_hasClose ?_; conv => whnf)
    | (refine sX6_refuse ?_; conv => whnf)
    | (refine ⟨fun _ => ?_, fun z => absurd rfl z⟩; conv => whnf)
    | (refine ⟨fun z => absurd rfl z, fun _ => ?_⟩; conv => whnf)
    | (refine ⟨fun z => absurd z (by decide), fun _ => ?_⟩; conv => whnf)
    | (refine ⟨fun _ => ?_, fun z => absurd z (by decide)⟩; conv => whnf)
    | (refine ⟨fun _ => ?_, fun z => absurd (show (0 : Int32) = 4 from z) (by decide)⟩; conv => whnf))
set_option maxRecDepth 20000 in
theorem f6_fitAt (h : ∀ I', n150 I' → kr (some (.int (-1))) (mk w 7 0 I' L)) : Ev l X uX6_fitAt (d + 6) true 0 0 [.ref 1, .int x1] (mk w 7 0 I0 L) kr := by
  refine Ev.of (by decide) (Nat.le_of_ble_eq_true rfl) ?_
  refine Wf.gc tkX6_fitAt [] ?_
  conv => whnf
  repeat (first
    | exact h _ (n150_u2 (by decide) n150_0)
    | exact h _ n150_0
    | exact ⟨Or.inl rfl, h _ (n150_u2 (by decide) n150_0)⟩
    | (refine sX6_answer ?_; conv => whnf)
    | (refine k6_hasClose ?_; conv => whnf)
    | (refine sX6_refuse ?_; conv => whnf)
    | (refine ⟨fun _ => ?_, fun z => absurd rfl z⟩; conv => whnf)
    | (refine ⟨fun z => absurd rfl z, fun _ => ?_⟩; conv => whnf)
    | (refine ⟨fun z => absurd z (by decide), fun _ => ?_⟩; conv => whnf)
    | (refine ⟨fun _ => ?_, fun z => absurd z (by decide)⟩; conv => whnf)
    | (refine ⟨fun _ => ?_, fun z => absurd (show (0 : Int32) = 4 from z) (by decide)⟩; conv => whnf))
set_option maxRecDepth 20000 in
theorem f6_could (h : ∀ I', n150 I' → kr (some (.int (-1))) (mk w 7 0 I' L)) : Ev l X uX6_could (d + 6) true 0 0 [.ref 1] (mk w 7 0 I0 L) kr := by
  refine Ev.of (by decide) (Nat.le_of_ble_eq_true rfl) ?_
  refine Wf.gc tkX6_could [] ?_
  conv => whnf
  repeat (first
    | exact h _ (n150_u2 (by decide) n150_0)
    | exact h _ n150_0
    | exact ⟨Or.inl rfl, h _ (n150_u2 (by decide) n150_0)⟩
    | (refine sX6_answer ?_; conv => whnf)
    | (refine k6_hasClose ?_; conv => whnf)
    | (refine sX6_refuse ?_; conv => whnf)
    | (refine ⟨fun _ => ?_, fun z => absurd rfl z⟩; conv => whnf)
    | (refine ⟨fun z => absurd rfl z, fun _ => ?_⟩; conv => whnf)
    | (refine ⟨fun z => absurd z (by decide), fun _ => ?_⟩; conv => whnf)
    | (refine ⟨fun _ => ?_, fun z => absurd z (by decide)⟩; conv => whnf)
    | (refine ⟨fun _ => ?_, fun z => absurd (show (0 : Int32) = 4 from z) (by decide)⟩; conv => whnf))
set_option maxRecDepth 20000 in
theorem f6_surely (h : ∀ I', n150 I' → kr (some (.int (-1))) (mk w 7 0 I' L)) : Ev l X uX6_surely (d + 6) true 0 0 [.ref 1] (mk w 7 0 I0 L) kr := by
  refine Ev.of (by decide) (Nat.le_of_ble_eq_true rfl) ?_
  refine Wf.gc tkX6_surely [] ?_
  conv => whnf
  repeat (first
    | exact h _ (n150_u2 (by decide) n150_0)
    | exact h _ n150_0
    | exact ⟨Or.inl rfl, h _ (n150_u2 (by decide) n150_0)⟩
    | (refine sX6_answer ?_; conv => whnf)
    | (refine k6_hasClose ?_; conv => whnf)
    | (refine sX6_refuse ?_; conv => whnf)
    | (refine ⟨fun _ => ?_, fun z => absurd rfl z⟩; conv => whnf)
    | (refine ⟨fun z => absurd rfl z, fun _ => ?_⟩; conv => whnf)
    | (refine ⟨fun z => absurd z (by decide), fun _ => ?_⟩; conv => whnf)
    | (refine ⟨fun _ => ?_, fun z => absurd z (by decide)⟩; conv => whnf)
    | (refine ⟨fun _ => ?_, fun z => absurd (show (0 : Int32) = 4 from z) (by decide)⟩; conv => whnf))
set_option maxRecDepth 20000 in
theorem f6_ask (h : ∀ I', n150 I' → kr (some (.int (-1))) (mk w 7 0 I' L)) : Ev l X uX6_ask (d + 6) true 0 0 [.ref 1] (mk w 7 0 I0 L) kr := by
  refine Ev.of (by decide) (Nat.le_of_ble_eq_true rfl) ?_
  refine Wf.gc tkX6_ask [] ?_
  conv => whnf
  repeat (first
    | exact h _ (n150_u2 (by decide) n150_0)
    | exact h _ n150_0
    | exact ⟨Or.inl rfl, h _ (n150_u2 (by decide) n150_0)⟩
    | (refine sX6_answer ?_; conv => whnf)
    | (refine k6_hasClose ?_; conv => whnf)
    | (refine sX6_refuse ?_; conv => whnf)
    | (refine ⟨fun _ => ?_, fun z => absurd rfl z⟩; conv => whnf)
    | (refine ⟨fun z => absurd rfl z, fun _ => ?_⟩; conv => whnf)
    | (refine ⟨fun z => absurd z (by decide), fun _ => ?_⟩; conv => whnf)
    | (refine ⟨fun _ => ?_, fun z => absurd z (by decide)⟩; conv => whnf)
    | (refine ⟨fun _ => ?_, fun z => absurd (show (0 : Int32) = 4 from z) (by decide)⟩; conv => whnf))
set_option maxRecDepth 20000 in
theorem f6_askLeaves (h : ∀ I', n150 I' → kr (some (.int (-1))) (mk w 7 0 I' L)) : Ev l X uX6_askLeaves (d + 6) true 0 0 [.ref 1] (mk w 7 0 I0 L) kr := by
  refine Ev.of (by decide) (Nat.le_of_ble_eq_true rfl) ?_
  refine Wf.gc tkX6_askLeaves [] ?_
  conv => whnf
  repeat (first
    | exact h _ (n150_u2 (by decide) n150_0)
    | exact h _ n150_0
    | exact ⟨Or.inl rfl, h _ (n150_u2 (by decide) n150_0)⟩
    | (refine sX6_answer ?_; conv => whnf)
    | (refine k6_hasClose ?_; conv => whnf)
    | (refine sX6_refuse ?_; conv => whnf)
    | (refine ⟨fun _ => ?_, fun z => absurd rfl z⟩; conv => whnf)
    | (refine ⟨fun z => absurd rfl z, fun _ => ?_⟩; conv => whnf)
    | (refine ⟨fun z => absurd z (by decide), fun _ => ?_⟩; conv => whnf)
    | (refine ⟨fun _ => ?_, fun z => absurd z (by decide)⟩; conv => whnf)
    | (refine ⟨fun _ => ?_, fun z => absurd (show (0 : Int32) = 4 from z) (by decide)⟩; conv => whnf))
set_option maxRecDepth 20000 in
theorem f6_judge (h : ∀ I', n150 I' → kr (some (.int (-1))) (mk w 7 0 I' L)) : Ev l X uX6_judge (d + 6) true 0 0 [.ref 1] (mk w 7 0 I0 L) kr := by
  refine Ev.of (by decide) (Nat.le_of_ble_eq_true rfl) ?_
  refine Wf.gc tkX6_judge [] ?_
  conv => whnf
  repeat (first
    | exact h _ (n150_u2 (by decide) n150_0)
    | exact h _ n150_0
    | exact ⟨Or.inl rfl, h _ (n150_u2 (by decide) n150_0)⟩
    | (refine sX6_answer ?_; conv => whnf)
    | (refine k6_hasClose ?_; conv => whnf)
    | (refine sX6_refuse ?_; conv => whnf)
    | (refine ⟨fun _ => ?_, fun z => absurd rfl z⟩; conv => whnf)
    | (refine ⟨fun z => absurd rfl z, fun _ => ?_⟩; conv => whnf)
    | (refine ⟨fun z => absurd z (by decide), fun _ => ?_⟩; conv => whnf)
    | (refine ⟨fun _ => ?_, fun z => absurd z (by decide)⟩; conv => whnf)
    | (refine ⟨fun _ => ?_, fun z => absurd (show (0 : Int32) = 4 from z) (by decide)⟩; conv => whnf))
set_option maxRecDepth 20000 in
theorem f6_sulks (h : ∀ I', n150 I' → kr (some (.int (-100))) (mk w 7 0 I' L)) : Ev l X uX6_sulks (d + 6) true 0 0 [.ref 1, .int x1, .int x2, .int x3, .int x4] (mk w 7 0 I0 L) kr := by
  refine Ev.of (by decide) (Nat.le_of_ble_eq_true rfl) ?_
  refine Wf.gc tkX6_sulks [] ?_
  conv => whnf
  repeat (first
    | exact h _ (n150_u2 (by decide) n150_0)
    | exact h _ n150_0
    | exact ⟨Or.inl rfl, h _ (n150_u2 (by decide) n150_0)⟩
    | (refine sX6_answer ?_; conv => whnf)
    | (refine k6_canGame ?_; conv => whnf)
    | (refine ⟨fun _ => ?_, fun z => absurd rfl z⟩; conv => whnf)
    | (refine ⟨fun z => absurd rfl z, fun _ => ?_⟩; conv => whnf)
    | (refine ⟨fun z => absurd z (by decide), fun _ => ?_⟩; conv => whnf)
    | (refine ⟨fun _ => ?_, fun z => absurd z (by decide)⟩; conv => whnf)
    | (refine ⟨fun _ => ?_, fun z => absurd (show (0 : Int32) = 4 from z) (by decide)⟩; conv => whnf))
set_option maxRecDepth 20000 in
theorem f6_rests (h : ∀ I', n150 I' → kr (some (.int (-1))) (mk w 7 0 I' L)) : Ev l X uX6_rests (d + 6) true 0 0 [.ref 1, .int x1] (mk w 7 0 I0 L) kr := by
  refine Ev.of (by decide) (Nat.le_of_ble_eq_true rfl) ?_
  refine Wf.gc tkX6_rests [] ?_
  conv => whnf
  repeat (first
    | exact h _ (n150_u2 (by decide) n150_0)
    | exact h _ n150_0
    | exact ⟨Or.inl rfl, h _ (n150_u2 (by decide) n150_0)⟩
    | (refine sX6_answer ?_; conv => whnf)
    | (refine k6_canGame ?_; conv => whnf)
    | (refine ⟨fun _ => ?_, fun z => absurd rfl z⟩; conv => whnf)
    | (refine ⟨fun z => absurd rfl z, fun _ => ?_⟩; conv => whnf)
    | (refine ⟨fun z => absurd z (by decide), fun _ => ?_⟩; conv => whnf)
    | (refine ⟨fun _ => ?_, fun z => absurd z (by decide)⟩; conv => whnf)
    | (refine ⟨fun _ => ?_, fun z => absurd (show (0 : Int32) = 4 from z) (by decide)⟩; conv => whnf))
set_option maxRecDepth 20000 in
theorem f6_rest (h : ∀ I', n150 I' → kr (some (.int (-1))) (mk w 7 0 I' L)) : Ev l X uX6_rest (d + 6) true 0 0 [.ref 1, .int x1] (mk w 7 0 I0 L) kr := by
  refine Ev.of (by decide) (Nat.le_of_ble_eq_true rfl) ?_
  refine Wf.gc tkX6_rest [] ?_
  conv => whnf
  repeat (first
    | exact h _ (n150_u2 (by decide) n150_0)
    | exact h _ n150_0
    | exact ⟨Or.inl rfl, h _ (n150_u2 (by decide) n150_0)⟩
    | (refine sX6_answer ?_; conv => whnf)
    | (refine k6_canGame ?_; conv => whnf)
    | (refine ⟨fun _ => ?_, fun z => absurd rfl z⟩; conv => whnf)
    | (refine ⟨fun z => absurd rfl z, fun _ => ?_⟩; conv => whnf)
    | (refine ⟨fun z => absurd z (by decide), fun _ => ?_⟩; conv => whnf)
    | (refine ⟨fun _ => ?_, fun z => absurd z (by decide)⟩; conv => whnf)
    | (refine ⟨fun _ => ?_, fun z => absurd (show (0 : Int32) = 4 from z) (by decide)⟩; conv => whnf))
set_option maxRecDepth 20000 in
theorem f6_odds (h : ∀ I', n150 I' → kr (some (.long (-1))) (mk w 7 0 I' L)) : Ev l X uX6_odds (d + 6) true 0 0 [.ref 1, .int x1, .int x2, .int x3] (mk w 7 0 I0 L) kr := by
  refine Ev.of (by decide) (Nat.le_of_ble_eq_true rfl) ?_
  refine Wf.gc tkX6_odds [] ?_
  conv => whnf
  repeat (first
    | exact h _ (n150_u2 (by decide) n150_0)
    | exact h _ n150_0
    | exact ⟨Or.inl rfl, h _ (n150_u2 (by decide) n150_0)⟩
    | (refine k6_canChance ?_; conv => whnf)
    | (refine ⟨fun _ => ?_, fun z => absurd rfl z⟩; conv => whnf)
    | (refine ⟨fun z => absurd rfl z, fun _ => ?_⟩; conv => whnf)
    | (refine ⟨fun z => absurd z (by decide), fun _ => ?_⟩; conv => whnf)
    | (refine ⟨fun _ => ?_, fun z => absurd z (by decide)⟩; conv => whnf)
    | (refine ⟨fun _ => ?_, fun z => absurd (show (0 : Int32) = 4 from z) (by decide)⟩; conv => whnf))
set_option maxRecDepth 20000 in
theorem f6_mean (h : ∀ I', n150 I' → kr (some (.long (-1))) (mk w 7 0 I' L)) : Ev l X uX6_mean (d + 6) true 0 0 [.ref 1, .int x1, .int x2, .int x3] (mk w 7 0 I0 L) kr := by
  refine Ev.of (by decide) (Nat.le_of_ble_eq_true rfl) ?_
  refine Wf.gc tkX6_mean [] ?_
  conv => whnf
  repeat (first
    | exact h _ (n150_u2 (by decide) n150_0)
    | exact h _ n150_0
    | exact ⟨Or.inl rfl, h _ (n150_u2 (by decide) n150_0)⟩
    | (refine k6_canChance ?_; conv => whnf)
    | (refine ⟨fun _ => ?_, fun z => absurd rfl z⟩; conv => whnf)
    | (refine ⟨fun z => absurd rfl z, fun _ => ?_⟩; conv => whnf)
    | (refine ⟨fun z => absurd z (by decide), fun _ => ?_⟩; conv => whnf)
    | (refine ⟨fun _ => ?_, fun z => absurd z (by decide)⟩; conv => whnf)
    | (refine ⟨fun _ => ?_, fun z => absurd (show (0 : Int32) = 4 from z) (by decide)⟩; conv => whnf))
set_option maxRecDepth 20000 in
theorem f6_borne (h : ∀ I', n150 I' → kr (some (.int (-1))) (mk w 7 0 I' L)) : Ev l X uX6_borne (d + 6) true 0 0 [.ref 1, .int x1, .int x2, .int x3] (mk w 7 0 I0 L) kr := by
  refine Ev.of (by decide) (Nat.le_of_ble_eq_true rfl) ?_
  refine Wf.gc tkX6_borne [] ?_
  conv => whnf
  repeat (first
    | exact h _ (n150_u2 (by decide) n150_0)
    | exact h _ n150_0
    | exact ⟨Or.inl rfl, h _ (n150_u2 (by decide) n150_0)⟩
    | (refine sX6_answer ?_; conv => whnf)
    | (refine k6_isFace ?_; conv => whnf)
    | (refine sX6_refuse ?_; conv => whnf)
    | (refine ⟨fun _ => ?_, fun z => absurd rfl z⟩; conv => whnf)
    | (refine ⟨fun z => absurd rfl z, fun _ => ?_⟩; conv => whnf)
    | (refine ⟨fun z => absurd z (by decide), fun _ => ?_⟩; conv => whnf)
    | (refine ⟨fun _ => ?_, fun z => absurd z (by decide)⟩; conv => whnf)
    | (refine ⟨fun _ => ?_, fun z => absurd (show (0 : Int32) = 4 from z) (by decide)⟩; conv => whnf))
set_option maxRecDepth 20000 in
theorem f6_firstWet (h : ∀ I', n150 I' → kr (some (.int (-1))) (mk w 7 0 I' L)) : Ev l X uX6_firstWet (d + 6) true 0 0 [.ref 1, .int x1, .int x2] (mk w 7 0 I0 L) kr := by
  refine Ev.of (by decide) (Nat.le_of_ble_eq_true rfl) ?_
  refine Wf.gc tkX6_firstWet [] ?_
  conv => whnf
  repeat (first
    | exact h _ (n150_u2 (by decide) n150_0)
    | exact h _ n150_0
    | exact ⟨Or.inl rfl, h _ (n150_u2 (by decide) n150_0)⟩
    | (refine sX6_answer ?_; conv => whnf)
    | (refine k6_hasClose ?_; conv => whnf)
    | (refine sX6_refuse ?_; conv => whnf)
    | (refine ⟨fun _ => ?_, fun z => absurd rfl z⟩; conv => whnf)
    | (refine ⟨fun z => absurd rfl z, fun _ => ?_⟩; conv => whnf)
    | (refine ⟨fun z => absurd z (by decide), fun _ => ?_⟩; conv => whnf)
    | (refine ⟨fun _ => ?_, fun z => absurd z (by decide)⟩; conv => whnf)
    | (refine ⟨fun _ => ?_, fun z => absurd (show (0 : Int32) = 4 from z) (by decide)⟩; conv => whnf))
set_option maxRecDepth 20000 in
theorem f6_day (h : ∀ I', n150 I' → kr (some (.int (-1))) (mk w 7 0 I' L)) : Ev l X uX6_day (d + 6) true 0 0 [.ref 1] (mk w 7 0 I0 L) kr := by
  refine Ev.of (by decide) (Nat.le_of_ble_eq_true rfl) ?_
  refine Wf.gc tkX6_day [] ?_
  conv => whnf
  repeat (first
    | exact h _ (n150_u2 (by decide) n150_0)
    | exact h _ n150_0
    | exact ⟨Or.inl rfl, h _ (n150_u2 (by decide) n150_0)⟩
    | (refine sX6_answer ?_; conv => whnf)
    | (refine k6_hasClose ?_; conv => whnf)
    | (refine sX6_refuse ?_; conv => whnf)
    | (refine ⟨fun _ => ?_, fun z => absurd rfl z⟩; conv => whnf)
    | (refine ⟨fun z => absurd rfl z, fun _ => ?_⟩; conv => whnf)
    | (refine ⟨fun z => absurd z (by decide), fun _ => ?_⟩; conv => whnf)
    | (refine ⟨fun _ => ?_, fun z => absurd z (by decide)⟩; conv => whnf)
    | (refine ⟨fun _ => ?_, fun z => absurd (show (0 : Int32) = 4 from z) (by decide)⟩; conv => whnf))
set_option maxRecDepth 20000 in
theorem f6_give (h : ∀ I', n150 I' → kr (some (.int (-1))) (mk w 7 0 I' L)) : Ev l X uX6_give (d + 6) true 0 0 [.ref 1, .int x1, .int x2] (mk w 7 0 I0 L) kr := by
  refine Ev.of (by decide) (Nat.le_of_ble_eq_true rfl) ?_
  refine Wf.gc tkX6_give [] ?_
  conv => whnf
  repeat (first
    | exact h _ (n150_u2 (by decide) n150_0)
    | exact h _ n150_0
    | exact ⟨Or.inl rfl, h _ (n150_u2 (by decide) n150_0)⟩
    | (refine sX6_answer ?_; conv => whnf)
    | (refine k6_isCanon ?_; conv => whnf)
    | (refine k6_isFace ?_; conv => whnf)
    | (refine sX6_refuse ?_; conv => whnf)
    | (refine ⟨fun _ => ?_, fun z => absurd rfl z⟩; conv => whnf)
    | (refine ⟨fun z => absurd rfl z, fun _ => ?_⟩; conv => whnf)
    | (refine ⟨fun z => absurd z (by decide), fun _ => ?_⟩; conv => whnf)
    | (refine ⟨fun _ => ?_, fun z => absurd z (by decide)⟩; conv => whnf)
    | (refine ⟨fun _ => ?_, fun z => absurd (show (0 : Int32) = 4 from z) (by decide)⟩; conv => whnf))
set_option maxRecDepth 20000 in
theorem f6_mend (h : ∀ I', n150 I' → kr (some (.int 0)) (mk w 7 0 I' L)) : Ev l X uX6_mend (d + 6) true 0 0 [.ref 1, .int x1] (mk w 7 0 I0 L) kr := by
  refine Ev.of (by decide) (Nat.le_of_ble_eq_true rfl) ?_
  refine Wf.gc tkX6_mend [] ?_
  conv => whnf
  repeat (first
    | exact h _ (n150_u2 (by decide) n150_0)
    | exact h _ n150_0
    | exact ⟨Or.inl rfl, h _ (n150_u2 (by decide) n150_0)⟩
    | (refine sX6_answer ?_; conv => whnf)
    | (refine k6_isFace ?_; conv => whnf)
    | (refine sX6_refuse ?_; conv => whnf)
    | (refine ⟨fun _ => ?_, fun z => absurd rfl z⟩; conv => whnf)
    | (refine ⟨fun z => absurd rfl z, fun _ => ?_⟩; conv => whnf)
    | (refine ⟨fun z => absurd z (by decide), fun _ => ?_⟩; conv => whnf)
    | (refine ⟨fun _ => ?_, fun z => absurd z (by decide)⟩; conv => whnf)
    | (refine ⟨fun _ => ?_, fun z => absurd (show (0 : Int32) = 4 from z) (by decide)⟩; conv => whnf))
set_option maxRecDepth 20000 in
theorem f6_vex (h : ∀ I', n150 I' → kr (some (.int (-1))) (mk w 7 0 I' L)) : Ev l X uX6_vex (d + 6) true 0 0 [.ref 1, .int x1, .int x2] (mk w 7 0 I0 L) kr := by
  refine Ev.of (by decide) (Nat.le_of_ble_eq_true rfl) ?_
  refine Wf.gc tkX6_vex [] ?_
  conv => whnf
  repeat (first
    | exact h _ (n150_u2 (by decide) n150_0)
    | exact h _ n150_0
    | exact ⟨Or.inl rfl, h _ (n150_u2 (by decide) n150_0)⟩
    | (refine sX6_answer ?_; conv => whnf)
    | (refine k6_isFace ?_; conv => whnf)
    | (refine sX6_refuse ?_; conv => whnf)
    | (refine ⟨fun _ => ?_, fun z => absurd rfl z⟩; conv => whnf)
    | (refine ⟨fun z => absurd rfl z, fun _ => ?_⟩; conv => whnf)
    | (refine ⟨fun z => absurd z (by decide), fun _ => ?_⟩; conv => whnf)
    | (refine ⟨fun _ => ?_, fun z => absurd z (by decide)⟩; conv => whnf)
    | (refine ⟨fun _ => ?_, fun z => absurd (show (0 : Int32) = 4 from z) (by decide)⟩; conv => whnf))
set_option maxRecDepth 20000 in
theorem f6_undo (h : ∀ I', n150 I' → kr (some (.int 0)) (mk w 7 0 I' L)) : Ev l X uX6_undo (d + 6) true 0 0 [.ref 1] (mk w 7 0 I0 L) kr := by
  refine Ev.of (by decide) (Nat.le_of_ble_eq_true rfl) ?_
  refine Wf.gc tkX6_undo [] ?_
  conv => whnf
  repeat (first
    | exact h _ (n150_u2 (by decide) n150_0)
    | exact h _ n150_0
    | exact ⟨Or.inl rfl, h _ (n150_u2 (by decide) n150_0)⟩
    | (refine sX6_answer ?_; conv => whnf)
    | (refine sX6_refuse ?_; conv => whnf)
    | (refine ⟨fun _ => ?_, fun z => absurd rfl z⟩; conv => whnf)
    | (refine ⟨fun z => absurd rfl z, fun _ => ?_⟩; conv => whnf)
    | (refine ⟨fun z => absurd z (by decide), fun _ => ?_⟩; conv => whnf)
    | (refine ⟨fun _ => ?_, fun z => absurd z (by decide)⟩; conv => whnf)
    | (refine ⟨fun _ => ?_, fun z => absurd (show (0 : Int32) = 4 from z) (by decide)⟩; conv => whnf))
set_option maxRecDepth 20000 in
theorem f6_image (h : ∀ I', n150 I' → kr (some (.int (-1))) (mk w 7 0 I' L)) : Ev l X uX6_image (d + 6) true 0 0 [.ref 1] (mk w 7 0 I0 L) kr := by
  refine Ev.of (by decide) (Nat.le_of_ble_eq_true rfl) ?_
  refine Wf.gc tkX6_image [] ?_
  conv => whnf
  repeat (first
    | exact h _ (n150_u2 (by decide) n150_0)
    | exact h _ n150_0
    | exact ⟨Or.inl rfl, h _ (n150_u2 (by decide) n150_0)⟩
    | (refine sX6_answer ?_; conv => whnf)
    | (refine k6_hasClose ?_; conv => whnf)
    | (refine sX6_refuse ?_; conv => whnf)
    | (refine ⟨fun _ => ?_, fun z => absurd rfl z⟩; conv => whnf)
    | (refine ⟨fun z => absurd rfl z, fun _ => ?_⟩; conv => whnf)
    | (refine ⟨fun z => absurd z (by decide), fun _ => ?_⟩; conv => whnf)
    | (refine ⟨fun _ => ?_, fun z => absurd z (by decide)⟩; conv => whnf)
    | (refine ⟨fun _ => ?_, fun z => absurd (show (0 : Int32) = 4 from z) (by decide)⟩; conv => whnf))
theorem f6_back (h : ∀ I', n150 I' → kr (some (.int 0)) (mk w 7 0 I' L)) : Ev l X uX6_back (d + 6) true 0 0 [.ref 1, .int x1] (mk w 7 0 I0 L) kr := by
  refine Ev.of (by decide) (Nat.le_of_ble_eq_true rfl) ?_
  refine Wf.gc tkX6_back [] ?_
  conv => whnf
  refine ⟨fun c1 => ?_, fun c1 => ?_⟩
  · conv => whnf
    refine sX6_refuse ?_
    conv => whnf
    exact ⟨Or.inl rfl, h _ (n150_u2 (by decide) n150_0)⟩
  · conv => whnf
    refine ⟨fun c2 => absurd (show x1 < 0 from c2) c1, fun c2 => ?_⟩
    conv => whnf
    refine sX6_refuse ?_
    conv => whnf
    exact ⟨Or.inl rfl, h _ (n150_u2 (by decide) n150_0)⟩
set_option maxRecDepth 20000 in
theorem f6_trouble (h : ∀ I', n150 I' → kr (some (.int 0)) (mk w 7 0 I' L)) : Ev l X uX6_trouble (d + 6) true 0 0 [.ref 1] (mk w 7 0 I0 L) kr := by
  refine Ev.of (by decide) (Nat.le_of_ble_eq_true rfl) ?_
  refine Wf.gc tkX6_trouble [] ?_
  conv => whnf
  repeat (first
    | exact h _ (n150_u2 (by decide) n150_0)
    | exact h _ n150_0
    | exact ⟨Or.inl rfl, h _ (n150_u2 (by decide) n150_0)⟩
    | (refine ⟨fun _ => ?_, fun z => absurd rfl z⟩; conv => whnf)
    | (refine ⟨fun z => absurd rfl z, fun _ => ?_⟩; conv => whnf)
    | (refine ⟨fun z => absurd z (by decide), fun _ => ?_⟩; conv => whnf)
    | (refine ⟨fun _ => ?_, fun z => absurd z (by decide)⟩; conv => whnf)
    | (refine ⟨fun _ => ?_, fun z => absurd (show (0 : Int32) = 4 from z) (by decide)⟩; conv => whnf))
end F6
