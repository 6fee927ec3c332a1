section F7
variable {l : Launch} {X : Nat × (Nat → Int32)} {d : Nat} {w : Nat × Nat} {r : Nat} {I J : Nat → Nat → Int32} {L : Nat → Nat → Int64} {kr : KR} {x1 x2 x3 x4 x5 : Int32} {M : Mm}
/-- the reference's numbers, fresh -/
def jn (I : Nat → Nat → Int32) : Nat → Nat → Int32 := fun a i => if a = 150 then (if i = 10 then -1 else 0) else I a i
theorem jn_of (h : n150 I) : I = jn I := by
  funext a i
  unfold jn
  by_cases ha : a = 150
  · subst ha
    rw [if_pos rfl, h 150 (Nat.le_refl _)]
    unfold I0
    by_cases hi : i = 10
    · rw [if_pos ⟨rfl, hi⟩, if_pos hi]
    · rw [if_neg (fun z => hi z.2), if_neg hi]
  · rw [if_neg ha]
theorem k7_good (h : kr none (mk w 7 r (u2 (u2 J 150 0 0) 150 11 0) L)) : Ev l X uX7_good d true 0 0 [.ref 150] (mk w 7 r J L) kr := by
  refine Ev.of (by decide) (Nat.le_of_ble_eq_true rfl) ?_
  refine Wf.gc tkX7_good [] ?_
  conv => whnf
  exact h
theorem k7_no (h : kr (some (.int (-1))) (mk w 7 r (u2 J 150 11 x1) L)) : Ev l X uX7_no d true 0 0 [.ref 150, .int x1] (mk w 7 r J L) kr := by
  refine Ev.of (by decide) (Nat.le_of_ble_eq_true rfl) ?_
  refine Wf.gc tkX7_no [] ?_
  conv => whnf
  exact h
theorem k7_isNot (h : kr (some (.int 0)) (mk w 7 r (u2 J 150 11 x1) L)) : Ev l X uX7_isNot d true 0 0 [.ref 150, .int x1] (mk w 7 r J L) kr := by
  refine Ev.of (by decide) (Nat.le_of_ble_eq_true rfl) ?_
  refine Wf.gc tkX7_isNot [] ?_
  conv => whnf
  exact ⟨Or.inl rfl, h⟩
theorem k7_inb (h1 : x2 ≤ x1 → x1 ≤ x3 → kr (some (.int 1)) M) (h0 : ¬ (x2 ≤ x1 ∧ x1 ≤ x3) → kr (some (.int 0)) M) : Ev l X uX7_in d true 0 0 [.int x1, .int x2, .int x3] M kr := by
  refine Ev.of (by decide) (Nat.le_of_ble_eq_true rfl) ?_
  refine Wf.gc tkX7_in [] ?_
  conv => whnf
  refine ⟨fun c1 => ?_, fun c1 => ?_⟩
  · conv => whnf
    exact ⟨Or.inl rfl, h0 (fun z => absurd z.1 (Int32.not_le.mpr c1))⟩
  · conv => whnf
    refine ⟨fun c2 => ?_, fun c2 => ?_⟩
    · conv => whnf
      exact ⟨Or.inl rfl, h0 (fun z => absurd z.2 (Int32.not_le.mpr c2))⟩
    · conv => whnf
      exact ⟨Or.inr rfl, h1 (Int32.not_lt.mp c1) (Int32.not_lt.mp c2)⟩
theorem k7_in (h : ∀ v : Int32, (v = 0 ∨ v = 1) → kr (some (.int v)) M) : Ev l X uX7_in d true 0 0 [.int x1, .int x2, .int x3] M kr := k7_inb (fun _ _ => h 1 (Or.inr rfl)) (fun _ => h 0 (Or.inl rfl))
theorem k7_why (h : kr (some (.int 1)) (mk w 7 r J L)) : Ev l X uX7_why d true 0 0 [.ref 150, .int 0, .int x1] (mk w 7 r J L) kr := by
  refine Ev.of (by decide) (Nat.le_of_ble_eq_true rfl) ?_
  refine Wf.gc tkX7_why [] ?_
  conv => whnf
  refine ⟨fun z => absurd rfl z, fun _ => ?_⟩
  conv => whnf
  exact h
theorem k7_isFace (h0 : J 150 14 = 0) (h : kr (some (.int 0)) (mk w 7 r J L)) : Ev l X uX7_isFace (d + 1) true 0 0 [.ref 150, .int x1] (mk w 7 r J L) kr := by
  refine Ev.of (by decide) (Nat.le_of_ble_eq_true rfl) ?_
  refine Wf.gc tkX7_isFace [] ?_
  conv => whnf
  refine ⟨fun _ => ?_, fun z => absurd h0 z⟩
  conv => whnf
  exact ⟨Or.inl rfl, h⟩
theorem k7_isCanon (h0 : J 150 14 = 0) (h : kr (some (.int 0)) (mk w 7 r J L)) : Ev l X uX7_isCanon (d + 1) true 0 0 [.ref 150, .int x1] (mk w 7 r J L) kr := by
  refine Ev.of (by decide) (Nat.le_of_ble_eq_true rfl) ?_
  refine Wf.gc tkX7_isCanon [] ?_
  conv => whnf
  refine ⟨fun _ => ?_, fun z => absurd h0 z⟩
  conv => whnf
  exact ⟨Or.inl rfl, h⟩
theorem k7_isCell (h0 : J 150 14 = 0) (h : kr (some (.int 0)) (mk w 7 r J L)) : Ev l X uX7_isCell (d + 2) true 0 0 [.ref 150, .int x1] (mk w 7 r J L) kr := by
  refine Ev.of (by decide) (Nat.le_of_ble_eq_true rfl) ?_
  refine Wf.gc tkX7_isCell [] ?_
  conv => whnf
  refine ⟨fun _ => ?_, fun z => absurd h0 z⟩
  conv => whnf
  exact ⟨Or.inl rfl, h⟩
theorem k7_isWalker (h0 : J 150 14 = 0) (h : kr (some (.int 0)) (mk w 7 r J L)) : Ev l X uX7_isWalker (d + 1) true 0 0 [.ref 150, .int x1] (mk w 7 r J L) kr := by
  refine Ev.of (by decide) (Nat.le_of_ble_eq_true rfl) ?_
  refine Wf.gc tkX7_isWalker [] ?_
  conv => whnf
  refine ⟨fun _ => ?_, fun z => absurd h0 z⟩
  conv => whnf
  exact ⟨Or.inl rfl, h⟩
theorem k7_aheadWhy (h : kr (some (.int 1)) (mk w 7 r J L)) : Ev l X uX7_aheadWhy (d + 1) true 0 0 [.ref 150, .int 0, .int x2, .int x3] (mk w 7 r J L) kr := by
  refine Ev.of (by decide) (Nat.le_of_ble_eq_true rfl) ?_
  refine Wf.gc tkX7_aheadWhy [] ?_
  conv => whnf
  refine k7_in (fun v hv => ?_)
  conv => whnf
  refine k7_why ?_
  conv => whnf
  exact h
theorem k7_planWhy (h : kr (some (.int 1)) (mk w 7 r J L)) : Ev l X uX7_planWhy (d + 1) true 0 0 [.ref 150, .int 0, .int x2] (mk w 7 r J L) kr := by
  refine Ev.of (by decide) (Nat.le_of_ble_eq_true rfl) ?_
  refine Wf.gc tkX7_planWhy [] ?_
  conv => whnf
  refine k7_in (fun v hv => ?_)
  conv => whnf
  refine k7_why ?_
  conv => whnf
  exact h
set_option maxRecDepth 20000 in
theorem k7_drawWhy (h : kr (some (.int 1)) (mk w 7 r J L)) : Ev l X uX7_drawWhy (d + 1) true 0 0 [.ref 150, .int 0, .int x2, .int x3] (mk w 7 r J L) kr := by
  have key : ∀ v : Int32, Wf l X uX7_drawWhy (d + 1) true (mC (mk w 7 r J L) + 0, mS (mk w 7 r J L) + 0) 28 [(0, .ref 150), (1, .int 0), (2, .int x2), (3, .int x3)] [.int v, .int 0, .ref 150] (mk w 7 r J L) kr := by
    intro v
    refine Wf.gc tkX7_drawWhy [] ?_
    conv => whnf
    refine k7_why ?_
    conv => whnf
    refine ⟨fun z => absurd z (by decide), fun _ => ?_⟩
    conv => whnf
    exact h
  refine Ev.of (by decide) (Nat.le_of_ble_eq_true rfl) ?_
  refine Wf.gc tkX7_drawWhy [28] ?_
  conv => whnf
  refine k7_in (fun v hv => ?_)
  conv => whnf
  refine ⟨fun _ => ?_, fun _ => ?_⟩
  · conv => whnf
    exact key 0
  · conv => whnf
    refine k7_in (fun v2 hv2 => ?_)
    conv => whnf
    refine ⟨fun _ => ?_, fun _ => ?_⟩
    · conv => whnf
      exact key 0
    · conv => whnf
      exact key 1
set_option maxRecDepth 20000 in
theorem f7_fault (hI : n150 I) (h : ∀ M', kr (some (.int 0)) M') : Ev l X uX7_fault (d + 6) true 0 0 [.ref 150] (mk w 7 r I L) kr := by
  rw [jn_of hI]
  refine Ev.of (by decide) (Nat.le_of_ble_eq_true rfl) ?_
  refine Wf.gc tkX7_fault [] ?_
  conv => whnf
  repeat (first
    | exact h _
    | exact ⟨Or.inl rfl, h _⟩
    | (refine ⟨fun _ => ?_, fun z => absurd rfl z⟩; conv => whnf)
    | (refine ⟨fun z => absurd rfl z, fun _ => ?_⟩; conv => whnf)
    | (refine ⟨fun z => absurd z (by decide), fun _ => ?_⟩; conv => whnf)
    | (refine ⟨fun _ => ?_, fun z => absurd z (by decide)⟩; conv => whnf)
    | (refine ⟨fun _ => ?_, fun z => absurd (show (0 : Int32) = 4 from z) (by decide)⟩; conv => whnf))
set_option maxRecDepth 20000 in
theorem f7_where (hI : n150 I) (h : ∀ M', kr (some (.int (-1))) M') : Ev l X uX7_where (d + 6) true 0 0 [.ref 150] (mk w 7 r I L) kr := by
  rw [jn_of hI]
  refine Ev.of (by decide) (Nat.le_of_ble_eq_true rfl) ?_
  refine Wf.gc tkX7_where [] ?_
  conv => whnf
  repeat (first
    | exact h _
    | exact ⟨Or.inl rfl, h _⟩
    | (refine ⟨fun _ => ?_, fun z => absurd rfl z⟩; conv => whnf)
    | (refine ⟨fun z => absurd rfl z, fun _ => ?_⟩; conv => whnf)
    | (refine ⟨fun z => absurd z (by decide), fun _ => ?_⟩; conv => whnf)
    | (refine ⟨fun _ => ?_, fun z => absurd z (by decide)⟩; conv => whnf)
    | (refine ⟨fun _ => ?_, fun z => absurd (show (0 : Int32) = 4 from z) (by decide)⟩; conv => whnf))
set_option maxRecDepth 20000 in
theorem f7_face (hI : n150 I) (h : ∀ M', kr (some (.int (-1))) M') : Ev l X uX7_face (d + 6) true 0 0 [.ref 150, .int x1, .int x2] (mk w 7 r I L) kr := by
  rw [jn_of hI]
  refine Ev.of (by decide) (Nat.le_of_ble_eq_true rfl) ?_
  refine Wf.gc tkX7_face [] ?_
  conv => whnf
  repeat (first
    | exact h _
    | exact ⟨Or.inl rfl, h _⟩
    | (refine k7_good ?_; conv => whnf)
    | (refine k7_in (fun v hv => ?_); conv => whnf)
    | (refine k7_isFace rfl ?_; conv => whnf)
    | (refine k7_no ?_; conv => whnf)
    | (refine ⟨fun _ => ?_, fun z => absurd rfl z⟩; conv => whnf)
    | (refine ⟨fun z => absurd rfl z, fun _ => ?_⟩; conv => whnf)
    | (refine ⟨fun z => absurd z (by decide), fun _ => ?_⟩; conv => whnf)
    | (refine ⟨fun _ => ?_, fun z => absurd z (by decide)⟩; conv => whnf)
    | (refine ⟨fun _ => ?_, fun z => absurd (show (0 : Int32) = 4 from z) (by decide)⟩; conv => whnf))
set_option maxRecDepth 20000 in
theorem f7_canon (hI : n150 I) (h : ∀ M', kr (some (.int (-1))) M') : Ev l X uX7_canon (d + 6) true 0 0 [.ref 150, .int x1, .int x2] (mk w 7 r I L) kr := by
  rw [jn_of hI]
  refine Ev.of (by decide) (Nat.le_of_ble_eq_true rfl) ?_
  refine Wf.gc tkX7_canon [] ?_
  conv => whnf
  repeat (first
    | exact h _
    | exact ⟨Or.inl rfl, h _⟩
    | (refine k7_good ?_; conv => whnf)
    | (refine k7_in (fun v hv => ?_); conv => whnf)
    | (refine k7_isCanon rfl ?_; conv => whnf)
    | (refine k7_no ?_; conv => whnf)
    | (refine ⟨fun _ => ?_, fun z => absurd rfl z⟩; conv => whnf)
    | (refine ⟨fun z => absurd rfl z, fun _ => ?_⟩; conv => whnf)
    | (refine ⟨fun z => absurd z (by decide), fun _ => ?_⟩; conv => whnf)
    | (refine ⟨fun _ => ?_, fun z => absurd z (by decide)⟩; conv => whnf)
    | (refine ⟨fun _ => ?_, fun z => absurd (show (0 : Int32) = 4 from z) (by decide)⟩; conv => whnf))
set_option maxRecDepth 20000 in
theorem f7_cell (hI : n150 I) (h : ∀ M', kr (some (.int (-1))) M') : Ev l X uX7_cell (d + 6) true 0 0 [.ref 150, .int x1, .int x2] (mk w 7 r I L) kr := by
  rw [jn_of hI]
  refine Ev.of (by decide) (Nat.le_of_ble_eq_true rfl) ?_
  refine Wf.gc tkX7_cell [] ?_
  conv => whnf
  repeat (first
    | exact h _
    | exact ⟨Or.inl rfl, h _⟩
    | (refine k7_good ?_; conv => whnf)
    | (refine k7_in (fun v hv => ?_); conv => whnf)
    | (refine k7_isCell rfl ?_; conv => whnf)
    | (refine k7_no ?_; conv => whnf)
    | (refine ⟨fun _ => ?_, fun z => absurd rfl z⟩; conv => whnf)
    | (refine ⟨fun z => absurd rfl z, fun _ => ?_⟩; conv => whnf)
    | (refine ⟨fun z => absurd z (by decide), fun _ => ?_⟩; conv => whnf)
    | (refine ⟨fun _ => ?_, fun z => absurd z (by decide)⟩; conv => whnf)
    | (refine ⟨fun _ => ?_, fun z => absurd (show (0 : Int32) = 4 from z) (by decide)⟩; conv => whnf))
set_option maxRecDepth 20000 in
theorem f7_burden (hI : n150 I) (h : ∀ M', kr (some (.int (-1))) M') : Ev l X uX7_burden (d + 6) true 0 0 [.ref 150] (mk w 7 r I L) kr := by
  rw [jn_of hI]
  refine Ev.of (by decide) (Nat.le_of_ble_eq_true rfl) ?_
  refine Wf.gc tkX7_burden [] ?_
  conv => whnf
  repeat (first
    | exact h _
    | exact ⟨Or.inl rfl, h _⟩
    | (refine k7_good ?_; conv => whnf)
    | (refine k7_no ?_; conv => whnf)
    | (refine ⟨fun _ => ?_, fun z => absurd rfl z⟩; conv => whnf)
    | (refine ⟨fun z => absurd rfl z, fun _ => ?_⟩; conv => whnf)
    | (refine ⟨fun z => absurd z (by decide), fun _ => ?_⟩; conv => whnf)
    | (refine ⟨fun _ => ?_, fun z => absurd z (by decide)⟩; conv => whnf)
    | (refine ⟨fun _ => ?_, fun z => absurd (show (0 : Int32) = 4 from z) (by decide)⟩; conv => whnf))
set_option maxRecDepth 20000 in
theorem f7_bears (hI : n150 I) (h : ∀ M', kr (some (.int (-1))) M') : Ev l X uX7_bears (d + 6) true 0 0 [.ref 150, .int x1, .int x2] (mk w 7 r I L) kr := by
  rw [jn_of hI]
  refine Ev.of (by decide) (Nat.le_of_ble_eq_true rfl) ?_
  refine Wf.gc tkX7_bears [] ?_
  conv => whnf
  repeat (first
    | exact h _
    | exact ⟨Or.inl rfl, h _⟩
    | (refine k7_aheadWhy ?_; conv => whnf)
    | (refine k7_good ?_; conv => whnf)
    | (refine k7_isFace rfl ?_; conv => whnf)
    | (refine k7_no ?_; conv => whnf)
    | (refine ⟨fun _ => ?_, fun z => absurd rfl z⟩; conv => whnf)
    | (refine ⟨fun z => absurd rfl z, fun _ => ?_⟩; conv => whnf)
    | (refine ⟨fun z => absurd z (by decide), fun _ => ?_⟩; conv => whnf)
    | (refine ⟨fun _ => ?_, fun z => absurd z (by decide)⟩; conv => whnf)
    | (refine ⟨fun _ => ?_, fun z => absurd (show (0 : Int32) = 4 from z) (by decide)⟩; conv => whnf))
set_option maxRecDepth 20000 in
theorem f7_holds (hI : n150 I) (h : ∀ M', kr (some (.int (-1))) M') : Ev l X uX7_holds (d + 6) true 0 0 [.ref 150, .int x1, .int x2] (mk w 7 r I L) kr := by
  rw [jn_of hI]
  refine Ev.of (by decide) (Nat.le_of_ble_eq_true rfl) ?_
  refine Wf.gc tkX7_holds [] ?_
  conv => whnf
  repeat (first
    | exact h _
    | exact ⟨Or.inl rfl, h _⟩
    | (refine k7_aheadWhy ?_; conv => whnf)
    | (refine k7_good ?_; conv => whnf)
    | (refine k7_isFace rfl ?_; conv => whnf)
    | (refine k7_no ?_; conv => whnf)
    | (refine ⟨fun _ => ?_, fun z => absurd rfl z⟩; conv => whnf)
    | (refine ⟨fun z => absurd rfl z, fun _ => ?_⟩; conv => whnf)
    | (refine ⟨fun z => absurd z (by decide), fun _ => ?_⟩; conv => whnf)
    | (refine ⟨fun _ => ?_, fun z => absurd z (by decide)⟩; conv => whnf)
    | (refine ⟨fun _ => ?_, fun z => absurd (show (0 : Int32) = 4 from z) (by decide)⟩; conv => whnf))
set_option maxRecDepth 20000 in
theorem f7_drops (hI : n150 I) (h : ∀ M', kr (some (.int (-1))) M') : Ev l X uX7_drops (d + 6) true 0 0 [.ref 150, .int x1, .int x2] (mk w 7 r I L) kr := by
  rw [jn_of hI]
  refine Ev.of (by decide) (Nat.le_of_ble_eq_true rfl) ?_
  refine Wf.gc tkX7_drops [] ?_
  conv => whnf
  repeat (first
    | exact h _
    | exact ⟨Or.inl rfl, h _⟩
    | (refine k7_aheadWhy ?_; conv => whnf)
    | (refine k7_good ?_; conv => whnf)
    | (refine k7_isFace rfl ?_; conv => whnf)
    | (refine k7_no ?_; conv => whnf)
    | (refine ⟨fun _ => ?_, fun z => absurd rfl z⟩; conv => whnf)
    | (refine ⟨fun z => absurd rfl z, fun _ => ?_⟩; conv => whnf)
    | (refine ⟨fun z => absurd z (by decide), fun _ => ?_⟩; conv => whnf)
    | (refine ⟨fun _ => ?_, fun z => absurd z (by decide)⟩; conv => whnf)
    | (refine ⟨fun _ => ?_, fun z => absurd (show (0 : Int32) = 4 from z) (by decide)⟩; conv => whnf))
set_option maxRecDepth 20000 in
theorem f7_dropsIn (hI : n150 I) (h : ∀ M', kr (some (.int (-1))) M') : Ev l X uX7_dropsIn (d + 6) true 0 0 [.ref 150, .int x1] (mk w 7 r I L) kr := by
  rw [jn_of hI]
  refine Ev.of (by decide) (Nat.le_of_ble_eq_true rfl) ?_
  refine Wf.gc tkX7_dropsIn [] ?_
  conv => whnf
  repeat (first
    | exact h _
    | exact ⟨Or.inl rfl, h _⟩
    | (refine k7_good ?_; conv => whnf)
    | (refine k7_isFace rfl ?_; conv => whnf)
    | (refine k7_no ?_; conv => whnf)
    | (refine ⟨fun _ => ?_, fun z => absurd rfl z⟩; conv => whnf)
    | (refine ⟨fun z => absurd rfl z, fun _ => ?_⟩; conv => whnf)
    | (refine ⟨fun z => absurd z (by decide), fun _ => ?_⟩; conv => whnf)
    | (refine ⟨fun _ => ?_, fun z => absurd z (by decide)⟩; conv => whnf)
    | (refine ⟨fun _ => ?_, fun z => absurd (show (0 : Int32) = 4 from z) (by decide)⟩; conv => whnf))
set_option maxRecDepth 20000 in
theorem f7_fallsIn (hI : n150 I) (h : ∀ M', kr (some (.int (-1))) M') : Ev l X uX7_fallsIn (d + 6) true 0 0 [.ref 150, .int x1] (mk w 7 r I L) kr := by
  rw [jn_of hI]
  refine Ev.of (by decide) (Nat.le_of_ble_eq_true rfl) ?_
  refine Wf.gc tkX7_fallsIn [] ?_
  conv => whnf
  repeat (first
    | exact h _
    | exact ⟨Or.inl rfl, h _⟩
    | (refine k7_good ?_; conv => whnf)
    | (refine k7_isFace rfl ?_; conv => whnf)
    | (refine k7_no ?_; conv => whnf)
    | (refine ⟨fun _ => ?_, fun z => absurd rfl z⟩; conv => whnf)
    | (refine ⟨fun z => absurd rfl z, fun _ => ?_⟩; conv => whnf)
    | (refine ⟨fun z => absurd z (by decide), fun _ => ?_⟩; conv => whnf)
    | (refine ⟨fun _ => ?_, fun z => absurd z (by decide)⟩; conv => whnf)
    | (refine ⟨fun _ => ?_, fun z => absurd (show (0 : Int32) = 4 from z) (by decide)⟩; conv => whnf))
set_option maxRecDepth 20000 in
theorem f7_wet (hI : n150 I) (h : ∀ M', kr (some (.int (-1))) M') : Ev l X uX7_wet (d + 6) true 0 0 [.ref 150, .int x1] (mk w 7 r I L) kr := by
  rw [jn_of hI]
  refine Ev.of (by decide) (Nat.le_of_ble_eq_true rfl) ?_
  refine Wf.gc tkX7_wet [] ?_
  conv => whnf
  repeat (first
    | exact h _
    | exact ⟨Or.inl rfl, h _⟩
    | (refine k7_aheadWhy ?_; conv => whnf)
    | (refine k7_good ?_; conv => whnf)
    | (refine k7_no ?_; conv => whnf)
    | (refine ⟨fun _ => ?_, fun z => absurd rfl z⟩; conv => whnf)
    | (refine ⟨fun z => absurd rfl z, fun _ => ?_⟩; conv => whnf)
    | (refine ⟨fun z => absurd z (by decide), fun _ => ?_⟩; conv => whnf)
    | (refine ⟨fun _ => ?_, fun z => absurd z (by decide)⟩; conv => whnf)
    | (refine ⟨fun _ => ?_, fun z => absurd (show (0 : Int32) = 4 from z) (by decide)⟩; conv => whnf))
set_option maxRecDepth 20000 in
theorem f7_wetDays (hI : n150 I) (h : ∀ M', kr (some (.int (-1))) M') : Ev l X uX7_wetDays (d + 6) true 0 0 [.ref 150, .int x1, .int x2] (mk w 7 r I L) kr := by
  rw [jn_of hI]
  refine Ev.of (by decide) (Nat.le_of_ble_eq_true rfl) ?_
  refine Wf.gc tkX7_wetDays [] ?_
  conv => whnf
  repeat (first
    | exact h _
    | exact ⟨Or.inl rfl, h _⟩
    | (refine k7_aheadWhy ?_; conv => whnf)
    | (refine k7_good ?_; conv => whnf)
    | (refine k7_isCell rfl ?_; conv => whnf)
    | (refine k7_no ?_; conv => whnf)
    | (refine ⟨fun _ => ?_, fun z => absurd rfl z⟩; conv => whnf)
    | (refine ⟨fun z => absurd rfl z, fun _ => ?_⟩; conv => whnf)
    | (refine ⟨fun z => absurd z (by decide), fun _ => ?_⟩; conv => whnf)
    | (refine ⟨fun _ => ?_, fun z => absurd z (by decide)⟩; conv => whnf)
    | (refine ⟨fun _ => ?_, fun z => absurd (show (0 : Int32) = 4 from z) (by decide)⟩; conv => whnf))
set_option maxRecDepth 20000 in
theorem f7_wettest (hI : n150 I) (h : ∀ M', kr (some (.int (-1))) M') : Ev l X uX7_wettest (d + 6) true 0 0 [.ref 150] (mk w 7 r I L) kr := by
  rw [jn_of hI]
  refine Ev.of (by decide) (Nat.le_of_ble_eq_true rfl) ?_
  refine Wf.gc tkX7_wettest [] ?_
  conv => whnf
  repeat (first
    | exact h _
    | exact ⟨Or.inl rfl, h _⟩
    | (refine k7_good ?_; conv => whnf)
    | (refine k7_no ?_; conv => whnf)
    | (refine ⟨fun _ => ?_, fun z => absurd rfl z⟩; conv => whnf)
    | (refine ⟨fun z => absurd rfl z, fun _ => ?_⟩; conv => whnf)
    | (refine ⟨fun z => absurd z (by decide), fun _ => ?_⟩; conv => whnf)
    | (refine ⟨fun _ => ?_, fun z => absurd z (by decide)⟩; conv => whnf)
    | (refine ⟨fun _ => ?_, fun z => absurd (show (0 : Int32) = 4 from z) (by decide)⟩; conv => whnf))
set_option maxRecDepth 20000 in
theorem f7_sunny (hI : n150 I) (h : ∀ M', kr (some (.int (-1))) M') : Ev l X uX7_sunny (d + 6) true 0 0 [.ref 150] (mk w 7 r I L) kr := by
  rw [jn_of hI]
  refine Ev.of (by decide) (Nat.le_of_ble_eq_true rfl) ?_
  refine Wf.gc tkX7_sunny [] ?_
  conv => whnf
  repeat (first
    | exact h _
    | exact ⟨Or.inl rfl, h _⟩
    | (refine k7_good ?_; conv => whnf)
    | (refine k7_no ?_; conv => whnf)
    | (refine ⟨fun _ => ?_, fun z => absurd rfl z⟩; conv => whnf)
    | (refine ⟨fun z => absurd rfl z, fun _ => ?_⟩; conv => whnf)
    | (refine ⟨fun z => absurd z (by decide), fun _ => ?_⟩; conv => whnf)
    | (refine ⟨fun _ => ?_, fun z => absurd z (by decide)⟩; conv => whnf)
    | (refine ⟨fun _ => ?_, fun z => absurd (show (0 : Int32) = 4 from z) (by decide)⟩; conv => whnf))
set_option maxRecDepth 20000 in
theorem f7_heaviest (hI : n150 I) (h : ∀ M', kr (some (.int (-1))) M') : Ev l X uX7_heaviest (d + 6) true 0 0 [.ref 150] (mk w 7 r I L) kr := by
  rw [jn_of hI]
  refine Ev.of (by decide) (Nat.le_of_ble_eq_true rfl) ?_
  refine Wf.gc tkX7_heaviest [] ?_
  conv => whnf
  repeat (first
    | exact h _
    | exact ⟨Or.inl rfl, h _⟩
    | (refine k7_good ?_; conv => whnf)
    | (refine k7_no ?_; conv => whnf)
    | (refine ⟨fun _ => ?_, fun z => absurd rfl z⟩; conv => whnf)
    | (refine ⟨fun z => absurd rfl z, fun _ => ?_⟩; conv => whnf)
    | (refine ⟨fun z => absurd z (by decide), fun _ => ?_⟩; conv => whnf)
    | (refine ⟨fun _ => ?_, fun z => absurd z (by decide)⟩; conv => whnf)
    | (refine ⟨fun _ => ?_, fun z => absurd (show (0 : Int32) = 4 from z) (by decide)⟩; conv => whnf))
set_option maxRecDepth 20000 in
theorem f7_fallen (hI : n150 I) (h : ∀ M', kr (some (.int (-1))) M') : Ev l X uX7_fallen (d + 6) true 0 0 [.ref 150, .int x1] (mk w 7 r I L) kr := by
  rw [jn_of hI]
  refine Ev.of (by decide) (Nat.le_of_ble_eq_true rfl) ?_
  refine Wf.gc tkX7_fallen [] ?_
  conv => whnf
  repeat (first
    | exact h _
    | exact ⟨Or.inl rfl, h _⟩
    | (refine k7_aheadWhy ?_; conv => whnf)
    | (refine k7_good ?_; conv => whnf)
    | (refine k7_no ?_; conv => whnf)
    | (refine ⟨fun _ => ?_, fun z => absurd rfl z⟩; conv => whnf)
    | (refine ⟨fun z => absurd rfl z, fun _ => ?_⟩; conv => whnf)
    | (refine ⟨fun z => absurd z (by decide), fun _ => ?_⟩; conv => whnf)
    | (refine ⟨fun _ => ?_, fun z => absurd z (by decide)⟩; conv => whnf)
    | (refine ⟨fun _ => ?_, fun z => absurd (show (0 : Int32) = 4 from z) (by decide)⟩; conv => whnf))
set_option maxRecDepth 20000 in
theorem f7_dropsIf (hI : n150 I) (h : ∀ M', kr (some (.int (-1))) M') : Ev l X uX7_dropsIf (d + 6) true 0 0 [.ref 150, .int x1, .int x2, .int x3] (mk w 7 r I L) kr := by
  rw [jn_of hI]
  refine Ev.of (by decide) (Nat.le_of_ble_eq_true rfl) ?_
  refine Wf.gc tkX7_dropsIf [] ?_
  conv => whnf
  repeat (first
    | exact h _
    | exact ⟨Or.inl rfl, h _⟩
    | (refine k7_good ?_; conv => whnf)
    | (refine k7_isCanon rfl ?_; conv => whnf)
    | (refine k7_isFace rfl ?_; conv => whnf)
    | (refine k7_no ?_; conv => whnf)
    | (refine k7_planWhy ?_; conv => whnf)
    | (refine ⟨fun _ => ?_, fun z => absurd rfl z⟩; conv => whnf)
    | (refine ⟨fun z => absurd rfl z, fun _ => ?_⟩; conv => whnf)
    | (refine ⟨fun z => absurd z (by decide), fun _ => ?_⟩; conv => whnf)
    | (refine ⟨fun _ => ?_, fun z => absurd z (by decide)⟩; conv => whnf)
    | (refine ⟨fun _ => ?_, fun z => absurd (show (0 : Int32) = 4 from z) (by decide)⟩; conv => whnf))
set_option maxRecDepth 20000 in
theorem f7_faceFor (hI : n150 I) (h : ∀ M', kr (some (.int (-1))) M') : Ev l X uX7_faceFor (d + 6) true 0 0 [.ref 150, .int x1, .int x2] (mk w 7 r I L) kr := by
  rw [jn_of hI]
  refine Ev.of (by decide) (Nat.le_of_ble_eq_true rfl) ?_
  refine Wf.gc tkX7_faceFor [] ?_
  conv => whnf
  repeat (first
    | exact h _
    | exact ⟨Or.inl rfl, h _⟩
    | (refine k7_good ?_; conv => whnf)
    | (refine k7_isCanon rfl ?_; conv => whnf)
    | (refine k7_no ?_; conv => whnf)
    | (refine k7_planWhy ?_; conv => whnf)
    | (refine ⟨fun _ => ?_, fun z => absurd rfl z⟩; conv => whnf)
    | (refine ⟨fun z => absurd rfl z, fun _ => ?_⟩; conv => whnf)
    | (refine ⟨fun z => absurd z (by decide), fun _ => ?_⟩; conv => whnf)
    | (refine ⟨fun _ => ?_, fun z => absurd z (by decide)⟩; conv => whnf)
    | (refine ⟨fun _ => ?_, fun z => absurd (show (0 : Int32) = 4 from z) (by decide)⟩; conv => whnf))
set_option maxRecDepth 20000 in
theorem f7_match (hI : n150 I) (h : ∀ M', kr (some (.int (-1))) M') : Ev l X uX7_match (d + 6) true 0 0 [.ref 150, .int x1] (mk w 7 r I L) kr := by
  rw [jn_of hI]
  refine Ev.of (by decide) (Nat.le_of_ble_eq_true rfl) ?_
  refine Wf.gc tkX7_match [] ?_
  conv => whnf
  repeat (first
    | exact h _
    | exact ⟨Or.inl rfl, h _⟩
    | (refine k7_good ?_; conv => whnf)
    | (refine k7_no ?_; conv => whnf)
    | (refine k7_planWhy ?_; conv => whnf)
    | (refine ⟨fun _ => ?_, fun z => absurd rfl z⟩; conv => whnf)
    | (refine ⟨fun z => absurd rfl z, fun _ => ?_⟩; conv => whnf)
    | (refine ⟨fun z => absurd z (by decide), fun _ => ?_⟩; conv => whnf)
    | (refine ⟨fun _ => ?_, fun z => absurd z (by decide)⟩; conv => whnf)
    | (refine ⟨fun _ => ?_, fun z => absurd (show (0 : Int32) = 4 from z) (by decide)⟩; conv => whnf))
set_option maxRecDepth 20000 in
theorem f7_matchDrops (hI : n150 I) (h : ∀ M', kr (some (.int (-1))) M') : Ev l X uX7_matchDrops (d + 6) true 0 0 [.ref 150, .int x1] (mk w 7 r I L) kr := by
  rw [jn_of hI]
  refine Ev.of (by decide) (Nat.le_of_ble_eq_true rfl) ?_
  refine Wf.gc tkX7_matchDrops [] ?_
  conv => whnf
  repeat (first
    | exact h _
    | exact ⟨Or.inl rfl, h _⟩
    | (refine k7_good ?_; conv => whnf)
    | (refine k7_no ?_; conv => whnf)
    | (refine k7_planWhy ?_; conv => whnf)
    | (refine ⟨fun _ => ?_, fun z => absurd rfl z⟩; conv => whnf)
    | (refine ⟨fun z => absurd rfl z, fun _ => ?_⟩; conv => whnf)
    | (refine ⟨fun z => absurd z (by decide), fun _ => ?_⟩; conv => whnf)
    | (refine ⟨fun _ => ?_, fun z => absurd z (by decide)⟩; conv => whnf)
    | (refine ⟨fun _ => ?_, fun z => absurd (show (0 : Int32) = 4 from z) (by decide)⟩; conv => whnf))
set_option maxRecDepth 20000 in
theorem f7_matchAt (hI : n150 I) (h : ∀ M', kr (some (.int (-1))) M') : Ev l X uX7_matchAt (d + 6) true 0 0 [.ref 150, .int x1, .int x2] (mk w 7 r I L) kr := by
  rw [jn_of hI]
  refine Ev.of (by decide) (Nat.le_of_ble_eq_true rfl) ?_
  refine Wf.gc tkX7_matchAt [] ?_
  conv => whnf
  repeat (first
    | exact h _
    | exact ⟨Or.inl rfl, h _⟩
    | (refine k7_good ?_; conv => whnf)
    | (refine k7_isCanon rfl ?_; conv => whnf)
    | (refine k7_no ?_; conv => whnf)
    | (refine k7_planWhy ?_; conv => whnf)
    | (refine ⟨fun _ => ?_, fun z => absurd rfl z⟩; conv => whnf)
    | (refine ⟨fun z => absurd rfl z, fun _ => ?_⟩; conv => whnf)
    | (refine ⟨fun z => absurd z (by decide), fun _ => ?_⟩; conv => whnf)
    | (refine ⟨fun _ => ?_, fun z => absurd z (by decide)⟩; conv => whnf)
    | (refine ⟨fun _ => ?_, fun z => absurd (show (0 : Int32) = 4 from z) (by decide)⟩; conv => whnf))
set_option maxRecDepth 20000 in
theorem f7_steps (hI : n150 I) (h : ∀ M', kr (some (.int (-1))) M') : Ev l X uX7_steps (d + 6) true 0 0 [.ref 150, .int x1, .int x2] (mk w 7 r I L) kr := by
  rw [jn_of hI]
  refine Ev.of (by decide) (Nat.le_of_ble_eq_true rfl) ?_
  refine Wf.gc tkX7_steps [] ?_
  conv => whnf
  repeat (first
    | exact h _
    | exact ⟨Or.inl rfl, h _⟩
    | (refine k7_good ?_; conv => whnf)
    | (refine k7_isCell rfl ?_; conv => whnf)
    | (refine k7_no ?_; conv => whnf)
    | (refine ⟨fun _ => ?_, fun z => absurd rfl z⟩; conv => whnf)
    | (refine ⟨fun z => absurd rfl z, fun _ => ?_⟩; conv => whnf)
    | (refine ⟨fun z => absurd z (by decide), fun _ => ?_⟩; conv => whnf)
    | (refine ⟨fun _ => ?_, fun z => absurd z (by decide)⟩; conv => whnf)
    | (refine ⟨fun _ => ?_, fun z => absurd (show (0 : Int32) = 4 from z) (by decide)⟩; conv => whnf))
set_option maxRecDepth 20000 in
theorem f7_wets (hI : n150 I) (h : ∀ M', kr (some (.int (-1))) M') : Ev l X uX7_wets (d + 6) true 0 0 [.ref 150, .int x1, .int x2] (mk w 7 r I L) kr := by
  rw [jn_of hI]
  refine Ev.of (by decide) (Nat.le_of_ble_eq_true rfl) ?_
  refine Wf.gc tkX7_wets [] ?_
  conv => whnf
  repeat (first
    | exact h _
    | exact ⟨Or.inl rfl, h _⟩
    | (refine k7_aheadWhy ?_; conv => whnf)
    | (refine k7_good ?_; conv => whnf)
    | (refine k7_isWalker rfl ?_; conv => whnf)
    | (refine k7_no ?_; conv => whnf)
    | (refine ⟨fun _ => ?_, fun z => absurd rfl z⟩; conv => whnf)
    | (refine ⟨fun z => absurd rfl z, fun _ => ?_⟩; conv => whnf)
    | (refine ⟨fun z => absurd z (by decide), fun _ => ?_⟩; conv => whnf)
    | (refine ⟨fun _ => ?_, fun z => absurd z (by decide)⟩; conv => whnf)
    | (refine ⟨fun _ => ?_, fun z => absurd (show (0 : Int32) = 4 from z) (by decide)⟩; conv => whnf))
set_option maxRecDepth 20000 in
theorem f7_way (hI : n150 I) (h : ∀ M', kr (some (.int (-1))) M') : Ev l X uX7_way (d + 6) true 0 0 [.ref 150, .int x1, .int x2] (mk w 7 r I L) kr := by
  rw [jn_of hI]
  refine Ev.of (by decide) (Nat.le_of_ble_eq_true rfl) ?_
  refine Wf.gc tkX7_way [] ?_
  conv => whnf
  repeat (first
    | exact h _
    | exact ⟨Or.inl rfl, h _⟩
    | (refine k7_aheadWhy ?_; conv => whnf)
    | (refine k7_good ?_; conv => whnf)
    | (refine k7_isWalker rfl ?_; conv => whnf)
    | (refine k7_no ?_; conv => whnf)
    | (refine ⟨fun _ => ?_, fun z => absurd rfl z⟩; conv => whnf)
    | (refine ⟨fun z => absurd rfl z, fun _ => ?_⟩; conv => whnf)
    | (refine ⟨fun z => absurd z (by decide), fun _ => ?_⟩; conv => whnf)
    | (refine ⟨fun _ => ?_, fun z => absurd z (by decide)⟩; conv => whnf)
    | (refine ⟨fun _ => ?_, fun z => absurd (show (0 : Int32) = 4 from z) (by decide)⟩; conv => whnf))
set_option maxRecDepth 20000 in
theorem f7_wayAt (hI : n150 I) (h : ∀ M', kr (some (.int (-1))) M') : Ev l X uX7_wayAt (d + 6) true 0 0 [.ref 150, .int x1, .int x2, .int x3] (mk w 7 r I L) kr := by
  rw [jn_of hI]
  refine Ev.of (by decide) (Nat.le_of_ble_eq_true rfl) ?_
  refine Wf.gc tkX7_wayAt [] ?_
  conv => whnf
  repeat (first
    | exact h _
    | exact ⟨Or.inl rfl, h _⟩
    | (refine k7_good ?_; conv => whnf)
    | (refine k7_in (fun v hv => ?_); conv => whnf)
    | (refine k7_isWalker rfl ?_; conv => whnf)
    | (refine k7_no ?_; conv => whnf)
    | (refine ⟨fun _ => ?_, fun z => absurd rfl z⟩; conv => whnf)
    | (refine ⟨fun z => absurd rfl z, fun _ => ?_⟩; conv => whnf)
    | (refine ⟨fun z => absurd z (by decide), fun _ => ?_⟩; conv => whnf)
    | (refine ⟨fun _ => ?_, fun z => absurd z (by decide)⟩; conv => whnf)
    | (refine ⟨fun _ => ?_, fun z => absurd (show (0 : Int32) = 4 from z) (by decide)⟩; conv => whnf))
set_option maxRecDepth 20000 in
theorem f7_dryDay (hI : n150 I) (h : ∀ M', kr (some (.int (-1))) M') : Ev l X uX7_dryDay (d + 6) true 0 0 [.ref 150, .int x1] (mk w 7 r I L) kr := by
  rw [jn_of hI]
  refine Ev.of (by decide) (Nat.le_of_ble_eq_true rfl) ?_
  refine Wf.gc tkX7_dryDay [] ?_
  conv => whnf
  repeat (first
    | exact h _
    | exact ⟨Or.inl rfl, h _⟩
    | (refine k7_good ?_; conv => whnf)
    | (refine k7_isWalker rfl ?_; conv => whnf)
    | (refine k7_no ?_; conv => whnf)
    | (refine ⟨fun _ => ?_, fun z => absurd rfl z⟩; conv => whnf)
    | (refine ⟨fun z => absurd rfl z, fun _ => ?_⟩; conv => whnf)
    | (refine ⟨fun z => absurd z (by decide), fun _ => ?_⟩; conv => whnf)
    | (refine ⟨fun _ => ?_, fun z => absurd z (by decide)⟩; conv => whnf)
    | (refine ⟨fun _ => ?_, fun z => absurd (show (0 : Int32) = 4 from z) (by decide)⟩; conv => whnf))
set_option maxRecDepth 20000 in
theorem f7_gate (hI : n150 I) (h : ∀ M', kr (some (.int (-1))) M') : Ev l X uX7_gate (d + 6) true 0 0 [.ref 150] (mk w 7 r I L) kr := by
  rw [jn_of hI]
  refine Ev.of (by decide) (Nat.le_of_ble_eq_true rfl) ?_
  refine Wf.gc tkX7_gate [] ?_
  conv => whnf
  repeat (first
    | exact h _
    | exact ⟨Or.inl rfl, h _⟩
    | (refine k7_good ?_; conv => whnf)
    | (refine k7_no ?_; conv => whnf)
    | (refine ⟨fun _ => ?_, fun z => absurd rfl z⟩; conv => whnf)
    | (refine ⟨fun z => absurd rfl z, fun _ => ?_⟩; conv => whnf)
    | (refine ⟨fun z => absurd z (by decide), fun _ => ?_⟩; conv => whnf)
    | (refine ⟨fun _ => ?_, fun z => absurd z (by decide)⟩; conv => whnf)
    | (refine ⟨fun _ => ?_, fun z => absurd (show (0 : Int32) = 4 from z) (by decide)⟩; conv => whnf))
set_option maxRecDepth 20000 in
theorem f7_fits (hI : n150 I) (h : ∀ M', kr (some (.int (-1))) M') : Ev l X uX7_fits (d + 6) true 0 0 [.ref 150] (mk w 7 r I L) kr := by
  rw [jn_of hI]
  refine Ev.of (by decide) (Nat.le_of_ble_eq_true rfl) ?_
  refine Wf.gc tkX7_fits [] ?_
  conv => whnf
  repeat (first
    | exact h _
    | exact ⟨Or.inl rfl, h _⟩
    | (refine k7_good ?_; conv => whnf)
    | (refine k7_no ?_; conv => whnf)
    | (refine ⟨fun _ => ?_, fun z => absurd rfl z⟩; conv => whnf)
    | (refine ⟨fun z => absurd rfl z, fun _ => ?_⟩; conv => whnf)
    | (refine ⟨fun z => absurd z (by decide), fun _ => ?_⟩; conv => whnf)
    | (refine ⟨fun _ => ?_, fun z => absurd z (by decide)⟩; conv => whnf)
    | (refine ⟨fun _ => ?_, fun z => absurd (show (0 : Int32) = 4 from z) (by decide)⟩; conv => whnf))
set_option maxRecDepth 20000 in
theorem f7_fitAt (hI : n150 I) (h : ∀ M', kr (some (.int (-1))) M') : Ev l X uX7_fitAt (d + 6) true 0 0 [.ref 150, .int x1] (mk w 7 r I L) kr := by
  rw [jn_of hI]
  refine Ev.of (by decide) (Nat.le_of_ble_eq_true rfl) ?_
  refine Wf.gc tkX7_fitAt [] ?_
  conv => whnf
  repeat (first
    | exact h _
    | exact ⟨Or.inl rfl, h _⟩
    | (refine k7_good ?_; conv => whnf)
    | (refine k7_no ?_; conv => whnf)
    | (refine ⟨fun _ => ?_, fun z => absurd rfl z⟩; conv => whnf)
    | (refine ⟨fun z => absurd rfl z, fun _ => ?_⟩; conv => whnf)
    | (refine ⟨fun z => absurd z (by decide), fun _ => ?_⟩; conv => whnf)
    | (refine ⟨fun _ => ?_, fun z => absurd z (by decide)⟩; conv => whnf)
    | (refine ⟨fun _ => ?_, fun z => absurd (show (0 : Int32) = 4 from z) (by decide)⟩; conv => whnf))
set_option maxRecDepth 20000 in
theorem f7_could (hI : n150 I) (h : ∀ M', kr (some (.int (-1))) M') : Ev l X uX7_could (d + 6) true 0 0 [.ref 150] (mk w 7 r I L) kr := by
  rw [jn_of hI]
  refine Ev.of (by decide) (Nat.le_of_ble_eq_true rfl) ?_
  refine Wf.gc tkX7_could [] ?_
  conv => whnf
  repeat (first
    | exact h _
    | exact ⟨Or.inl rfl, h _⟩
    | (refine k7_good ?_; conv => whnf)
    | (refine k7_no ?_; conv => whnf)
    | (refine ⟨fun _ => ?_, fun z => absurd rfl z⟩; conv => whnf)
    | (refine ⟨fun z => absurd rfl z, fun _ => ?_⟩; conv => whnf)
    | (refine ⟨fun z => absurd z (by decide), fun _ => ?_⟩; conv => whnf)
    | (refine ⟨fun _ => ?_, fun z => absurd z (by decide)⟩; conv => whnf)
    | (refine ⟨fun _ => ?_, fun z => absurd (show (0 : Int32) = 4 from z) (by decide)⟩; conv => whnf))
set_option maxRecDepth 20000 in
theorem f7_surely (hI : n150 I) (h : ∀ M', kr (some (.int (-1))) M') : Ev l X uX7_surely (d + 6) true 0 0 [.ref 150] (mk w 7 r I L) kr := by
  rw [jn_of hI]
  refine Ev.of (by decide) (Nat.le_of_ble_eq_true rfl) ?_
  refine Wf.gc tkX7_surely [] ?_
  conv => whnf
  repeat (first
    | exact h _
    | exact ⟨Or.inl rfl, h _⟩
    | (refine k7_good ?_; conv => whnf)
    | (refine k7_no ?_; conv => whnf)
    | (refine ⟨fun _ => ?_, fun z => absurd rfl z⟩; conv => whnf)
    | (refine ⟨fun z => absurd rfl z, fun _ => ?_⟩; conv => whnf)
    | (refine ⟨fun z => absurd z (by decide), fun _ => ?_⟩; conv => whnf)
    | (refine ⟨fun _ => ?_, fun z => absurd z (by decide)⟩; conv => whnf)
    | (refine ⟨fun _ => ?_, fun z => absurd (show (0 : Int32) = 4 from z) (by decide)⟩; conv => whnf))
set_option maxRecDepth 20000 in
theorem f7_ask (hI : n150 I) (h : ∀ M', kr (some (.int (-1))) M') : Ev l X uX7_ask (d + 6) true 0 0 [.ref 150] (mk w 7 r I L) kr := by
  rw [jn_of hI]
  refine Ev.of (by decide) (Nat.le_of_ble_eq_true rfl) ?_
  refine Wf.gc tkX7_ask [] ?_
  conv => whnf
  repeat (first
    | exact h _
    | exact ⟨Or.inl rfl, h _⟩
    | (refine k7_good ?_; conv => whnf)
    | (refine k7_no ?_; conv => whnf)
    | (refine ⟨fun _ => ?_, fun z => absurd rfl z⟩; conv => whnf)
    | (refine ⟨fun z => absurd rfl z, fun _ => ?_⟩; conv => whnf)
    | (refine ⟨fun z => absurd z (by decide), fun _ => ?_⟩; conv => whnf)
    | (refine ⟨fun _ => ?_, fun z => absurd z (by decide)⟩; conv => whnf)
    | (refine ⟨fun _ => ?_, fun z => absurd (show (0 : Int32) = 4 from z) (by decide)⟩; conv => whnf))
set_option maxRecDepth 20000 in
theorem f7_askLeaves (hI : n150 I) (h : ∀ M', kr (some (.int (-1))) M') : Ev l X uX7_askLeaves (d + 6) true 0 0 [.ref 150] (mk w 7 r I L) kr := by
  rw [jn_of hI]
  refine Ev.of (by decide) (Nat.le_of_ble_eq_true rfl) ?_
  refine Wf.gc tkX7_askLeaves [] ?_
  conv => whnf
  repeat (first
    | exact h _
    | exact ⟨Or.inl rfl, h _⟩
    | (refine k7_good ?_; conv => whnf)
    | (refine k7_no ?_; conv => whnf)
    | (refine ⟨fun _ => ?_, fun z => absurd rfl z⟩; conv => whnf)
    | (refine ⟨fun z => absurd rfl z, fun _ => ?_⟩; conv => whnf)
    | (refine ⟨fun z => absurd z (by decide), fun _ => ?_⟩; conv => whnf)
    | (refine ⟨fun _ => ?_, fun z => absurd z (by decide)⟩; conv => whnf)
    | (refine ⟨fun _ => ?_, fun z => absurd (show (0 : Int32) = 4 from z) (by decide)⟩; conv => whnf))
set_option maxRecDepth 20000 in
theorem f7_judge (hI : n150 I) (h : ∀ M', kr (some (.int (-1))) M') : Ev l X uX7_judge (d + 6) true 0 0 [.ref 150] (mk w 7 r I L) kr := by
  rw [jn_of hI]
  refine Ev.of (by decide) (Nat.le_of_ble_eq_true rfl) ?_
  refine Wf.gc tkX7_judge [] ?_
  conv => whnf
  repeat (first
    | exact h _
    | exact ⟨Or.inl rfl, h _⟩
    | (refine k7_good ?_; conv => whnf)
    | (refine k7_no ?_; conv => whnf)
    | (refine ⟨fun _ => ?_, fun z => absurd rfl z⟩; conv => whnf)
    | (refine ⟨fun z => absurd rfl z, fun _ => ?_⟩; conv => whnf)
    | (refine ⟨fun z => absurd z (by decide), fun _ => ?_⟩; conv => whnf)
    | (refine ⟨fun _ => ?_, fun z => absurd z (by decide)⟩; conv => whnf)
    | (refine ⟨fun _ => ?_, fun z => absurd (show (0 : Int32) = 4 from z) (by decide)⟩; conv => whnf))
set_option maxRecDepth 20000 in
theorem f7_sulks (hI : n150 I) (h : ∀ M', kr (some (.int (-100))) M') : Ev l X uX7_sulks (d + 6) true 0 0 [.ref 150, .int x1, .int x2, .int x3, .int x4] (mk w 7 r I L) kr := by
  rw [jn_of hI]
  refine Ev.of (by decide) (Nat.le_of_ble_eq_true rfl) ?_
  refine Wf.gc tkX7_sulks [] ?_
  conv => whnf
  repeat (first
    | exact h _
    | exact ⟨Or.inl rfl, h _⟩
    | (refine k7_good ?_; conv => whnf)
    | (refine k7_in (fun v hv => ?_); conv => whnf)
    | (refine k7_why ?_; conv => whnf)
    | (refine ⟨fun _ => ?_, fun z => absurd rfl z⟩; conv => whnf)
    | (refine ⟨fun z => absurd rfl z, fun _ => ?_⟩; conv => whnf)
    | (refine ⟨fun z => absurd z (by decide), fun _ => ?_⟩; conv => whnf)
    | (refine ⟨fun _ => ?_, fun z => absurd z (by decide)⟩; conv => whnf)
    | (refine ⟨fun _ => ?_, fun z => absurd (show (0 : Int32) = 4 from z) (by decide)⟩; conv => whnf))
set_option maxRecDepth 20000 in
theorem f7_rests (hI : n150 I) (h : ∀ M', kr (some (.int (-1))) M') : Ev l X uX7_rests (d + 6) true 0 0 [.ref 150, .int x1] (mk w 7 r I L) kr := by
  rw [jn_of hI]
  refine Ev.of (by decide) (Nat.le_of_ble_eq_true rfl) ?_
  refine Wf.gc tkX7_rests [] ?_
  conv => whnf
  repeat (first
    | exact h _
    | exact ⟨Or.inl rfl, h _⟩
    | (refine k7_good ?_; conv => whnf)
    | (refine k7_in (fun v hv => ?_); conv => whnf)
    | (refine k7_no ?_; conv => whnf)
    | (refine k7_why ?_; conv => whnf)
    | (refine ⟨fun _ => ?_, fun z => absurd rfl z⟩; conv => whnf)
    | (refine ⟨fun z => absurd rfl z, fun _ => ?_⟩; conv => whnf)
    | (refine ⟨fun z => absurd z (by decide), fun _ => ?_⟩; conv => whnf)
    | (refine ⟨fun _ => ?_, fun z => absurd z (by decide)⟩; conv => whnf)
    | (refine ⟨fun _ => ?_, fun z => absurd (show (0 : Int32) = 4 from z) (by decide)⟩; conv => whnf))
set_option maxRecDepth 20000 in
theorem f7_rest (hI : n150 I) (h : ∀ M', kr (some (.int (-1))) M') : Ev l X uX7_rest (d + 6) true 0 0 [.ref 150, .int x1] (mk w 7 r I L) kr := by
  rw [jn_of hI]
  refine Ev.of (by decide) (Nat.le_of_ble_eq_true rfl) ?_
  refine Wf.gc tkX7_rest [] ?_
  conv => whnf
  repeat (first
    | exact h _
    | exact ⟨Or.inl rfl, h _⟩
    | (refine k7_good ?_; conv => whnf)
    | (refine k7_in (fun v hv => ?_); conv => whnf)
    | (refine k7_no ?_; conv => whnf)
    | (refine k7_why ?_; conv => whnf)
    | (refine ⟨fun _ => ?_, fun z => absurd rfl z⟩; conv => whnf)
    | (refine ⟨fun z => absurd rfl z, fun _ => ?_⟩; conv => whnf)
    | (refine ⟨fun z => absurd z (by decide), fun _ => ?_⟩; conv => whnf)
    | (refine ⟨fun _ => ?_, fun z => absurd z (by decide)⟩; conv => whnf)
    | (refine ⟨fun _ => ?_, fun z => absurd (show (0 : Int32) = 4 from z) (by decide)⟩; conv => whnf))
set_option maxRecDepth 20000 in
theorem f7_odds (hI : n150 I) (h : ∀ M', kr (some (.long (-1))) M') : Ev l X uX7_odds (d + 6) true 0 0 [.ref 150, .int x1, .int x2, .int x3] (mk w 7 r I L) kr := by
  rw [jn_of hI]
  refine Ev.of (by decide) (Nat.le_of_ble_eq_true rfl) ?_
  refine Wf.gc tkX7_odds [] ?_
  conv => whnf
  repeat (first
    | exact h _
    | exact ⟨Or.inl rfl, h _⟩
    | (refine k7_good ?_; conv => whnf)
    | (refine k7_in (fun v hv => ?_); conv => whnf)
    | (refine k7_isFace rfl ?_; conv => whnf)
    | (refine k7_no ?_; conv => whnf)
    | (refine k7_why ?_; conv => whnf)
    | (refine ⟨fun _ => ?_, fun z => absurd rfl z⟩; conv => whnf)
    | (refine ⟨fun z => absurd rfl z, fun _ => ?_⟩; conv => whnf)
    | (refine ⟨fun z => absurd z (by decide), fun _ => ?_⟩; conv => whnf)
    | (refine ⟨fun _ => ?_, fun z => absurd z (by decide)⟩; conv => whnf)
    | (refine ⟨fun _ => ?_, fun z => absurd (show (0 : Int32) = 4 from z) (by decide)⟩; conv => whnf))
set_option maxRecDepth 20000 in
theorem f7_mean (hI : n150 I) (h : ∀ M', kr (some (.long (-1))) M') : Ev l X uX7_mean (d + 6) true 0 0 [.ref 150, .int x1, .int x2, .int x3] (mk w 7 r I L) kr := by
  rw [jn_of hI]
  refine Ev.of (by decide) (Nat.le_of_ble_eq_true rfl) ?_
  refine Wf.gc tkX7_mean [] ?_
  conv => whnf
  repeat (first
    | exact h _
    | exact ⟨Or.inl rfl, h _⟩
    | (refine k7_good ?_; conv => whnf)
    | (refine k7_in (fun v hv => ?_); conv => whnf)
    | (refine k7_isFace rfl ?_; conv => whnf)
    | (refine k7_no ?_; conv => whnf)
    | (refine k7_why ?_; conv => whnf)
    | (refine ⟨fun _ => ?_, fun z => absurd rfl z⟩; conv => whnf)
    | (refine ⟨fun z => absurd rfl z, fun _ => ?_⟩; conv => whnf)
    | (refine ⟨fun z => absurd z (by decide), fun _ => ?_⟩; conv => whnf)
    | (refine ⟨fun _ => ?_, fun z => absurd z (by decide)⟩; conv => whnf)
    | (refine ⟨fun _ => ?_, fun z => absurd (show (0 : Int32) = 4 from z) (by decide)⟩; conv => whnf))
set_option maxRecDepth 20000 in
theorem f7_borne (hI : n150 I) (h : ∀ M', kr (some (.int (-1))) M') : Ev l X uX7_borne (d + 6) true 0 0 [.ref 150, .int x1, .int x2, .int x3] (mk w 7 r I L) kr := by
  rw [jn_of hI]
  refine Ev.of (by decide) (Nat.le_of_ble_eq_true rfl) ?_
  refine Wf.gc tkX7_borne [] ?_
  conv => whnf
  repeat (first
    | exact h _
    | exact ⟨Or.inl rfl, h _⟩
    | (refine k7_drawWhy ?_; conv => whnf)
    | (refine k7_good ?_; conv => whnf)
    | (refine k7_isFace rfl ?_; conv => whnf)
    | (refine k7_no ?_; conv => whnf)
    | (refine ⟨fun _ => ?_, fun z => absurd rfl z⟩; conv => whnf)
    | (refine ⟨fun z => absurd rfl z, fun _ => ?_⟩; conv => whnf)
    | (refine ⟨fun z => absurd z (by decide), fun _ => ?_⟩; conv => whnf)
    | (refine ⟨fun _ => ?_, fun z => absurd z (by decide)⟩; conv => whnf)
    | (refine ⟨fun _ => ?_, fun z => absurd (show (0 : Int32) = 4 from z) (by decide)⟩; conv => whnf))
set_option maxRecDepth 20000 in
theorem f7_firstWet (hI : n150 I) (h : ∀ M', kr (some (.int (-1))) M') : Ev l X uX7_firstWet (d + 6) true 0 0 [.ref 150, .int x1, .int x2] (mk w 7 r I L) kr := by
  rw [jn_of hI]
  refine Ev.of (by decide) (Nat.le_of_ble_eq_true rfl) ?_
  refine Wf.gc tkX7_firstWet [] ?_
  conv => whnf
  repeat (first
    | exact h _
    | exact ⟨Or.inl rfl, h _⟩
    | (refine k7_drawWhy ?_; conv => whnf)
    | (refine k7_good ?_; conv => whnf)
    | (refine k7_no ?_; conv => whnf)
    | (refine ⟨fun _ => ?_, fun z => absurd rfl z⟩; conv => whnf)
    | (refine ⟨fun z => absurd rfl z, fun _ => ?_⟩; conv => whnf)
    | (refine ⟨fun z => absurd z (by decide), fun _ => ?_⟩; conv => whnf)
    | (refine ⟨fun _ => ?_, fun z => absurd z (by decide)⟩; conv => whnf)
    | (refine ⟨fun _ => ?_, fun z => absurd (show (0 : Int32) = 4 from z) (by decide)⟩; conv => whnf))
set_option maxRecDepth 20000 in
theorem f7_day (hI : n150 I) (h : ∀ M', kr (some (.int (-1))) M') : Ev l X uX7_day (d + 6) true 0 0 [.ref 150] (mk w 7 r I L) kr := by
  rw [jn_of hI]
  refine Ev.of (by decide) (Nat.le_of_ble_eq_true rfl) ?_
  refine Wf.gc tkX7_day [] ?_
  conv => whnf
  repeat (first
    | exact h _
    | exact ⟨Or.inl rfl, h _⟩
    | (refine k7_good ?_; conv => whnf)
    | (refine k7_no ?_; conv => whnf)
    | (refine ⟨fun _ => ?_, fun z => absurd rfl z⟩; conv => whnf)
    | (refine ⟨fun z => absurd rfl z, fun _ => ?_⟩; conv => whnf)
    | (refine ⟨fun z => absurd z (by decide), fun _ => ?_⟩; conv => whnf)
    | (refine ⟨fun _ => ?_, fun z => absurd z (by decide)⟩; conv => whnf)
    | (refine ⟨fun _ => ?_, fun z => absurd (show (0 : Int32) = 4 from z) (by decide)⟩; conv => whnf))
set_option maxRecDepth 20000 in
theorem f7_give (hI : n150 I) (h : ∀ M', kr (some (.int (-1))) M') : Ev l X uX7_give (d + 6) true 0 0 [.ref 150, .int x1, .int x2] (mk w 7 r I L) kr := by
  rw [jn_of hI]
  refine Ev.of (by decide) (Nat.le_of_ble_eq_true rfl) ?_
  refine Wf.gc tkX7_give [] ?_
  conv => whnf
  repeat (first
    | exact h _
    | exact ⟨Or.inl rfl, h _⟩
    | (refine k7_good ?_; conv => whnf)
    | (refine k7_isCanon rfl ?_; conv => whnf)
    | (refine k7_isFace rfl ?_; conv => whnf)
    | (refine k7_no ?_; conv => whnf)
    | (refine ⟨fun _ => ?_, fun z => absurd rfl z⟩; conv => whnf)
    | (refine ⟨fun z => absurd rfl z, fun _ => ?_⟩; conv => whnf)
    | (refine ⟨fun z => absurd z (by decide), fun _ => ?_⟩; conv => whnf)
    | (refine ⟨fun _ => ?_, fun z => absurd z (by decide)⟩; conv => whnf)
    | (refine ⟨fun _ => ?_, fun z => absurd (show (0 : Int32) = 4 from z) (by decide)⟩; conv => whnf))
set_option maxRecDepth 20000 in
theorem f7_mend (hI : n150 I) (h : ∀ M', kr (some (.int 0)) M') : Ev l X uX7_mend (d + 6) true 0 0 [.ref 150, .int x1] (mk w 7 r I L) kr := by
  rw [jn_of hI]
  refine Ev.of (by decide) (Nat.le_of_ble_eq_true rfl) ?_
  refine Wf.gc tkX7_mend [] ?_
  conv => whnf
  repeat (first
    | exact h _
    | exact ⟨Or.inl rfl, h _⟩
    | (refine k7_good ?_; conv => whnf)
    | (refine k7_isFace rfl ?_; conv => whnf)
    | (refine k7_isNot ?_; conv => whnf)
    | (refine ⟨fun _ => ?_, fun z => absurd rfl z⟩; conv => whnf)
    | (refine ⟨fun z => absurd rfl z, fun _ => ?_⟩; conv => whnf)
    | (refine ⟨fun z => absurd z (by decide), fun _ => ?_⟩; conv => whnf)
    | (refine ⟨fun _ => ?_, fun z => absurd z (by decide)⟩; conv => whnf)
    | (refine ⟨fun _ => ?_, fun z => absurd (show (0 : Int32) = 4 from z) (by decide)⟩; conv => whnf))
set_option maxRecDepth 20000 in
theorem f7_vex (hI : n150 I) (h : ∀ M', kr (some (.int (-1))) M') : Ev l X uX7_vex (d + 6) true 0 0 [.ref 150, .int x1, .int x2] (mk w 7 r I L) kr := by
  rw [jn_of hI]
  refine Ev.of (by decide) (Nat.le_of_ble_eq_true rfl) ?_
  refine Wf.gc tkX7_vex [] ?_
  conv => whnf
  repeat (first
    | exact h _
    | exact ⟨Or.inl rfl, h _⟩
    | (refine k7_good ?_; conv => whnf)
    | (refine k7_in (fun v hv => ?_); conv => whnf)
    | (refine k7_isFace rfl ?_; conv => whnf)
    | (refine k7_no ?_; conv => whnf)
    | (refine k7_why ?_; conv => whnf)
    | (refine ⟨fun _ => ?_, fun z => absurd rfl z⟩; conv => whnf)
    | (refine ⟨fun z => absurd rfl z, fun _ => ?_⟩; conv => whnf)
    | (refine ⟨fun z => absurd z (by decide), fun _ => ?_⟩; conv => whnf)
    | (refine ⟨fun _ => ?_, fun z => absurd z (by decide)⟩; conv => whnf)
    | (refine ⟨fun _ => ?_, fun z => absurd (show (0 : Int32) = 4 from z) (by decide)⟩; conv => whnf))
set_option maxRecDepth 20000 in
theorem f7_undo (hI : n150 I) (h : ∀ M', kr (some (.int 0)) M') : Ev l X uX7_undo (d + 6) true 0 0 [.ref 150] (mk w 7 r I L) kr := by
  rw [jn_of hI]
  refine Ev.of (by decide) (Nat.le_of_ble_eq_true rfl) ?_
  refine Wf.gc tkX7_undo [] ?_
  conv => whnf
  repeat (first
    | exact h _
    | exact ⟨Or.inl rfl, h _⟩
    | (refine k7_good ?_; conv => whnf)
    | (refine k7_isNot ?_; conv => whnf)
    | (refine ⟨fun _ => ?_, fun z => absurd rfl z⟩; conv => whnf)
    | (refine ⟨fun z => absurd rfl z, fun _ => ?_⟩; conv => whnf)
    | (refine ⟨fun z => absurd z (by decide), fun _ => ?_⟩; conv => whnf)
    | (refine ⟨fun _ => ?_, fun z => absurd z (by decide)⟩; conv => whnf)
    | (refine ⟨fun _ => ?_, fun z => absurd (show (0 : Int32) = 4 from z) (by decide)⟩; conv => whnf))
set_option maxRecDepth 20000 in
theorem f7_image (hI : n150 I) (h : ∀ M', kr (some (.int (-1))) M') : Ev l X uX7_image (d + 6) true 0 0 [.ref 150] (mk w 7 r I L) kr := by
  rw [jn_of hI]
  refine Ev.of (by decide) (Nat.le_of_ble_eq_true rfl) ?_
  refine Wf.gc tkX7_image [] ?_
  conv => whnf
  repeat (first
    | exact h _
    | exact ⟨Or.inl rfl, h _⟩
    | (refine k7_good ?_; conv => whnf)
    | (refine k7_no ?_; conv => whnf)
    | (refine ⟨fun _ => ?_, fun z => absurd rfl z⟩; conv => whnf)
    | (refine ⟨fun z => absurd rfl z, fun _ => ?_⟩; conv => whnf)
    | (refine ⟨fun z => absurd z (by decide), fun _ => ?_⟩; conv => whnf)
    | (refine ⟨fun _ => ?_, fun z => absurd z (by decide)⟩; conv => whnf)
    | (refine ⟨fun _ => ?_, fun z => absurd (show (0 : Int32) = 4 from z) (by decide)⟩; conv => whnf))
theorem f7_back (hI : n150 I) (h : ∀ M', kr (some (.int 0)) M') : Ev l X uX7_back (d + 6) true 0 0 [.ref 150, .int x1] (mk w 7 r I L) kr := by
  rw [jn_of hI]
  refine Ev.of (by decide) (Nat.le_of_ble_eq_true rfl) ?_
  refine Wf.gc tkX7_back [] ?_
  conv => whnf
  refine k7_good ?_
  conv => whnf
  refine k7_inb (fun a b => ?_) (fun _ => ?_)
  · exact absurd (show (0 : Int32) ≤ 0 - 1 from Int32.le_trans a b) (by decide)
  · conv => whnf
    refine ⟨fun z => absurd rfl z, fun _ => ?_⟩
    conv => whnf
    refine k7_isNot ?_
    conv => whnf
    exact ⟨Or.inl rfl, h _⟩
set_option maxRecDepth 20000 in
theorem f7_trouble (hI : n150 I) (h : ∀ M', kr (some (.int 0)) M') : Ev l X uX7_trouble (d + 6) true 0 0 [.ref 150] (mk w 7 r I L) kr := by
  rw [jn_of hI]
  refine Ev.of (by decide) (Nat.le_of_ble_eq_true rfl) ?_
  refine Wf.gc tkX7_trouble [] ?_
  conv => whnf
  repeat (first
    | exact h _
    | exact ⟨Or.inl rfl, h _⟩
    | (refine ⟨fun _ => ?_, fun z => absurd rfl z⟩; conv => whnf)
    | (refine ⟨fun z => absurd rfl z, fun _ => ?_⟩; conv => whnf)
    | (refine ⟨fun z => absurd z (by decide), fun _ => ?_⟩; conv => whnf)
    | (refine ⟨fun _ => ?_, fun z => absurd z (by decide)⟩; conv => whnf)
    | (refine ⟨fun _ => ?_, fun z => absurd (show (0 : Int32) = 4 from z) (by decide)⟩; conv => whnf))
end F7
