/-! no close yet; the acts over both kinds of state -/
section NCL
variable {l : Launch} {X : Nat × (Nat → Int32)} {d : Nat} {w : Nat × Nat} {p r : Nat} {I I' : Nat → Nat → Int32} {L : Nat → Nat → Int64} {kr : KR}
def NC6 (p : Nat) (I : Nat → Nat → Int32) : Prop := PC p F00 0 I ∧ I 1 6 = 0 ∧ I 1 8 = 0 ∧ I 33 4 = 0
def NC7 (I : Nat → Nat → Int32) : Prop := I 150 14 = 0 ∧ I 150 22 = 0 ∧ I 150 23 = 0
theorem PC0_cg {q : Nat} (hq : q = 7 ∨ q = 20) (h : PC q F00 0 I) (he : ∀ a k, q ≤ a → a ≤ q + 12 → isI a k = true → I' a k = I a k) : PC q F00 0 I' := by
  obtain ⟨⟨a0, a1, a2, a3, a4, a5, a6, a7⟩, b1, b2, b3, b4, b5⟩ := h
  obtain ⟨p0, p1, p2, p3, p4, p5, p6, p7⟩ := pl_I hq
  refine ⟨⟨?_, ?_, ?_, ?_, ?_, ?_, ?_, ?_⟩, fun f hf => absurd hf (Nat.not_lt_zero _), fun f hf => ?_, fun c hc => absurd hc (Nat.not_lt_zero _), fun k hk => absurd hk (Nat.not_lt_zero _), fun u hu => absurd hu (Nat.not_lt_zero _)⟩
  · rw [he q 0 (by omega) (by omega) p0]; exact a0
  · rw [he q 1 (by omega) (by omega) p1]; exact a1
  · rw [he q 2 (by omega) (by omega) p2]; exact a2
  · rw [he q 3 (by omega) (by omega) p3]; exact a3
  · rw [he q 4 (by omega) (by omega) p4]; exact a4
  · rw [he q 10 (by omega) (by omega) p5]; exact a5
  · rw [he q 14 (by omega) (by omega) p6]; exact a6
  · rw [he q 17 (by omega) (by omega) p7]; exact a7
  · obtain ⟨-, -, -, -, x5⟩ := (pl_J hq (k := f)).1 hf
    rw [he _ f (by omega) (by omega) x5]
    exact b2 f hf
theorem NC6_13 (hp : p = 7 ∨ p = 20) (h : NC6 p I) (v : Int32) : NC6 p (u2 I 1 13 v) :=
  ⟨PC0_cg hp h.1 (fun a k z1 z2 _ => u2_o (by omega)), by rw [u2_o (by decide)]; exact h.2.1, by rw [u2_o (by decide)]; exact h.2.2.1, by rw [u2_o (by decide)]; exact h.2.2.2⟩
theorem NC7_g (h : NC7 I) : NC7 (u2 (u2 I 150 0 0) 150 11 0) :=
  ⟨by rw [u2_o (by decide), u2_o (by decide)]; exact h.1, by rw [u2_o (by decide), u2_o (by decide)]; exact h.2.1, by rw [u2_o (by decide), u2_o (by decide)]; exact h.2.2⟩
theorem NC7_11 (h : NC7 I) (v : Int32) : NC7 (u2 I 150 11 v) :=
  ⟨by rw [u2_o (by decide)]; exact h.1, by rw [u2_o (by decide)]; exact h.2.1, by rw [u2_o (by decide)]; exact h.2.2⟩
theorem nc4 (h : NC6 p I) : I p 4 = nI 0 ∧ I p 10 = nI 0 := ⟨h.1.1.2.2.2.2.1, h.1.1.2.2.2.2.2.1⟩
theorem nc_no {f : Int32} : ¬ ∃ j, j < 0 ∧ f = nI j := fun ⟨_, h, _⟩ => absurd h (Nat.not_lt_zero _)
set_option maxRecDepth 20000 in
theorem x_give0 {c f : Int32} (hp : p = 7 ∨ p = 20) (hA : NC6 p I) (h : ∀ I', NC6 p I' → kr (some (.int (-1))) (mk w p r I' L)) : Ev l X uX6_give (d + 4) true 0 0 [.ref 1, .int c, .int f] (mk w p r I L) kr := by
  refine Ev.of (by decide) (Nat.le_of_ble_eq_true rfl) ?_
  refine Wf.gc tkX6_give [] ?_
  conv => whnf
  refine sX6_isCanon hp (nc4 hA).2 (by decide) (fun j hj _ => absurd hj (Nat.not_lt_zero _)) (fun z => ?_)
  conv => whnf
  refine b1' rfl ?_
  conv => whnf
  refine sX6_refuse ?_
  conv => whnf
  exact h _ (NC6_13 hp hA 1)
set_option maxRecDepth 20000 in
theorem x_vex0 {f m : Int32} (hp : p = 7 ∨ p = 20) (hA : NC6 p I) (h : ∀ I', NC6 p I' → kr (some (.int (-1))) (mk w p r I' L)) : Ev l X uX6_vex (d + 4) true 0 0 [.ref 1, .int f, .int m] (mk w p r I L) kr := by
  refine Ev.of (by decide) (Nat.le_of_ble_eq_true rfl) ?_
  refine Wf.gc tkX6_vex [] ?_
  conv => whnf
  refine sX6_isFace hp (nc4 hA).1 (by decide) (fun j hj _ => absurd hj (Nat.not_lt_zero _)) (fun z => ?_)
  conv => whnf
  refine b2 (fun z => z rfl) ?_
  conv => whnf
  refine sX6_refuse ?_
  conv => whnf
  exact h _ (NC6_13 hp hA 1)
set_option maxRecDepth 20000 in
theorem x_mend0 {f : Int32} (hp : p = 7 ∨ p = 20) (hA : NC6 p I) (h : ∀ I', NC6 p I' → kr (some (.int 0)) (mk w p r I' L)) : Ev l X uX6_mend (d + 4) true 0 0 [.ref 1, .int f] (mk w p r I L) kr := by
  refine Ev.of (by decide) (Nat.le_of_ble_eq_true rfl) ?_
  refine Wf.gc tkX6_mend [] ?_
  conv => whnf
  refine sX6_isFace hp (nc4 hA).1 (by decide) (fun j hj _ => absurd hj (Nat.not_lt_zero _)) (fun z => ?_)
  conv => whnf
  refine b2 (fun z => z rfl) ?_
  conv => whnf
  refine sX6_refuse ?_
  conv => whnf
  exact ⟨Or.inl rfl, h _ (NC6_13 hp hA 1)⟩
set_option maxRecDepth 20000 in
theorem x_undo0 (hp : p = 7 ∨ p = 20) (hA : NC6 p I) (h : ∀ I', NC6 p I' → kr (some (.int 0)) (mk w p r I' L)) : Ev l X uX6_undo (d + 2) true 0 0 [.ref 1] (mk w p r I L) kr := by
  refine Ev.of (by decide) (Nat.le_of_ble_eq_true rfl) ?_
  refine Wf.gc tkX6_undo [] ?_
  conv => whnf
  refine b2 (fun z => z hA.2.1) ?_
  conv => whnf
  refine sX6_refuse ?_
  conv => whnf
  exact ⟨Or.inl rfl, h _ (NC6_13 hp hA 6)⟩
set_option maxRecDepth 20000 in
theorem x_image0 (hp : p = 7 ∨ p = 20) (hA : NC6 p I) (h : ∀ I', NC6 p I' → kr (some (.int (-1))) (mk w p r I' L)) : Ev l X uX6_image (d + 2) true 0 0 [.ref 1] (mk w p r I L) kr := by
  refine Ev.of (by decide) (Nat.le_of_ble_eq_true rfl) ?_
  refine Wf.gc tkX6_image [] ?_
  conv => whnf
  refine sX6_hasClose hp (fun z => absurd z (by rw [(nc4 hA).1]; decide)) (fun z => ?_)
  conv => whnf
  refine b2 (fun z => z rfl) ?_
  conv => whnf
  refine sX6_refuse ?_
  conv => whnf
  exact h _ (NC6_13 hp hA 1)
set_option maxRecDepth 20000 in
theorem x_day0 (hp : p = 7 ∨ p = 20) (hA : NC6 p I) (h : ∀ I', NC6 p I' → kr (some (.int (-1))) (mk w p r I' L)) : Ev l X uX6_day (d + 4) true 0 0 [.ref 1] (mk w p r I L) kr := by
  refine Ev.of (by decide) (Nat.le_of_ble_eq_true rfl) ?_
  refine Wf.gc tkX6_day [] ?_
  conv => whnf
  refine sX6_hasClose hp (fun z => absurd z (by rw [(nc4 hA).1]; decide)) (fun z => ?_)
  conv => whnf
  refine b2 (fun z => z rfl) ?_
  conv => whnf
  refine sX6_refuse ?_
  conv => whnf
  exact h _ (NC6_13 hp hA 1)
set_option maxRecDepth 20000 in
theorem x_back0 {i : Int32} (hp : p = 7 ∨ p = 20) (hA : NC6 p I) (h : ∀ I', NC6 p I' → kr (some (.int 0)) (mk w p r I' L)) : Ev l X uX6_back (d + 2) true 0 0 [.ref 1, .int i] (mk w p r I L) kr := by
  refine Ev.of (by decide) (Nat.le_of_ble_eq_true rfl) ?_
  refine Wf.gc tkX6_back [12] ?_
  have no : Wf l X uX6_back (d + 2) true (mC (mk w p r I L) + 0, mS (mk w p r I L) + 0) 12 [(0, .ref 1), (1, .int i)] [] (mk w p r I L) kr := by
    refine Wf.gc tkX6_back [] ?_
    conv => whnf
    refine sX6_refuse ?_
    conv => whnf
    exact ⟨Or.inl rfl, h _ (NC6_13 hp hA 1)⟩
  conv => whnf
  refine ⟨fun z => ?_, fun z => ?_⟩
  · conv => whnf
    exact no
  · have z : ¬ i < 0 := z
    conv => whnf
    refine b2' (by show ¬ i < I 1 8; rw [hA.2.2.1]; exact z) ?_
    conv => whnf
    exact no
set_option maxRecDepth 20000 in
theorem y_isFace0 {f : Int32} (h14 : I 150 14 = 0) (h : kr (some (.int 0)) (mk w p r I L)) : Ev l X uX7_isFace (d + 1) true 0 0 [.ref 150, .int f] (mk w p r I L) kr := by
  refine Ev.of (by decide) (Nat.le_of_ble_eq_true rfl) ?_
  refine Wf.gc tkX7_isFace [] ?_
  conv => whnf
  refine b1' h14 ?_
  conv => whnf
  exact ⟨Or.inl rfl, h⟩
set_option maxRecDepth 20000 in
theorem y_isCanon0 {f : Int32} (h14 : I 150 14 = 0) (h : kr (some (.int 0)) (mk w p r I L)) : Ev l X uX7_isCanon (d + 1) true 0 0 [.ref 150, .int f] (mk w p r I L) kr := by
  refine Ev.of (by decide) (Nat.le_of_ble_eq_true rfl) ?_
  refine Wf.gc tkX7_isCanon [] ?_
  conv => whnf
  refine b1' h14 ?_
  conv => whnf
  exact ⟨Or.inl rfl, h⟩
set_option maxRecDepth 20000 in
theorem y_give0 {c f : Int32} (hA0 : NC7 I) (h : ∀ I', NC7 I' → kr (some (.int (-1))) (mk w p r I' L)) : Ev l X uX7_give (d + 3) true 0 0 [.ref 150, .int c, .int f] (mk w p r I L) kr := by
  refine Ev.of (by decide) (Nat.le_of_ble_eq_true rfl) ?_
  refine Wf.gc tkX7_give [] ?_
  conv => whnf
  refine y_good ?_
  have hA := NC7_g hA0
  generalize hH : u2 (u2 I 150 0 0) 150 11 0 = H at hA
  conv => whnf
  refine y_isCanon0 (d := d + 1) hA.1 ?_
  conv => whnf
  refine b1' rfl ?_
  conv => whnf
  refine y_no ?_
  conv => whnf
  exact h _ (NC7_11 hA 1)
set_option maxRecDepth 20000 in
theorem y_mend0 {f : Int32} (hA0 : NC7 I) (h : ∀ I', NC7 I' → kr (some (.int 0)) (mk w p r I' L)) : Ev l X uX7_mend (d + 3) true 0 0 [.ref 150, .int f] (mk w p r I L) kr := by
  refine Ev.of (by decide) (Nat.le_of_ble_eq_true rfl) ?_
  refine Wf.gc tkX7_mend [] ?_
  conv => whnf
  refine y_good ?_
  have hA := NC7_g hA0
  generalize hH : u2 (u2 I 150 0 0) 150 11 0 = H at hA
  conv => whnf
  refine y_isFace0 (d := d + 1) hA.1 ?_
  conv => whnf
  refine b2 (fun z => z rfl) ?_
  conv => whnf
  refine y_isNot ?_
  conv => whnf
  exact ⟨Or.inl rfl, h _ (NC7_11 hA 1)⟩
set_option maxRecDepth 20000 in
theorem y_vex0 {f m : Int32} (hA0 : NC7 I) (h : ∀ I', NC7 I' → kr (some (.int (-1))) (mk w p r I' L)) : Ev l X uX7_vex (d + 3) true 0 0 [.ref 150, .int f, .int m] (mk w p r I L) kr := by
  refine Ev.of (by decide) (Nat.le_of_ble_eq_true rfl) ?_
  refine Wf.gc tkX7_vex [20] ?_
  conv => whnf
  refine y_good ?_
  have hA := NC7_g hA0
  generalize hH : u2 (u2 I 150 0 0) 150 11 0 = H at hA
  have whf : ∀ b : Bool, Ev l X uX7_why (d + 2) true 0 0 [.ref 150, .int (bI false), .int (bI b)] (mk w p r H L) (fun r_1 M' => Wf l X uX7_vex (d + 3) true (mC (mk w p r I L) + 0, mS (mk w p r I L) + 0) 20 [(0, .ref 150), (1, .int f), (2, .int m)] (r_1.toList ++ []) M' kr) := by
    intro b
    refine y_why ?_
    show Wf l X uX7_vex (d + 3) true (mC (mk w p r I L) + 0, mS (mk w p r I L) + 0) 20 [(0, .ref 150), (1, .int f), (2, .int m)] [.int 1] (mk w p r H L) kr
    refine Wf.gc tkX7_vex [] ?_
    conv => whnf
    refine b1 (by decide) ?_
    conv => whnf
    refine b2' (by decide) ?_
    conv => whnf
    refine y_no ?_
    conv => whnf
    exact h _ (NC7_11 hA 1)
  conv => whnf
  refine y_isFace0 (d := d + 1) hA.1 ?_
  conv => whnf
  refine y_in (fun c1 c2 => ?_) (fun c1 => ?_)
  · conv => whnf
    exact whf true
  · conv => whnf
    exact whf false
set_option maxRecDepth 20000 in
theorem y_undo0 (hA0 : NC7 I) (h : ∀ I', NC7 I' → kr (some (.int 0)) (mk w p r I' L)) : Ev l X uX7_undo (d + 1) true 0 0 [.ref 150] (mk w p r I L) kr := by
  refine Ev.of (by decide) (Nat.le_of_ble_eq_true rfl) ?_
  refine Wf.gc tkX7_undo [] ?_
  conv => whnf
  refine y_good ?_
  have hA := NC7_g hA0
  generalize hH : u2 (u2 I 150 0 0) 150 11 0 = H at hA
  conv => whnf
  refine b2 (fun z => z hA.2.1) ?_
  conv => whnf
  refine y_isNot ?_
  conv => whnf
  exact ⟨Or.inl rfl, h _ (NC7_11 hA 6)⟩
set_option maxRecDepth 20000 in
theorem y_image0 (hA0 : NC7 I) (h : ∀ I', NC7 I' → kr (some (.int (-1))) (mk w p r I' L)) : Ev l X uX7_image (d + 1) true 0 0 [.ref 150] (mk w p r I L) kr := by
  refine Ev.of (by decide) (Nat.le_of_ble_eq_true rfl) ?_
  refine Wf.gc tkX7_image [] ?_
  conv => whnf
  refine y_good ?_
  have hA := NC7_g hA0
  generalize hH : u2 (u2 I 150 0 0) 150 11 0 = H at hA
  conv => whnf
  refine b2 (fun z => z hA.1) ?_
  conv => whnf
  refine y_no ?_
  conv => whnf
  exact h _ (NC7_11 hA 1)
set_option maxRecDepth 20000 in
theorem y_day0 (hA0 : NC7 I) (h : ∀ I', NC7 I' → kr (some (.int (-1))) (mk w p r I' L)) : Ev l X uX7_day (d + 3) true 0 0 [.ref 150] (mk w p r I L) kr := by
  refine Ev.of (by decide) (Nat.le_of_ble_eq_true rfl) ?_
  refine Wf.gc tkX7_day [] ?_
  conv => whnf
  refine y_good ?_
  have hA := NC7_g hA0
  generalize hH : u2 (u2 I 150 0 0) 150 11 0 = H at hA
  conv => whnf
  refine b2 (fun z => z hA.1) ?_
  conv => whnf
  refine y_no ?_
  conv => whnf
  exact h _ (NC7_11 hA 1)
set_option maxRecDepth 20000 in
theorem y_back0 {i : Int32} (hA0 : NC7 I) (h : ∀ I', NC7 I' → kr (some (.int 0)) (mk w p r I' L)) : Ev l X uX7_back (d + 1) true 0 0 [.ref 150, .int i] (mk w p r I L) kr := by
  refine Ev.of (by decide) (Nat.le_of_ble_eq_true rfl) ?_
  refine Wf.gc tkX7_back [] ?_
  conv => whnf
  refine y_good ?_
  have hA := NC7_g hA0
  generalize hH : u2 (u2 I 150 0 0) 150 11 0 = H at hA
  conv => whnf
  show Ev l X uX7_in d true 0 0 [.int i, .int 0, .int (H 150 23 - 1)] (mk w p r H L) _
  rw [hA.2.2]
  refine y_in (fun z1 z2 => ?_) (fun z => ?_)
  · exact absurd ((in_ix (N := 0) (by decide)).mp ⟨z1, z2⟩) nc_no
  · conv => whnf
    refine b2 (fun z => z rfl) ?_
    conv => whnf
    refine y_isNot ?_
    conv => whnf
    exact ⟨Or.inl rfl, h _ (NC7_11 hA 1)⟩
end NCL
