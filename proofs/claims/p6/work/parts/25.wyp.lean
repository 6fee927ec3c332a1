theorem i_eq {x y : Int32} {n : Int} (h : x.toInt = n) (g : y.toInt = n) : x = y := Int32.toInt_inj.mp (h.trans g.symm)
def KwayAt : Con := ((238, [(2, 0, 0, [150]), (0, iLo, iHi, []), (0, iLo, iHi, []), (0, iLo, iHi, [])], []), [(150, 0, 0), (150, 11, 11), (150, 26, 26), (160, 0, 4), (161, 0, 24), (164, 0, 19)], [(some (0, iLo, iHi, []), [], [])])
theorem wr_m1 {av : List Value} {r : Option Value} {M : Mm} (h : gps av r M [(some (0, (-1), (-1), []), [], [])]) : r = some (.int (-1)) := by
  obtain ⟨p, hp, h1, -, -⟩ := h
  obtain rfl := List.mem_singleton.mp hp
  cases r with
  | none => exact h1.elim
  | some v =>
    cases v with
    | int x =>
      have h2 : (0 : Nat) = 0 ∧ (-1 : Int) ≤ x.toInt ∧ x.toInt ≤ -1 := h1
      rw [i_eq (show x.toInt = -1 by omega) (show (-1 : Int32).toInt = -1 by decide)]
    | long x => have := h1.1; cases this
    | ref x => have := h1.1; cases this
    | _ => exact h1.elim
theorem wr_01 {w : Int32} {r : Option Value} {M : Mm} {n : Nat} (h : gps [.ref n, .int w] r M [(some (0, 0, 0, []), [], []), (some (0, 1, 1, []), [(1, 0, 3)], [])]) : r = some (.int 0) ∨ (r = some (.int 1) ∧ 0 ≤ w.toInt ∧ w.toInt ≤ 3) := by
  obtain ⟨p, hp, h1, h2, -⟩ := h
  rcases List.mem_cons.mp hp with rfl | hp
  · cases r with
    | none => exact h1.elim
    | some v =>
      cases v with
      | int x =>
        have h3 : (0 : Nat) = 0 ∧ (0 : Int) ≤ x.toInt ∧ x.toInt ≤ 0 := h1
        exact Or.inl (by rw [i_eq (show x.toInt = 0 by omega) (show (0 : Int32).toInt = 0 by decide)])
      | long x => have := h1.1; cases this
      | ref x => have := h1.1; cases this
      | _ => exact h1.elim
  · obtain rfl := List.mem_singleton.mp hp
    obtain ⟨y, hy, h4, h5⟩ := h2 _ (List.mem_singleton.mpr rfl)
    cases hy
    cases r with
    | none => exact h1.elim
    | some v =>
      cases v with
      | int x =>
        have h3 : (0 : Nat) = 0 ∧ (1 : Int) ≤ x.toInt ∧ x.toInt ≤ 1 := h1
        exact Or.inr ⟨by rw [i_eq (show x.toInt = 1 by omega) (show (1 : Int32).toInt = 1 by decide)], h4, h5⟩
      | long x => have := h1.1; cases this
      | ref x => have := h1.1; cases this
      | _ => exact h1.elim
/-! the reference's wayAt in each table -/
theorem wyR0 : wyR rwt0 := ⟨rfl, rfl, rfl, rfl, fun j h1 h2 => by
  have : j = 45 ∨ j = 46 ∨ j = 47 ∨ j = 48 ∨ j = 49 ∨ j = 50 ∨ j = 51 ∨ j = 52 := by omega
  rcases this with rfl | rfl | rfl | rfl | rfl | rfl | rfl | rfl <;> rfl⟩
set_option maxRecDepth 20000 in
theorem vw0 {l : Launch} {X : Nat × (Nat → Int32)} {e : Int} (d : Nat) : Vc l X U0 Pt0 e (d + 7) KwayAt := vh_wayAt (R := rwt0) wyR0 d ⟨fun M kr hI he h => vc270 (d + 6) [.ref 150] M kr hI he ⟨⟨rfl, List.mem_singleton.mpr rfl⟩, trivial⟩ (fun f hf => absurd hf List.not_mem_nil) (fun r M' hJ hp => by
  rw [r_none (by decide) hp]
  exact h M' hJ), fun w M kr hI he h => vc273 (d + 6) [.ref 150, .int w] M kr hI he ⟨⟨rfl, List.mem_singleton.mpr rfl⟩, ⟨rfl, i32_lo _, i32_hi _⟩, trivial⟩ (fun f hf => absurd hf List.not_mem_nil) (fun r M' hJ hp => by
  obtain rfl := wr_m1 hp
  exact h M' hJ), fun w M kr hI he h0 h1 => vc340 (d + 5) [.ref 150, .int w] M kr hI he ⟨⟨rfl, List.mem_singleton.mpr rfl⟩, ⟨rfl, i32_lo _, i32_hi _⟩, trivial⟩ (fun f hf => absurd hf List.not_mem_nil) (fun r M' hJ hp => by
  rcases wr_01 hp with rfl | ⟨rfl, h2, h3⟩
  · exact h0 M' hJ
  · exact h1 M' hJ h2 h3)⟩ (fun n M kr hI he h => vc303 (d + 3) [.ref 150, .int n] M kr hI he ⟨⟨rfl, List.mem_singleton.mpr rfl⟩, ⟨rfl, i32_lo _, i32_hi _⟩, trivial⟩ (fun f hf => absurd hf List.not_mem_nil) (fun r M' hJ hp => by
  rw [r_none (by decide) hp]
  exact h M' hJ))
theorem wyR1 : wyR rwt1 := ⟨rfl, rfl, rfl, rfl, fun j h1 h2 => by
  have : j = 45 ∨ j = 46 ∨ j = 47 ∨ j = 48 ∨ j = 49 ∨ j = 50 ∨ j = 51 ∨ j = 52 := by omega
  rcases this with rfl | rfl | rfl | rfl | rfl | rfl | rfl | rfl <;> rfl⟩
set_option maxRecDepth 20000 in
theorem vw1 {l : Launch} {X : Nat × (Nat → Int32)} {e : Int} (d : Nat) : Vc l X U0 Pt1 e (d + 7) KwayAt := vh_wayAt (R := rwt1) wyR1 d ⟨fun M kr hI he h => vc395 (d + 6) [.ref 150] M kr hI he ⟨⟨rfl, List.mem_singleton.mpr rfl⟩, trivial⟩ (fun f hf => absurd hf List.not_mem_nil) (fun r M' hJ hp => by
  rw [r_none (by decide) hp]
  exact h M' hJ), fun w M kr hI he h => vc398 (d + 6) [.ref 150, .int w] M kr hI he ⟨⟨rfl, List.mem_singleton.mpr rfl⟩, ⟨rfl, i32_lo _, i32_hi _⟩, trivial⟩ (fun f hf => absurd hf List.not_mem_nil) (fun r M' hJ hp => by
  obtain rfl := wr_m1 hp
  exact h M' hJ), fun w M kr hI he h0 h1 => vc469 (d + 5) [.ref 150, .int w] M kr hI he ⟨⟨rfl, List.mem_singleton.mpr rfl⟩, ⟨rfl, i32_lo _, i32_hi _⟩, trivial⟩ (fun f hf => absurd hf List.not_mem_nil) (fun r M' hJ hp => by
  rcases wr_01 hp with rfl | ⟨rfl, h2, h3⟩
  · exact h0 M' hJ
  · exact h1 M' hJ h2 h3)⟩ (fun n M kr hI he h => vc429 (d + 3) [.ref 150, .int n] M kr hI he ⟨⟨rfl, List.mem_singleton.mpr rfl⟩, ⟨rfl, i32_lo _, i32_hi _⟩, trivial⟩ (fun f hf => absurd hf List.not_mem_nil) (fun r M' hJ hp => by
  rw [r_none (by decide) hp]
  exact h M' hJ))
theorem wyR2 : wyR rwt2 := ⟨rfl, rfl, rfl, rfl, fun j h1 h2 => by
  have : j = 45 ∨ j = 46 ∨ j = 47 ∨ j = 48 ∨ j = 49 ∨ j = 50 ∨ j = 51 ∨ j = 52 := by omega
  rcases this with rfl | rfl | rfl | rfl | rfl | rfl | rfl | rfl <;> rfl⟩
set_option maxRecDepth 20000 in
theorem vw2 {l : Launch} {X : Nat × (Nat → Int32)} {e : Int} (d : Nat) : Vc l X U0 Pt2 e (d + 7) KwayAt := vh_wayAt (R := rwt2) wyR2 d ⟨fun M kr hI he h => vc524 (d + 6) [.ref 150] M kr hI he ⟨⟨rfl, List.mem_singleton.mpr rfl⟩, trivial⟩ (fun f hf => absurd hf List.not_mem_nil) (fun r M' hJ hp => by
  rw [r_none (by decide) hp]
  exact h M' hJ), fun w M kr hI he h => vc527 (d + 6) [.ref 150, .int w] M kr hI he ⟨⟨rfl, List.mem_singleton.mpr rfl⟩, ⟨rfl, i32_lo _, i32_hi _⟩, trivial⟩ (fun f hf => absurd hf List.not_mem_nil) (fun r M' hJ hp => by
  obtain rfl := wr_m1 hp
  exact h M' hJ), fun w M kr hI he h0 h1 => vc599 (d + 5) [.ref 150, .int w] M kr hI he ⟨⟨rfl, List.mem_singleton.mpr rfl⟩, ⟨rfl, i32_lo _, i32_hi _⟩, trivial⟩ (fun f hf => absurd hf List.not_mem_nil) (fun r M' hJ hp => by
  rcases wr_01 hp with rfl | ⟨rfl, h2, h3⟩
  · exact h0 M' hJ
  · exact h1 M' hJ h2 h3)⟩ (fun n M kr hI he h => vc558 (d + 3) [.ref 150, .int n] M kr hI he ⟨⟨rfl, List.mem_singleton.mpr rfl⟩, ⟨rfl, i32_lo _, i32_hi _⟩, trivial⟩ (fun f hf => absurd hf List.not_mem_nil) (fun r M' hJ hp => by
  rw [r_none (by decide) hp]
  exact h M' hJ))
theorem wyR3 : wyR rwt3 := ⟨rfl, rfl, rfl, rfl, fun j h1 h2 => by
  have : j = 45 ∨ j = 46 ∨ j = 47 ∨ j = 48 ∨ j = 49 ∨ j = 50 ∨ j = 51 ∨ j = 52 := by omega
  rcases this with rfl | rfl | rfl | rfl | rfl | rfl | rfl | rfl <;> rfl⟩
set_option maxRecDepth 20000 in
theorem vw3 {l : Launch} {X : Nat × (Nat → Int32)} {e : Int} (d : Nat) : Vc l X U0 Pt3 e (d + 7) KwayAt := vh_wayAt (R := rwt3) wyR3 d ⟨fun M kr hI he h => vc654 (d + 6) [.ref 150] M kr hI he ⟨⟨rfl, List.mem_singleton.mpr rfl⟩, trivial⟩ (fun f hf => absurd hf List.not_mem_nil) (fun r M' hJ hp => by
  rw [r_none (by decide) hp]
  exact h M' hJ), fun w M kr hI he h => vc657 (d + 6) [.ref 150, .int w] M kr hI he ⟨⟨rfl, List.mem_singleton.mpr rfl⟩, ⟨rfl, i32_lo _, i32_hi _⟩, trivial⟩ (fun f hf => absurd hf List.not_mem_nil) (fun r M' hJ hp => by
  obtain rfl := wr_m1 hp
  exact h M' hJ), fun w M kr hI he h0 h1 => vc729 (d + 5) [.ref 150, .int w] M kr hI he ⟨⟨rfl, List.mem_singleton.mpr rfl⟩, ⟨rfl, i32_lo _, i32_hi _⟩, trivial⟩ (fun f hf => absurd hf List.not_mem_nil) (fun r M' hJ hp => by
  rcases wr_01 hp with rfl | ⟨rfl, h2, h3⟩
  · exact h0 M' hJ
  · exact h1 M' hJ h2 h3)⟩ (fun n M kr hI he h => vc687 (d + 3) [.ref 150, .int n] M kr hI he ⟨⟨rfl, List.mem_singleton.mpr rfl⟩, ⟨rfl, i32_lo _, i32_hi _⟩, trivial⟩ (fun f hf => absurd hf List.not_mem_nil) (fun r M' hJ hp => by
  rw [r_none (by decide) hp]
  exact h M' hJ))
theorem wyR4 : wyR rwt4 := ⟨rfl, rfl, rfl, rfl, fun j h1 h2 => by
  have : j = 45 ∨ j = 46 ∨ j = 47 ∨ j = 48 ∨ j = 49 ∨ j = 50 ∨ j = 51 ∨ j = 52 := by omega
  rcases this with rfl | rfl | rfl | rfl | rfl | rfl | rfl | rfl <;> rfl⟩
set_option maxRecDepth 20000 in
theorem vw4 {l : Launch} {X : Nat × (Nat → Int32)} {e : Int} (d : Nat) : Vc l X U0 Pt4 e (d + 7) KwayAt := vh_wayAt (R := rwt4) wyR4 d ⟨fun M kr hI he h => vc784 (d + 6) [.ref 150] M kr hI he ⟨⟨rfl, List.mem_singleton.mpr rfl⟩, trivial⟩ (fun f hf => absurd hf List.not_mem_nil) (fun r M' hJ hp => by
  rw [r_none (by decide) hp]
  exact h M' hJ), fun w M kr hI he h => vc787 (d + 6) [.ref 150, .int w] M kr hI he ⟨⟨rfl, List.mem_singleton.mpr rfl⟩, ⟨rfl, i32_lo _, i32_hi _⟩, trivial⟩ (fun f hf => absurd hf List.not_mem_nil) (fun r M' hJ hp => by
  obtain rfl := wr_m1 hp
  exact h M' hJ), fun w M kr hI he h0 h1 => vc860 (d + 5) [.ref 150, .int w] M kr hI he ⟨⟨rfl, List.mem_singleton.mpr rfl⟩, ⟨rfl, i32_lo _, i32_hi _⟩, trivial⟩ (fun f hf => absurd hf List.not_mem_nil) (fun r M' hJ hp => by
  rcases wr_01 hp with rfl | ⟨rfl, h2, h3⟩
  · exact h0 M' hJ
  · exact h1 M' hJ h2 h3)⟩ (fun n M kr hI he h => vc817 (d + 3) [.ref 150, .int n] M kr hI he ⟨⟨rfl, List.mem_singleton.mpr rfl⟩, ⟨rfl, i32_lo _, i32_hi _⟩, trivial⟩ (fun f hf => absurd hf List.not_mem_nil) (fun r M' hJ hp => by
  rw [r_none (by decide) hp]
  exact h M' hJ))
theorem wyR5 : wyR rwt5 := ⟨rfl, rfl, rfl, rfl, fun j h1 h2 => by
  have : j = 45 ∨ j = 46 ∨ j = 47 ∨ j = 48 ∨ j = 49 ∨ j = 50 ∨ j = 51 ∨ j = 52 := by omega
  rcases this with rfl | rfl | rfl | rfl | rfl | rfl | rfl | rfl <;> rfl⟩
set_option maxRecDepth 20000 in
theorem vw5 {l : Launch} {X : Nat × (Nat → Int32)} {e : Int} (d : Nat) : Vc l X U0 Pt5 e (d + 7) KwayAt := vh_wayAt (R := rwt5) wyR5 d ⟨fun M kr hI he h => vc915 (d + 6) [.ref 150] M kr hI he ⟨⟨rfl, List.mem_singleton.mpr rfl⟩, trivial⟩ (fun f hf => absurd hf List.not_mem_nil) (fun r M' hJ hp => by
  rw [r_none (by decide) hp]
  exact h M' hJ), fun w M kr hI he h => vc918 (d + 6) [.ref 150, .int w] M kr hI he ⟨⟨rfl, List.mem_singleton.mpr rfl⟩, ⟨rfl, i32_lo _, i32_hi _⟩, trivial⟩ (fun f hf => absurd hf List.not_mem_nil) (fun r M' hJ hp => by
  obtain rfl := wr_m1 hp
  exact h M' hJ), fun w M kr hI he h0 h1 => vc993 (d + 5) [.ref 150, .int w] M kr hI he ⟨⟨rfl, List.mem_singleton.mpr rfl⟩, ⟨rfl, i32_lo _, i32_hi _⟩, trivial⟩ (fun f hf => absurd hf List.not_mem_nil) (fun r M' hJ hp => by
  rcases wr_01 hp with rfl | ⟨rfl, h2, h3⟩
  · exact h0 M' hJ
  · exact h1 M' hJ h2 h3)⟩ (fun n M kr hI he h => vc949 (d + 3) [.ref 150, .int n] M kr hI he ⟨⟨rfl, List.mem_singleton.mpr rfl⟩, ⟨rfl, i32_lo _, i32_hi _⟩, trivial⟩ (fun f hf => absurd hf List.not_mem_nil) (fun r M' hJ hp => by
  rw [r_none (by decide) hp]
  exact h M' hJ))
def Kc1348 : Con := ((238, [(2, 0, 0, [150]), (0, iLo, iHi, []), (0, iLo, iHi, []), (0, iLo, iHi, [])], []), [(150, 0, 0), (150, 11, 11)], [(some (0, (-1), (-1), []), [], [])])
set_option maxRecDepth 20000 in
theorem vc1348 {l : Launch} {X : Nat × (Nat → Int32)} {e : Int} (d : Nat) : Vc l X U0 Pt6 e (d + 2) Kc1348 :=
  ck (d := (d + 1)) (Ks := [Kc1048, Kc1082, Kc1050]) (cy := 152) (cd := cdX7_wayAt) (nl := 8) (fuel := 1000) (Hs := []) (by decide) rfl (fun na b => by rw [← ceX7_wayAt]; exact tkX7_wayAt) (List.forall_mem_cons.mpr ⟨vc1048 (d + 1), List.forall_mem_cons.mpr ⟨vc1082 d, List.forall_mem_cons.mpr ⟨vc1050 (d + 1), fun _ h => absurd h List.not_mem_nil⟩⟩⟩) (cpyX (d + 1)) (by decide +kernel)
