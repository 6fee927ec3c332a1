theorem i_eq {x y : Int32} {n : Int} (h : x.toInt = n) (g : y.toInt = n) : x = y := Int32.toInt_inj.mp (h.trans g.symm)
def KwayAt : Con := ((238, [(2, 0, 0, [150]), (0, iLo, iHi, []), (0, iLo, iHi, []), (0, iLo, iHi, [])], []), [(150, 0, 0), (150, 11, 11), (150, 26, 26), (160, 0, 4), (161, 0, 24), (164, 0, 19)], [(some (0, iLo, iHi, []), [], [])])
theorem wr_m1 {av : List Value} {r : Option Value} {M : Mm} (h : gps av r M [(some (0, (-1), (-1), []), [], [])]) : r = some (.int (-1)) := by
  obtain ⟨p, hp, h1, -, -⟩ := h
  obtain rfl := List.mem_singleton.mp hp
  cases r with
  | none => exact h1.elim
  | some v =>
    cases v with
    | int x =>
      have h2 : (0 : Nat) = 0 ∧ (-1 : Int) ≤ x.toInt ∧ x.toInt ≤ -1 := h1
      rw [i_eq (show x.toInt = -1 by omega) (show (-1 : Int32).toInt = -1 by decide)]
    | long x => have := h1.1; cases this
    | ref x => have := h1.1; cases this
    | _ => exact h1.elim
theorem wr_01 {w : Int32} {r : Option Value} {M : Mm} {n : Nat} (h : gps [.ref n, .int w] r M [(some (0, 0, 0, []), [], []), (some (0, 1, 1, []), [(1, 0, 3)], [])]) : r = some (.int 0) ∨ (r = some (.int 1) ∧ 0 ≤ w.toInt ∧ w.toInt ≤ 3) := by
  obtain ⟨p, hp, h1, h2, -⟩ := h
  rcases List.mem_cons.mp hp with rfl | hp
  · cases r with
    | none => exact h1.elim
    | some v =>
      cases v with
      | int x =>
        have h3 : (0 : Nat) = 0 ∧ (0 : Int) ≤ x.toInt ∧ x.toInt ≤ 0 := h1
        exact Or.inl (by rw [i_eq (show x.toInt = 0 by omega) (show (0 : Int32).toInt = 0 by decide)])
      | long x => have := h1.1; cases this
      | ref x => have := h1.1; cases this
      | _ => exact h1.elim
  · obtain rfl := List.mem_singleton.mp hp
    obtain ⟨y, hy, h4, h5⟩ := h2 _ (List.mem_singleton.mpr rfl)
    cases hy
    cases r with
    | none => exact h1.elim
    | some v =>
      cases v with
      | int x =>
        have h3 : (0 : Nat) = 0 ∧ (1 : Int) ≤ x.toInt ∧ x.toInt ≤ 1 := h1
        exact Or.inr ⟨by rw [i_eq (show x.toInt = 1 by omega) (show (1 : Int32).toInt = 1 by decide)], h4, h5⟩
      | long x => have := h1.1; cases this
      | ref x => have := h1.1; cases this
      | _ => exact h1.elim
/-! the reference's wayAt in each table -/
theorem wyR0 : wyR rwt0 := ⟨rfl, rfl, rfl, rfl, fun j h1 h2 => by
  have : j = 45 ∨ j = 46 ∨ j = 47 ∨ j = 48 ∨ j = 49 ∨ j = 50 ∨ j = 51 ∨ j = 52 := by omega
  rcases this with rfl | rfl | rfl | rfl | rfl | rfl | rfl | rfl <;> rfl⟩
set_option maxRecDepth 20000 in
theorem vw0 {l : Launch} {X : Nat × (Nat → Int32)} (d : Nat) : Vc l X U0 Pt0 1 (d + 7) KwayAt := vh_wayAt (R := rwt0) wyR0 d ⟨fun M kr hI he h => vc270 (d + 6) [.ref 150] M kr hI he ⟨⟨rfl, List.mem_singleton.mpr rfl⟩, trivial⟩ (fun f hf => absurd hf List.not_mem_nil) (fun r M' hJ hp => by
  rw [r_none (by decide) hp]
  exact h M' hJ), fun w M kr hI he h => vc273 (d + 6) [.ref 150, .int w] M kr hI he ⟨⟨rfl, List.mem_singleton.mpr rfl⟩, ⟨rfl, i32_lo _, i32_hi _⟩, trivial⟩ (fun f hf => absurd hf List.not_mem_nil) (fun r M' hJ hp => by
  obtain rfl := wr_m1 hp
  exact h M' hJ), fun w M kr hI he h0 h1 => vc370 (d + 5) [.ref 150, .int w] M kr hI he ⟨⟨rfl, List.mem_singleton.mpr rfl⟩, ⟨rfl, i32_lo _, i32_hi _⟩, trivial⟩ (fun f hf => absurd hf List.not_mem_nil) (fun r M' hJ hp => by
  rcases wr_01 hp with rfl | ⟨rfl, h2, h3⟩
  · exact h0 M' hJ
  · exact h1 M' hJ h2 h3)⟩ (fun n M kr hI he h => vc310 (d + 3) [.ref 150, .int n] M kr hI he ⟨⟨rfl, List.mem_singleton.mpr rfl⟩, ⟨rfl, i32_lo _, i32_hi _⟩, trivial⟩ (fun f hf => absurd hf List.not_mem_nil) (fun r M' hJ hp => by
  rw [r_none (by decide) hp]
  exact h M' hJ))
def Kc504 : Con := ((238, [(2, 0, 0, [150]), (0, iLo, iHi, []), (0, iLo, iHi, []), (0, iLo, iHi, [])], []), [(150, 0, 0), (150, 11, 11)], [(some (0, (-1), (-1), []), [], [])])
set_option maxRecDepth 20000 in
theorem vc504 {l : Launch} {X : Nat × (Nat → Int32)} {e : Int} (d : Nat) : Vc l X U0 Pt6 e (d + 2) Kc504 :=
  ck (d := (d + 1)) (Ks := [Kc431, Kc465, Kc433]) (cy := 152) (cd := cdX7_wayAt) (nl := 8) (fuel := 1000) (Hs := []) (by decide) rfl (fun na b => by rw [← ceX7_wayAt]; exact tkX7_wayAt) (List.forall_mem_cons.mpr ⟨vc431 (d + 1), List.forall_mem_cons.mpr ⟨vc465 d, List.forall_mem_cons.mpr ⟨vc433 (d + 1), fun _ h => absurd h List.not_mem_nil⟩⟩⟩) (cpyX (d + 1)) (by decide +kernel)
