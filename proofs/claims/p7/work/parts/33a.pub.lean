/-! the public methods over the states of the law -/
section PUB
theorem iV {v : Value} {Q : Prop} (h : rki v 0) (k : ∀ x : Int32, Value.int x = v → Q) : Q := by
  cases v with
  | int x => exact k x rfl
  | long x => cases h
  | _ => exact h.elim
theorem lV {v : Value} {Q : Prop} (h : rki v 1) (k : ∀ x : Int64, Value.long x = v → Q) : Q := by
  cases v with
  | int x => cases h
  | long x => exact k x rfl
  | _ => exact h.elim
theorem kpw {ms ms' : Md3} {M M' : Mm} (h : kp ms M M') (hs : ms.all (fun m => ina ms' m.1 m.2.1 m.2.2) = true) : kp ms' M M' := by
  intro a k hk
  refine h a k ?_
  cases hq : inm ms a k with
  | false => rfl
  | true =>
    obtain ⟨m, hm, h4⟩ := List.any_eq_true.mp hq
    obtain ⟨h4, h5⟩ := andT h4
    obtain ⟨h5, h6⟩ := andT h5
    have h7 := ina_in (List.all_eq_true.mp hs m hm) (Nat.le_of_ble_eq_true h5) (Nat.le_of_ble_eq_true h6)
    rw [Nat.eq_of_beq_eq_true h4] at h7
    rw [h7] at hk
    cases hk
variable {l : Launch} {X : Nat × (Nat → Int32)} {M : Mm} {kr : KR}
theorem p6_fault (d : Nat) (hL : LI M) (h : ∀ (x : Int32) (M' : Mm), LI M' → M'.1 = M.1 → kp Kc113.2.1 M M' → kr (some (.int x)) M') : Ev l X uX6_fault (d + 12) true 0 0 [.ref 1] M kr :=
  c6_of (t := 0) (vc113 (d + 12)) (by decide +kernel) hL ⟨⟨rfl, List.mem_singleton.mpr rfl⟩, trivial⟩ (fun v M' hv hL' h1 h2 => iV hv (fun x e => e ▸ h x M' hL' h1 h2))
theorem p6_where (d : Nat) (hL : LI M) (h : ∀ (x : Int32) (M' : Mm), LI M' → M'.1 = M.1 → kp Kc114.2.1 M M' → kr (some (.int x)) M') : Ev l X uX6_where (d + 12) true 0 0 [.ref 1] M kr :=
  c6_of (t := 0) (vc114 (d + 12)) (by decide +kernel) hL ⟨⟨rfl, List.mem_singleton.mpr rfl⟩, trivial⟩ (fun v M' hv hL' h1 h2 => iV hv (fun x e => e ▸ h x M' hL' h1 h2))
theorem p6_face (d : Nat) {x1 x2 : Int32} (hL : LI M) (h : ∀ (x : Int32) (M' : Mm), LI M' → M'.1 = M.1 → kp Kc118.2.1 M M' → kr (some (.int x)) M') : Ev l X uX6_face (d + 12) true 0 0 [.ref 1, .int x1, .int x2] M kr :=
  c6_of (t := 0) (vc118 (d + 11)) (by decide +kernel) hL ⟨⟨rfl, List.mem_singleton.mpr rfl⟩, ⟨⟨rfl, i32_lo _, i32_hi _⟩, ⟨⟨rfl, i32_lo _, i32_hi _⟩, trivial⟩⟩⟩ (fun v M' hv hL' h1 h2 => iV hv (fun x e => e ▸ h x M' hL' h1 h2))
theorem p6_canon (d : Nat) {x1 x2 : Int32} (hL : LI M) (h : ∀ (x : Int32) (M' : Mm), LI M' → M'.1 = M.1 → kp Kc120.2.1 M M' → kr (some (.int x)) M') : Ev l X uX6_canon (d + 12) true 0 0 [.ref 1, .int x1, .int x2] M kr :=
  c6_of (t := 0) (vc120 (d + 11)) (by decide +kernel) hL ⟨⟨rfl, List.mem_singleton.mpr rfl⟩, ⟨⟨rfl, i32_lo _, i32_hi _⟩, ⟨⟨rfl, i32_lo _, i32_hi _⟩, trivial⟩⟩⟩ (fun v M' hv hL' h1 h2 => iV hv (fun x e => e ▸ h x M' hL' h1 h2))
theorem p6_cell (d : Nat) {x1 x2 : Int32} (hL : LI M) (h : ∀ (x : Int32) (M' : Mm), LI M' → M'.1 = M.1 → kp Kc126.2.1 M M' → kr (some (.int x)) M') : Ev l X uX6_cell (d + 12) true 0 0 [.ref 1, .int x1, .int x2] M kr :=
  c6_of (t := 0) (vc126 (d + 10)) (by decide +kernel) hL ⟨⟨rfl, List.mem_singleton.mpr rfl⟩, ⟨⟨rfl, i32_lo _, i32_hi _⟩, ⟨⟨rfl, i32_lo _, i32_hi _⟩, trivial⟩⟩⟩ (fun v M' hv hL' h1 h2 => iV hv (fun x e => e ▸ h x M' hL' h1 h2))
theorem p6_burden (d : Nat) (hL : LI M) (h : ∀ (x : Int32) (M' : Mm), LI M' → M'.1 = M.1 → kp Kc128.2.1 M M' → kr (some (.int x)) M') : Ev l X uX6_burden (d + 12) true 0 0 [.ref 1] M kr :=
  c6_of (t := 0) (vc128 (d + 11)) (by decide +kernel) hL ⟨⟨rfl, List.mem_singleton.mpr rfl⟩, trivial⟩ (fun v M' hv hL' h1 h2 => iV hv (fun x e => e ▸ h x M' hL' h1 h2))
theorem p6_bears (d : Nat) {x1 x2 : Int32} (hL : LI M) (h : ∀ (x : Int32) (M' : Mm), LI M' → M'.1 = M.1 → kp Kc141.2.1 M M' → kr (some (.int x)) M') : Ev l X uX6_bears (d + 12) true 0 0 [.ref 1, .int x1, .int x2] M kr :=
  c6_of (t := 0) (vc141 (d + 9)) (by decide +kernel) hL ⟨⟨rfl, List.mem_singleton.mpr rfl⟩, ⟨⟨rfl, i32_lo _, i32_hi _⟩, ⟨⟨rfl, i32_lo _, i32_hi _⟩, trivial⟩⟩⟩ (fun v M' hv hL' h1 h2 => iV hv (fun x e => e ▸ h x M' hL' h1 h2))
theorem p6_holds (d : Nat) {x1 x2 : Int32} (hL : LI M) (h : ∀ (x : Int32) (M' : Mm), LI M' → M'.1 = M.1 → kp Kc142.2.1 M M' → kr (some (.int x)) M') : Ev l X uX6_holds (d + 12) true 0 0 [.ref 1, .int x1, .int x2] M kr :=
  c6_of (t := 0) (vc142 (d + 9)) (by decide +kernel) hL ⟨⟨rfl, List.mem_singleton.mpr rfl⟩, ⟨⟨rfl, i32_lo _, i32_hi _⟩, ⟨⟨rfl, i32_lo _, i32_hi _⟩, trivial⟩⟩⟩ (fun v M' hv hL' h1 h2 => iV hv (fun x e => e ▸ h x M' hL' h1 h2))
theorem p6_drops (d : Nat) {x1 x2 : Int32} (hL : LI M) (h : ∀ (x : Int32) (M' : Mm), LI M' → M'.1 = M.1 → kp Kc143.2.1 M M' → kr (some (.int x)) M') : Ev l X uX6_drops (d + 12) true 0 0 [.ref 1, .int x1, .int x2] M kr :=
  c6_of (t := 0) (vc143 (d + 9)) (by decide +kernel) hL ⟨⟨rfl, List.mem_singleton.mpr rfl⟩, ⟨⟨rfl, i32_lo _, i32_hi _⟩, ⟨⟨rfl, i32_lo _, i32_hi _⟩, trivial⟩⟩⟩ (fun v M' hv hL' h1 h2 => iV hv (fun x e => e ▸ h x M' hL' h1 h2))
theorem p6_dropsIn (d : Nat) {x1 : Int32} (hL : LI M) (h : ∀ (x : Int32) (M' : Mm), LI M' → M'.1 = M.1 → kp Kc145.2.1 M M' → kr (some (.int x)) M') : Ev l X uX6_dropsIn (d + 12) true 0 0 [.ref 1, .int x1] M kr :=
  c6_of (t := 0) (vc145 (d + 10)) (by decide +kernel) hL ⟨⟨rfl, List.mem_singleton.mpr rfl⟩, ⟨⟨rfl, i32_lo _, i32_hi _⟩, trivial⟩⟩ (fun v M' hv hL' h1 h2 => iV hv (fun x e => e ▸ h x M' hL' h1 h2))
theorem p6_fallsIn (d : Nat) {x1 : Int32} (hL : LI M) (h : ∀ (x : Int32) (M' : Mm), LI M' → M'.1 = M.1 → kp Kc146.2.1 M M' → kr (some (.int x)) M') : Ev l X uX6_fallsIn (d + 12) true 0 0 [.ref 1, .int x1] M kr :=
  c6_of (t := 0) (vc146 (d + 10)) (by decide +kernel) hL ⟨⟨rfl, List.mem_singleton.mpr rfl⟩, ⟨⟨rfl, i32_lo _, i32_hi _⟩, trivial⟩⟩ (fun v M' hv hL' h1 h2 => iV hv (fun x e => e ▸ h x M' hL' h1 h2))
theorem p6_wet (d : Nat) {x1 : Int32} (hL : LI M) (h : ∀ (x : Int32) (M' : Mm), LI M' → M'.1 = M.1 → kp Kc151.2.1 M M' → kr (some (.int x)) M') : Ev l X uX6_wet (d + 12) true 0 0 [.ref 1, .int x1] M kr :=
  c6_of (t := 0) (vc151 (d + 9)) (by decide +kernel) hL ⟨⟨rfl, List.mem_singleton.mpr rfl⟩, ⟨⟨rfl, i32_lo _, i32_hi _⟩, trivial⟩⟩ (fun v M' hv hL' h1 h2 => iV hv (fun x e => e ▸ h x M' hL' h1 h2))
theorem p6_wetDays (d : Nat) {x1 x2 : Int32} (hL : LI M) (h : ∀ (x : Int32) (M' : Mm), LI M' → M'.1 = M.1 → kp Kc153.2.1 M M' → kr (some (.int x)) M') : Ev l X uX6_wetDays (d + 12) true 0 0 [.ref 1, .int x1, .int x2] M kr :=
  c6_of (t := 0) (vc153 (d + 8)) (by decide +kernel) hL ⟨⟨rfl, List.mem_singleton.mpr rfl⟩, ⟨⟨rfl, i32_lo _, i32_hi _⟩, ⟨⟨rfl, i32_lo _, i32_hi _⟩, trivial⟩⟩⟩ (fun v M' hv hL' h1 h2 => iV hv (fun x e => e ▸ h x M' hL' h1 h2))
theorem p6_wettest (d : Nat) (hL : LI M) (h : ∀ (x : Int32) (M' : Mm), LI M' → M'.1 = M.1 → kp Kc158.2.1 M M' → kr (some (.int x)) M') : Ev l X uX6_wettest (d + 12) true 0 0 [.ref 1] M kr :=
  c6_of (t := 0) (vc158 (d + 8)) (by decide +kernel) hL ⟨⟨rfl, List.mem_singleton.mpr rfl⟩, trivial⟩ (fun v M' hv hL' h1 h2 => iV hv (fun x e => e ▸ h x M' hL' h1 h2))
theorem p6_sunny (d : Nat) (hL : LI M) (h : ∀ (x : Int32) (M' : Mm), LI M' → M'.1 = M.1 → kp Kc160.2.1 M M' → kr (some (.int x)) M') : Ev l X uX6_sunny (d + 12) true 0 0 [.ref 1] M kr :=
  c6_of (t := 0) (vc160 (d + 9)) (by decide +kernel) hL ⟨⟨rfl, List.mem_singleton.mpr rfl⟩, trivial⟩ (fun v M' hv hL' h1 h2 => iV hv (fun x e => e ▸ h x M' hL' h1 h2))
theorem p6_heaviest (d : Nat) (hL : LI M) (h : ∀ (x : Int32) (M' : Mm), LI M' → M'.1 = M.1 → kp Kc162.2.1 M M' → kr (some (.int x)) M') : Ev l X uX6_heaviest (d + 12) true 0 0 [.ref 1] M kr :=
  c6_of (t := 0) (vc162 (d + 10)) (by decide +kernel) hL ⟨⟨rfl, List.mem_singleton.mpr rfl⟩, trivial⟩ (fun v M' hv hL' h1 h2 => iV hv (fun x e => e ▸ h x M' hL' h1 h2))
theorem p6_fallen (d : Nat) {x1 : Int32} (hL : LI M) (h : ∀ (x : Int32) (M' : Mm), LI M' → M'.1 = M.1 → kp Kc164.2.1 M M' → kr (some (.int x)) M') : Ev l X uX6_fallen (d + 12) true 0 0 [.ref 1, .int x1] M kr :=
  c6_of (t := 0) (vc164 (d + 9)) (by decide +kernel) hL ⟨⟨rfl, List.mem_singleton.mpr rfl⟩, ⟨⟨rfl, i32_lo _, i32_hi _⟩, trivial⟩⟩ (fun v M' hv hL' h1 h2 => iV hv (fun x e => e ▸ h x M' hL' h1 h2))
theorem p6_dropsIf (d : Nat) {x1 x2 x3 : Int32} (hL : LI M) (h : ∀ (x : Int32) (M' : Mm), LI M' → M'.1 = M.1 → kp Kc170.2.1 M M' → kr (some (.int x)) M') : Ev l X uX6_dropsIf (d + 12) true 0 0 [.ref 1, .int x1, .int x2, .int x3] M kr :=
  c6_of (t := 0) (vc170 (d + 8)) (by decide +kernel) hL ⟨⟨rfl, List.mem_singleton.mpr rfl⟩, ⟨⟨rfl, i32_lo _, i32_hi _⟩, ⟨⟨rfl, i32_lo _, i32_hi _⟩, ⟨⟨rfl, i32_lo _, i32_hi _⟩, trivial⟩⟩⟩⟩ (fun v M' hv hL' h1 h2 => iV hv (fun x e => e ▸ h x M' hL' h1 h2))
theorem p6_faceFor (d : Nat) {x1 x2 : Int32} (hL : LI M) (h : ∀ (x : Int32) (M' : Mm), LI M' → M'.1 = M.1 → kp Kc171.2.1 M M' → kr (some (.int x)) M') : Ev l X uX6_faceFor (d + 12) true 0 0 [.ref 1, .int x1, .int x2] M kr :=
  c6_of (t := 0) (vc171 (d + 8)) (by decide +kernel) hL ⟨⟨rfl, List.mem_singleton.mpr rfl⟩, ⟨⟨rfl, i32_lo _, i32_hi _⟩, ⟨⟨rfl, i32_lo _, i32_hi _⟩, trivial⟩⟩⟩ (fun v M' hv hL' h1 h2 => iV hv (fun x e => e ▸ h x M' hL' h1 h2))
theorem p6_match (d : Nat) {x1 : Int32} (hL : LI M) (h : ∀ (x : Int32) (M' : Mm), LI M' → M'.1 = M.1 → kp Kc186.2.1 M M' → kr (some (.int x)) M') : Ev l X uX6_match (d + 12) true 0 0 [.ref 1, .int x1] M kr :=
  c6_of (t := 0) (vc186 (d + 3)) (by decide +kernel) hL ⟨⟨rfl, List.mem_singleton.mpr rfl⟩, ⟨⟨rfl, i32_lo _, i32_hi _⟩, trivial⟩⟩ (fun v M' hv hL' h1 h2 => iV hv (fun x e => e ▸ h x M' hL' h1 h2))
theorem p6_matchDrops (d : Nat) {x1 : Int32} (hL : LI M) (h : ∀ (x : Int32) (M' : Mm), LI M' → M'.1 = M.1 → kp Kc187.2.1 M M' → kr (some (.int x)) M') : Ev l X uX6_matchDrops (d + 12) true 0 0 [.ref 1, .int x1] M kr :=
  c6_of (t := 0) (vc187 (d + 3)) (by decide +kernel) hL ⟨⟨rfl, List.mem_singleton.mpr rfl⟩, ⟨⟨rfl, i32_lo _, i32_hi _⟩, trivial⟩⟩ (fun v M' hv hL' h1 h2 => iV hv (fun x e => e ▸ h x M' hL' h1 h2))
theorem p6_matchAt (d : Nat) {x1 x2 : Int32} (hL : LI M) (h : ∀ (x : Int32) (M' : Mm), LI M' → M'.1 = M.1 → kp Kc188.2.1 M M' → kr (some (.int x)) M') : Ev l X uX6_matchAt (d + 12) true 0 0 [.ref 1, .int x1, .int x2] M kr :=
  c6_of (t := 0) (vc188 (d + 3)) (by decide +kernel) hL ⟨⟨rfl, List.mem_singleton.mpr rfl⟩, ⟨⟨rfl, i32_lo _, i32_hi _⟩, ⟨⟨rfl, i32_lo _, i32_hi _⟩, trivial⟩⟩⟩ (fun v M' hv hL' h1 h2 => iV hv (fun x e => e ▸ h x M' hL' h1 h2))
theorem p6_steps (d : Nat) {x1 x2 : Int32} (hL : LI M) (h : ∀ (x : Int32) (M' : Mm), LI M' → M'.1 = M.1 → kp Kc191.2.1 M M' → kr (some (.int x)) M') : Ev l X uX6_steps (d + 12) true 0 0 [.ref 1, .int x1, .int x2] M kr :=
  c6_of (t := 0) (vc191 (d + 10)) (by decide +kernel) hL ⟨⟨rfl, List.mem_singleton.mpr rfl⟩, ⟨⟨rfl, i32_lo _, i32_hi _⟩, ⟨⟨rfl, i32_lo _, i32_hi _⟩, trivial⟩⟩⟩ (fun v M' hv hL' h1 h2 => iV hv (fun x e => e ▸ h x M' hL' h1 h2))
theorem p6_wets (d : Nat) {x1 x2 : Int32} (hL : LI M) (h : ∀ (x : Int32) (M' : Mm), LI M' → M'.1 = M.1 → kp Kc204.2.1 M M' → kr (some (.int x)) M') : Ev l X uX6_wets (d + 12) true 0 0 [.ref 1, .int x1, .int x2] M kr :=
  c6_of (t := 0) (vc204 (d + 7)) (by decide +kernel) hL ⟨⟨rfl, List.mem_singleton.mpr rfl⟩, ⟨⟨rfl, i32_lo _, i32_hi _⟩, ⟨⟨rfl, i32_lo _, i32_hi _⟩, trivial⟩⟩⟩ (fun v M' hv hL' h1 h2 => iV hv (fun x e => e ▸ h x M' hL' h1 h2))
theorem p6_way (d : Nat) {x1 x2 : Int32} (hL : LI M) (h : ∀ (x : Int32) (M' : Mm), LI M' → M'.1 = M.1 → kp Kc205.2.1 M M' → kr (some (.int x)) M') : Ev l X uX6_way (d + 12) true 0 0 [.ref 1, .int x1, .int x2] M kr :=
  c6_of (t := 0) (vc205 (d + 7)) (by decide +kernel) hL ⟨⟨rfl, List.mem_singleton.mpr rfl⟩, ⟨⟨rfl, i32_lo _, i32_hi _⟩, ⟨⟨rfl, i32_lo _, i32_hi _⟩, trivial⟩⟩⟩ (fun v M' hv hL' h1 h2 => iV hv (fun x e => e ▸ h x M' hL' h1 h2))
theorem p6_wayAt (d : Nat) {x1 x2 x3 : Int32} (hL : LI M) (h : ∀ (x : Int32) (M' : Mm), LI M' → M'.1 = M.1 → kp Kc207.2.1 M M' → kr (some (.int x)) M') : Ev l X uX6_wayAt (d + 12) true 0 0 [.ref 1, .int x1, .int x2, .int x3] M kr :=
  c6_of (t := 0) (vc207 (d + 7)) (by decide +kernel) hL ⟨⟨rfl, List.mem_singleton.mpr rfl⟩, ⟨⟨rfl, i32_lo _, i32_hi _⟩, ⟨⟨rfl, i32_lo _, i32_hi _⟩, ⟨⟨rfl, i32_lo _, i32_hi _⟩, trivial⟩⟩⟩⟩ (fun v M' hv hL' h1 h2 => iV hv (fun x e => e ▸ h x M' hL' h1 h2))
end PUB
