section PUB
variable {l : Launch} {X : Nat × (Nat → Int32)} {M : Mm} {kr : KR}
theorem p6_dryDay (d : Nat) {x1 : Int32} (hL : LI M) (h : ∀ (x : Int32) (M' : Mm), LI M' → M'.1 = M.1 → kp Kc208.2.1 M M' → kr (some (.int x)) M') : Ev l X uX6_dryDay (d + 12) true 0 0 [.ref 1, .int x1] M kr :=
  c6_of (t := 0) (vc208 (d + 9)) (by decide +kernel) hL ⟨⟨rfl, List.mem_singleton.mpr rfl⟩, ⟨⟨rfl, i32_lo _, i32_hi _⟩, trivial⟩⟩ (fun v M' hv hL' h1 h2 => iV hv (fun x e => e ▸ h x M' hL' h1 h2))
theorem p6_gate (d : Nat) (hL : LI M) (h : ∀ (x : Int32) (M' : Mm), LI M' → M'.1 = M.1 → kp Kc210.2.1 M M' → kr (some (.int x)) M') : Ev l X uX6_gate (d + 12) true 0 0 [.ref 1] M kr :=
  c6_of (t := 0) (vc210 (d + 9)) (by decide +kernel) hL ⟨⟨rfl, List.mem_singleton.mpr rfl⟩, trivial⟩ (fun v M' hv hL' h1 h2 => iV hv (fun x e => e ▸ h x M' hL' h1 h2))
theorem p6_fits (d : Nat) (hL : LI M) (h : ∀ (x : Int32) (M' : Mm), LI M' → M'.1 = M.1 → kp Kc217.2.1 M M' → kr (some (.int x)) M') : Ev l X uX6_fits (d + 12) true 0 0 [.ref 1] M kr :=
  c6_of (t := 0) (vc217 (d + 7)) (by decide +kernel) hL ⟨⟨rfl, List.mem_singleton.mpr rfl⟩, trivial⟩ (fun v M' hv hL' h1 h2 => iV hv (fun x e => e ▸ h x M' hL' h1 h2))
theorem p6_fitAt (d : Nat) {x1 : Int32} (hL : LI M) (h : ∀ (x : Int32) (M' : Mm), LI M' → M'.1 = M.1 → kp Kc218.2.1 M M' → kr (some (.int x)) M') : Ev l X uX6_fitAt (d + 12) true 0 0 [.ref 1, .int x1] M kr :=
  c6_of (t := 0) (vc218 (d + 7)) (by decide +kernel) hL ⟨⟨rfl, List.mem_singleton.mpr rfl⟩, ⟨⟨rfl, i32_lo _, i32_hi _⟩, trivial⟩⟩ (fun v M' hv hL' h1 h2 => iV hv (fun x e => e ▸ h x M' hL' h1 h2))
theorem p6_could (d : Nat) (hL : LI M) (h : ∀ (x : Int32) (M' : Mm), LI M' → M'.1 = M.1 → kp Kc220.2.1 M M' → kr (some (.int x)) M') : Ev l X uX6_could (d + 12) true 0 0 [.ref 1] M kr :=
  c6_of (t := 0) (vc220 (d + 7)) (by decide +kernel) hL ⟨⟨rfl, List.mem_singleton.mpr rfl⟩, trivial⟩ (fun v M' hv hL' h1 h2 => iV hv (fun x e => e ▸ h x M' hL' h1 h2))
theorem p6_surely (d : Nat) (hL : LI M) (h : ∀ (x : Int32) (M' : Mm), LI M' → M'.1 = M.1 → kp Kc221.2.1 M M' → kr (some (.int x)) M') : Ev l X uX6_surely (d + 12) true 0 0 [.ref 1] M kr :=
  c6_of (t := 0) (vc221 (d + 7)) (by decide +kernel) hL ⟨⟨rfl, List.mem_singleton.mpr rfl⟩, trivial⟩ (fun v M' hv hL' h1 h2 => iV hv (fun x e => e ▸ h x M' hL' h1 h2))
theorem p6_ask (d : Nat) (hL : LI M) (h : ∀ (x : Int32) (M' : Mm), LI M' → M'.1 = M.1 → kp Kc225.2.1 M M' → kr (some (.int x)) M') : Ev l X uX6_ask (d + 12) true 0 0 [.ref 1] M kr :=
  c6_of (t := 0) (vc225 (d + 7)) (by decide +kernel) hL ⟨⟨rfl, List.mem_singleton.mpr rfl⟩, trivial⟩ (fun v M' hv hL' h1 h2 => iV hv (fun x e => e ▸ h x M' hL' h1 h2))
theorem p6_askLeaves (d : Nat) (hL : LI M) (h : ∀ (x : Int32) (M' : Mm), LI M' → M'.1 = M.1 → kp Kc226.2.1 M M' → kr (some (.int x)) M') : Ev l X uX6_askLeaves (d + 12) true 0 0 [.ref 1] M kr :=
  c6_of (t := 0) (vc226 (d + 7)) (by decide +kernel) hL ⟨⟨rfl, List.mem_singleton.mpr rfl⟩, trivial⟩ (fun v M' hv hL' h1 h2 => iV hv (fun x e => e ▸ h x M' hL' h1 h2))
theorem p6_judge (d : Nat) (hL : LI M) (h : ∀ (x : Int32) (M' : Mm), LI M' → M'.1 = M.1 → kp Kc230.2.1 M M' → kr (some (.int x)) M') : Ev l X uX6_judge (d + 12) true 0 0 [.ref 1] M kr :=
  c6_of (t := 0) (vc230 (d + 9)) (by decide +kernel) hL ⟨⟨rfl, List.mem_singleton.mpr rfl⟩, trivial⟩ (fun v M' hv hL' h1 h2 => iV hv (fun x e => e ▸ h x M' hL' h1 h2))
theorem p6_sulks (d : Nat) {x1 x2 x3 x4 : Int32} (hL : LI M) (h : ∀ (x : Int32) (M' : Mm), LI M' → M'.1 = M.1 → kp Kc235.2.1 M M' → kr (some (.int x)) M') : Ev l X uX6_sulks (d + 12) true 0 0 [.ref 1, .int x1, .int x2, .int x3, .int x4] M kr :=
  c6_of (t := 0) (vc235 (d + 8)) (by decide +kernel) hL ⟨⟨rfl, List.mem_singleton.mpr rfl⟩, ⟨⟨rfl, i32_lo _, i32_hi _⟩, ⟨⟨rfl, i32_lo _, i32_hi _⟩, ⟨⟨rfl, i32_lo _, i32_hi _⟩, ⟨⟨rfl, i32_lo _, i32_hi _⟩, trivial⟩⟩⟩⟩⟩ (fun v M' hv hL' h1 h2 => iV hv (fun x e => e ▸ h x M' hL' h1 h2))
theorem p6_rests (d : Nat) {x1 : Int32} (hL : LI M) (h : ∀ (x : Int32) (M' : Mm), LI M' → M'.1 = M.1 → kp Kc237.2.1 M M' → kr (some (.int x)) M') : Ev l X uX6_rests (d + 12) true 0 0 [.ref 1, .int x1] M kr :=
  c6_of (t := 0) (vc237 (d + 8)) (by decide +kernel) hL ⟨⟨rfl, List.mem_singleton.mpr rfl⟩, ⟨⟨rfl, i32_lo _, i32_hi _⟩, trivial⟩⟩ (fun v M' hv hL' h1 h2 => iV hv (fun x e => e ▸ h x M' hL' h1 h2))
theorem p6_rest (d : Nat) {x1 : Int32} (hL : LI M) (h : ∀ (x : Int32) (M' : Mm), LI M' → M'.1 = M.1 → kp Kc238.2.1 M M' → kr (some (.int x)) M') : Ev l X uX6_rest (d + 12) true 0 0 [.ref 1, .int x1] M kr :=
  c6_of (t := 0) (vc238 (d + 8)) (by decide +kernel) hL ⟨⟨rfl, List.mem_singleton.mpr rfl⟩, ⟨⟨rfl, i32_lo _, i32_hi _⟩, trivial⟩⟩ (fun v M' hv hL' h1 h2 => iV hv (fun x e => e ▸ h x M' hL' h1 h2))
theorem p6_odds (d : Nat) {x1 x2 x3 : Int32} (hL : LI M) (h : ∀ (x : Int64) (M' : Mm), LI M' → M'.1 = M.1 → kp Kc244.2.1 M M' → kr (some (.long x)) M') : Ev l X uX6_odds (d + 12) true 0 0 [.ref 1, .int x1, .int x2, .int x3] M kr :=
  c6_of (t := 1) (vc244 (d + 9)) (by decide +kernel) hL ⟨⟨rfl, List.mem_singleton.mpr rfl⟩, ⟨⟨rfl, i32_lo _, i32_hi _⟩, ⟨⟨rfl, i32_lo _, i32_hi _⟩, ⟨⟨rfl, i32_lo _, i32_hi _⟩, trivial⟩⟩⟩⟩ (fun v M' hv hL' h1 h2 => lV hv (fun x e => e ▸ h x M' hL' h1 h2))
theorem p6_mean (d : Nat) {x1 x2 x3 : Int32} (hL : LI M) (h : ∀ (x : Int64) (M' : Mm), LI M' → M'.1 = M.1 → kp Kc246.2.1 M M' → kr (some (.long x)) M') : Ev l X uX6_mean (d + 12) true 0 0 [.ref 1, .int x1, .int x2, .int x3] M kr :=
  c6_of (t := 1) (vc246 (d + 9)) (by decide +kernel) hL ⟨⟨rfl, List.mem_singleton.mpr rfl⟩, ⟨⟨rfl, i32_lo _, i32_hi _⟩, ⟨⟨rfl, i32_lo _, i32_hi _⟩, ⟨⟨rfl, i32_lo _, i32_hi _⟩, trivial⟩⟩⟩⟩ (fun v M' hv hL' h1 h2 => lV hv (fun x e => e ▸ h x M' hL' h1 h2))
theorem p6_borne (d : Nat) {x1 x2 x3 : Int32} (hL : LI M) (h : ∀ (x : Int32) (M' : Mm), LI M' → M'.1 = M.1 → kp Kc250.2.1 M M' → kr (some (.int x)) M') : Ev l X uX6_borne (d + 12) true 0 0 [.ref 1, .int x1, .int x2, .int x3] M kr :=
  c6_of (t := 0) (vc250 (d + 10)) (by decide +kernel) hL ⟨⟨rfl, List.mem_singleton.mpr rfl⟩, ⟨⟨rfl, i32_lo _, i32_hi _⟩, ⟨⟨rfl, i32_lo _, i32_hi _⟩, ⟨⟨rfl, i32_lo _, i32_hi _⟩, trivial⟩⟩⟩⟩ (fun v M' hv hL' h1 h2 => iV hv (fun x e => e ▸ h x M' hL' h1 h2))
theorem p6_firstWet (d : Nat) {x1 x2 : Int32} (hL : LI M) (h : ∀ (x : Int32) (M' : Mm), LI M' → M'.1 = M.1 → kp Kc252.2.1 M M' → kr (some (.int x)) M') : Ev l X uX6_firstWet (d + 12) true 0 0 [.ref 1, .int x1, .int x2] M kr :=
  c6_of (t := 0) (vc252 (d + 9)) (by decide +kernel) hL ⟨⟨rfl, List.mem_singleton.mpr rfl⟩, ⟨⟨rfl, i32_lo _, i32_hi _⟩, ⟨⟨rfl, i32_lo _, i32_hi _⟩, trivial⟩⟩⟩ (fun v M' hv hL' h1 h2 => iV hv (fun x e => e ▸ h x M' hL' h1 h2))
theorem p6_day (d : Nat) (hL : LI M) (h : ∀ (x : Int32) (M' : Mm), LI M' → M'.1 = M.1 → kp Kc256.2.1 M M' → kr (some (.int x)) M') : Ev l X uX6_day (d + 12) true 0 0 [.ref 1] M kr :=
  c6_of (t := 0) (vc256 (d + 9)) (by decide +kernel) hL ⟨⟨rfl, List.mem_singleton.mpr rfl⟩, trivial⟩ (fun v M' hv hL' h1 h2 => iV hv (fun x e => e ▸ h x M' hL' h1 h2))
theorem p6_give (d : Nat) {x1 x2 : Int32} (hL : LI M) (h : ∀ (x : Int32) (M' : Mm), LI M' → M'.1 = M.1 → kp Kc257.2.1 M M' → kr (some (.int x)) M') : Ev l X uX6_give (d + 12) true 0 0 [.ref 1, .int x1, .int x2] M kr :=
  c6_of (t := 0) (vc257 (d + 9)) (by decide +kernel) hL ⟨⟨rfl, List.mem_singleton.mpr rfl⟩, ⟨⟨rfl, i32_lo _, i32_hi _⟩, ⟨⟨rfl, i32_lo _, i32_hi _⟩, trivial⟩⟩⟩ (fun v M' hv hL' h1 h2 => iV hv (fun x e => e ▸ h x M' hL' h1 h2))
theorem p6_mend (d : Nat) {x1 : Int32} (hL : LI M) (h : ∀ (x : Int32) (M' : Mm), LI M' → M'.1 = M.1 → kp Kc258.2.1 M M' → kr (some (.int x)) M') : Ev l X uX6_mend (d + 12) true 0 0 [.ref 1, .int x1] M kr :=
  c6_of (t := 0) (vc258 (d + 9)) (by decide +kernel) hL ⟨⟨rfl, List.mem_singleton.mpr rfl⟩, ⟨⟨rfl, i32_lo _, i32_hi _⟩, trivial⟩⟩ (fun v M' hv hL' h1 h2 => iV hv (fun x e => e ▸ h x M' hL' h1 h2))
theorem p6_vex (d : Nat) {x1 x2 : Int32} (hL : LI M) (h : ∀ (x : Int32) (M' : Mm), LI M' → M'.1 = M.1 → kp Kc259.2.1 M M' → kr (some (.int x)) M') : Ev l X uX6_vex (d + 12) true 0 0 [.ref 1, .int x1, .int x2] M kr :=
  c6_of (t := 0) (vc259 (d + 9)) (by decide +kernel) hL ⟨⟨rfl, List.mem_singleton.mpr rfl⟩, ⟨⟨rfl, i32_lo _, i32_hi _⟩, ⟨⟨rfl, i32_lo _, i32_hi _⟩, trivial⟩⟩⟩ (fun v M' hv hL' h1 h2 => iV hv (fun x e => e ▸ h x M' hL' h1 h2))
theorem p6_undo (d : Nat) (hL : LI M) (h : ∀ (x : Int32) (M' : Mm), LI M' → M'.1 = M.1 → kp Kc261.2.1 M M' → kr (some (.int x)) M') : Ev l X uX6_undo (d + 12) true 0 0 [.ref 1] M kr :=
  c6_of (t := 0) (vc261 (d + 10)) (by decide +kernel) hL ⟨⟨rfl, List.mem_singleton.mpr rfl⟩, trivial⟩ (fun v M' hv hL' h1 h2 => iV hv (fun x e => e ▸ h x M' hL' h1 h2))
theorem p6_image (d : Nat) (hL : LI M) (h : ∀ (x : Int32) (M' : Mm), LI M' → M'.1 = M.1 → kp Kc263.2.1 M M' → kr (some (.int x)) M') : Ev l X uX6_image (d + 12) true 0 0 [.ref 1] M kr :=
  c6_of (t := 0) (vc263 (d + 10)) (by decide +kernel) hL ⟨⟨rfl, List.mem_singleton.mpr rfl⟩, trivial⟩ (fun v M' hv hL' h1 h2 => iV hv (fun x e => e ▸ h x M' hL' h1 h2))
theorem p6_back (d : Nat) {x1 : Int32} (hL : LI M) (h : ∀ (x : Int32) (M' : Mm), LI M' → M'.1 = M.1 → kp Kc265.2.1 M M' → kr (some (.int x)) M') : Ev l X uX6_back (d + 12) true 0 0 [.ref 1, .int x1] M kr :=
  c6_of (t := 0) (vc265 (d + 10)) (by decide +kernel) hL ⟨⟨rfl, List.mem_singleton.mpr rfl⟩, ⟨⟨rfl, i32_lo _, i32_hi _⟩, trivial⟩⟩ (fun v M' hv hL' h1 h2 => iV hv (fun x e => e ▸ h x M' hL' h1 h2))
theorem p6_size (d : Nat) {x1 : Int32} (hL : LI M) (h : ∀ (x : Int32) (M' : Mm), LI M' → M'.1 = M.1 → kp Kc268.2.1 M M' → kr (some (.int x)) M') : Ev l X uX6_size (d + 12) true 0 0 [.ref 1, .int x1] M kr :=
  c6_of (t := 0) (vc268 (d + 10)) (by decide +kernel) hL ⟨⟨rfl, List.mem_singleton.mpr rfl⟩, ⟨⟨rfl, i32_lo _, i32_hi _⟩, trivial⟩⟩ (fun v M' hv hL' h1 h2 => iV hv (fun x e => e ▸ h x M' hL' h1 h2))
theorem p6_trouble (d : Nat) (hL : LI M) (h : ∀ (x : Int32) (M' : Mm), LI M' → M'.1 = M.1 → kp Kc269.2.1 M M' → kr (some (.int x)) M') : Ev l X uX6_trouble (d + 12) true 0 0 [.ref 1] M kr :=
  c6_of (t := 0) (vc269 (d + 12)) (by decide +kernel) hL ⟨⟨rfl, List.mem_singleton.mpr rfl⟩, trivial⟩ (fun v M' hv hL' h1 h2 => iV hv (fun x e => e ▸ h x M' hL' h1 h2))
end PUB
