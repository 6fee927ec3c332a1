/-! the trouble at a call's end is no 4 -/
section TRB
variable {l : Launch} {X : Nat × (Nat → Int32)} {M M' : Mm} {kr : KR}
def trp (n b : Nat) (ps : List Po) : Bool := ps.all (fun p => p.2.2.any (fun f => Nat.beq f.1 n && (Nat.beq f.2.1 b && (Nat.beq f.2.2.1 0 && (decide (f.2.2.2.2.1 < 4) || decide (4 < f.2.2.2.1))))))
theorem trp_ok {n b : Nat} {ps : List Po} {av : List Value} {r : Option Value} (h : trp n b ps = true) (hp : gps av r M ps) : ¬ mI M n b = 4 := by
  obtain ⟨p, hm, -, -, h3⟩ := hp
  obtain ⟨f, hf, q⟩ := List.any_eq_true.mp (List.all_eq_true.mp h p hm)
  obtain ⟨q1, q⟩ := andT q
  obtain ⟨q2, q⟩ := andT q
  obtain ⟨q3, q⟩ := andT q
  have g := h3 f hf
  unfold gf at g
  rw [Nat.eq_of_beq_eq_true q1, Nat.eq_of_beq_eq_true q2, Nat.eq_of_beq_eq_true q3] at g
  have g : f.2.2.1 = 0 ∧ f.2.2.2.1 ≤ (mI M n b).toInt ∧ (mI M n b).toInt ≤ f.2.2.2.2.1 := g
  intro z
  rw [z] at g
  have e : (4 : Int32).toInt = 4 := rfl
  rw [e] at g
  rcases Bool.or_eq_true_iff.mp q with q | q
  · have := of_decide_eq_true q; omega
  · have := of_decide_eq_true q; omega
theorem c6t_of {K : Con} {dd t : Nat} (hv : Vc l X U0 Pt8 0 dd K) (hc : ck6 t K = true) (ht : trp 1 13 K.2.2 = true) {av : List Value} (hL : LI M) (hb : gbs av K.1.2.1) (h : ∀ v M', rki v t → LI M' → M'.1 = M.1 → kp K.2.1 M M' → ¬ mI M' 1 13 = 4 → kr (some v) M') : Ev l X (U0 K.1.1) dd true 0 0 av M kr := by
  obtain ⟨c1, c2⟩ := andT hc
  obtain ⟨c2, c3⟩ := andT c2
  obtain ⟨c3, c4⟩ := andT c3
  obtain ⟨c4, c5⟩ := andT c4
  have n1 : inm K.2.1 2 1 = false := by
    cases hq : inm K.2.1 2 1 with
    | false => rfl
    | true => rw [hq] at c2; cases c2
  have n2 : inm K.2.1 150 2 = false := by
    cases hq : inm K.2.1 150 2 with
    | false => rfl
    | true => rw [hq] at c3; cases c3
  refine hv av M kr hL.1 (LI_e hL) hb (fun f hf => by rw [List.isEmpty_iff.mp c5] at hf; exact absurd hf List.not_mem_nil) (fun r M' hJ hp => ?_)
  obtain ⟨v, rfl, hk⟩ := posts_ok c4 hp
  obtain ⟨t0, t1, t2, t3⟩ := hL.2.2
  exact h v M' hk ⟨hJ.2.1, RefI_keep hL.2.1 hJ.2.1 hJ.2.2.1 c1, t0, t1, by rw [(hJ.2.2.1 2 1 n1).1]; exact t2, by rw [(hJ.2.2.1 150 2 n2).1]; exact t3⟩ hJ.1 hJ.2.2.1 (trp_ok ht hp)
theorem r7t_of1 {K : Con} {dd t p : Nat} (hp : p < 7) (hv : Vc l X U0 (mkP (rwx p)) 0 dd K) (hc : ck7 t K = true) (htr : trp 150 11 K.2.2 = true) {av : List Value} (h8 : Iv Pt8 M) (hI : Iv (mkP (rwx p)) M) (ht : ∃ t : Nat, t ≤ 900 ∧ mI M 2 1 = nI t ∧ mI M 150 2 = nI t) (hb : gbs av K.1.2.1) (h : ∀ v M', rki v t → LI M' → M'.1 = M.1 → kp K.2.1 M M' → ¬ mI M' 150 11 = 4 → kr (some v) M') : Ev l X (U0 K.1.1) dd true 0 0 av M kr := by
  obtain ⟨c1, c2⟩ := andT hc
  obtain ⟨c2, c3⟩ := andT c2
  obtain ⟨c3, c4⟩ := andT c3
  obtain ⟨c4, c5⟩ := andT c4
  have n1 : inm K.2.1 2 1 = false := by
    cases hq : inm K.2.1 2 1 with
    | false => rfl
    | true => rw [hq] at c2; cases c2
  have n2 : inm K.2.1 150 2 = false := by
    cases hq : inm K.2.1 150 2 with
    | false => rfl
    | true => rw [hq] at c3; cases c3
  have hL : LI M := ⟨h8, ⟨p, hp, hI⟩, ht⟩
  refine hv av M kr hI (LI_e hL) hb (fun f hf => by rw [List.isEmpty_iff.mp c5] at hf; exact absurd hf List.not_mem_nil) (fun r M' hJ hp' => ?_)
  obtain ⟨v, rfl, hk⟩ := posts_ok c4 hp'
  obtain ⟨t0, t1, t2, t3⟩ := ht
  exact h v M' hk ⟨Iv_keep h8 hJ.2.1 hJ.2.2.1 c1, ⟨p, hp, hJ.2.1⟩, t0, t1, by rw [(hJ.2.2.1 2 1 n1).1]; exact t2, by rw [(hJ.2.2.1 150 2 n2).1]; exact t3⟩ hJ.1 hJ.2.2.1 (trp_ok htr hp')
theorem p6t_face (d : Nat) {x1 x2 : Int32} (hL : LI M) (h : ∀ (x : Int32) (M' : Mm), LI M' → M'.1 = M.1 → kp Kc1388.2.1 M M' → ¬ mI M' 1 13 = 4 → kr (some (.int x)) M') : Ev l X uX6_face (d + 12) true 0 0 [.ref 1, .int x1, .int x2] M kr :=
  c6t_of (t := 0) (vc1388 (d + 11)) (by decide +kernel) (by decide +kernel) hL ⟨⟨rfl, List.mem_singleton.mpr rfl⟩, ⟨⟨rfl, i32_lo _, i32_hi _⟩, ⟨⟨rfl, i32_lo _, i32_hi _⟩, trivial⟩⟩⟩ (fun v M' hv hL' h1 h2 h3 => iV hv (fun x e => e ▸ h x M' hL' h1 h2 h3))
theorem p6t_canon (d : Nat) {x1 x2 : Int32} (hL : LI M) (h : ∀ (x : Int32) (M' : Mm), LI M' → M'.1 = M.1 → kp Kc1389.2.1 M M' → ¬ mI M' 1 13 = 4 → kr (some (.int x)) M') : Ev l X uX6_canon (d + 12) true 0 0 [.ref 1, .int x1, .int x2] M kr :=
  c6t_of (t := 0) (vc1389 (d + 11)) (by decide +kernel) (by decide +kernel) hL ⟨⟨rfl, List.mem_singleton.mpr rfl⟩, ⟨⟨rfl, i32_lo _, i32_hi _⟩, ⟨⟨rfl, i32_lo _, i32_hi _⟩, trivial⟩⟩⟩ (fun v M' hv hL' h1 h2 h3 => iV hv (fun x e => e ▸ h x M' hL' h1 h2 h3))
theorem p6t_cell (d : Nat) {x1 x2 : Int32} (hL : LI M) (h : ∀ (x : Int32) (M' : Mm), LI M' → M'.1 = M.1 → kp Kc1390.2.1 M M' → ¬ mI M' 1 13 = 4 → kr (some (.int x)) M') : Ev l X uX6_cell (d + 12) true 0 0 [.ref 1, .int x1, .int x2] M kr :=
  c6t_of (t := 0) (vc1390 (d + 10)) (by decide +kernel) (by decide +kernel) hL ⟨⟨rfl, List.mem_singleton.mpr rfl⟩, ⟨⟨rfl, i32_lo _, i32_hi _⟩, ⟨⟨rfl, i32_lo _, i32_hi _⟩, trivial⟩⟩⟩ (fun v M' hv hL' h1 h2 h3 => iV hv (fun x e => e ▸ h x M' hL' h1 h2 h3))
theorem p6t_burden (d : Nat) (hL : LI M) (h : ∀ (x : Int32) (M' : Mm), LI M' → M'.1 = M.1 → kp Kc1391.2.1 M M' → ¬ mI M' 1 13 = 4 → kr (some (.int x)) M') : Ev l X uX6_burden (d + 12) true 0 0 [.ref 1] M kr :=
  c6t_of (t := 0) (vc1391 (d + 11)) (by decide +kernel) (by decide +kernel) hL ⟨⟨rfl, List.mem_singleton.mpr rfl⟩, trivial⟩ (fun v M' hv hL' h1 h2 h3 => iV hv (fun x e => e ▸ h x M' hL' h1 h2 h3))
theorem p6t_bears (d : Nat) {x1 x2 : Int32} (hL : LI M) (h : ∀ (x : Int32) (M' : Mm), LI M' → M'.1 = M.1 → kp Kc1395.2.1 M M' → ¬ mI M' 1 13 = 4 → kr (some (.int x)) M') : Ev l X uX6_bears (d + 12) true 0 0 [.ref 1, .int x1, .int x2] M kr :=
  c6t_of (t := 0) (vc1395 (d + 9)) (by decide +kernel) (by decide +kernel) hL ⟨⟨rfl, List.mem_singleton.mpr rfl⟩, ⟨⟨rfl, i32_lo _, i32_hi _⟩, ⟨⟨rfl, i32_lo _, i32_hi _⟩, trivial⟩⟩⟩ (fun v M' hv hL' h1 h2 h3 => iV hv (fun x e => e ▸ h x M' hL' h1 h2 h3))
theorem p6t_holds (d : Nat) {x1 x2 : Int32} (hL : LI M) (h : ∀ (x : Int32) (M' : Mm), LI M' → M'.1 = M.1 → kp Kc1396.2.1 M M' → ¬ mI M' 1 13 = 4 → kr (some (.int x)) M') : Ev l X uX6_holds (d + 12) true 0 0 [.ref 1, .int x1, .int x2] M kr :=
  c6t_of (t := 0) (vc1396 (d + 9)) (by decide +kernel) (by decide +kernel) hL ⟨⟨rfl, List.mem_singleton.mpr rfl⟩, ⟨⟨rfl, i32_lo _, i32_hi _⟩, ⟨⟨rfl, i32_lo _, i32_hi _⟩, trivial⟩⟩⟩ (fun v M' hv hL' h1 h2 h3 => iV hv (fun x e => e ▸ h x M' hL' h1 h2 h3))
theorem p6t_drops (d : Nat) {x1 x2 : Int32} (hL : LI M) (h : ∀ (x : Int32) (M' : Mm), LI M' → M'.1 = M.1 → kp Kc1397.2.1 M M' → ¬ mI M' 1 13 = 4 → kr (some (.int x)) M') : Ev l X uX6_drops (d + 12) true 0 0 [.ref 1, .int x1, .int x2] M kr :=
  c6t_of (t := 0) (vc1397 (d + 9)) (by decide +kernel) (by decide +kernel) hL ⟨⟨rfl, List.mem_singleton.mpr rfl⟩, ⟨⟨rfl, i32_lo _, i32_hi _⟩, ⟨⟨rfl, i32_lo _, i32_hi _⟩, trivial⟩⟩⟩ (fun v M' hv hL' h1 h2 h3 => iV hv (fun x e => e ▸ h x M' hL' h1 h2 h3))
theorem p6t_dropsIn (d : Nat) {x1 : Int32} (hL : LI M) (h : ∀ (x : Int32) (M' : Mm), LI M' → M'.1 = M.1 → kp Kc1398.2.1 M M' → ¬ mI M' 1 13 = 4 → kr (some (.int x)) M') : Ev l X uX6_dropsIn (d + 12) true 0 0 [.ref 1, .int x1] M kr :=
  c6t_of (t := 0) (vc1398 (d + 10)) (by decide +kernel) (by decide +kernel) hL ⟨⟨rfl, List.mem_singleton.mpr rfl⟩, ⟨⟨rfl, i32_lo _, i32_hi _⟩, trivial⟩⟩ (fun v M' hv hL' h1 h2 h3 => iV hv (fun x e => e ▸ h x M' hL' h1 h2 h3))
theorem p6t_fallsIn (d : Nat) {x1 : Int32} (hL : LI M) (h : ∀ (x : Int32) (M' : Mm), LI M' → M'.1 = M.1 → kp Kc1399.2.1 M M' → ¬ mI M' 1 13 = 4 → kr (some (.int x)) M') : Ev l X uX6_fallsIn (d + 12) true 0 0 [.ref 1, .int x1] M kr :=
  c6t_of (t := 0) (vc1399 (d + 10)) (by decide +kernel) (by decide +kernel) hL ⟨⟨rfl, List.mem_singleton.mpr rfl⟩, ⟨⟨rfl, i32_lo _, i32_hi _⟩, trivial⟩⟩ (fun v M' hv hL' h1 h2 h3 => iV hv (fun x e => e ▸ h x M' hL' h1 h2 h3))
theorem p6t_wet (d : Nat) {x1 : Int32} (hL : LI M) (h : ∀ (x : Int32) (M' : Mm), LI M' → M'.1 = M.1 → kp Kc1402.2.1 M M' → ¬ mI M' 1 13 = 4 → kr (some (.int x)) M') : Ev l X uX6_wet (d + 12) true 0 0 [.ref 1, .int x1] M kr :=
  c6t_of (t := 0) (vc1402 (d + 9)) (by decide +kernel) (by decide +kernel) hL ⟨⟨rfl, List.mem_singleton.mpr rfl⟩, ⟨⟨rfl, i32_lo _, i32_hi _⟩, trivial⟩⟩ (fun v M' hv hL' h1 h2 h3 => iV hv (fun x e => e ▸ h x M' hL' h1 h2 h3))
theorem p6t_wetDays (d : Nat) {x1 x2 : Int32} (hL : LI M) (h : ∀ (x : Int32) (M' : Mm), LI M' → M'.1 = M.1 → kp Kc1403.2.1 M M' → ¬ mI M' 1 13 = 4 → kr (some (.int x)) M') : Ev l X uX6_wetDays (d + 12) true 0 0 [.ref 1, .int x1, .int x2] M kr :=
  c6t_of (t := 0) (vc1403 (d + 8)) (by decide +kernel) (by decide +kernel) hL ⟨⟨rfl, List.mem_singleton.mpr rfl⟩, ⟨⟨rfl, i32_lo _, i32_hi _⟩, ⟨⟨rfl, i32_lo _, i32_hi _⟩, trivial⟩⟩⟩ (fun v M' hv hL' h1 h2 h3 => iV hv (fun x e => e ▸ h x M' hL' h1 h2 h3))
theorem p6t_wettest (d : Nat) (hL : LI M) (h : ∀ (x : Int32) (M' : Mm), LI M' → M'.1 = M.1 → kp Kc1404.2.1 M M' → ¬ mI M' 1 13 = 4 → kr (some (.int x)) M') : Ev l X uX6_wettest (d + 12) true 0 0 [.ref 1] M kr :=
  c6t_of (t := 0) (vc1404 (d + 8)) (by decide +kernel) (by decide +kernel) hL ⟨⟨rfl, List.mem_singleton.mpr rfl⟩, trivial⟩ (fun v M' hv hL' h1 h2 h3 => iV hv (fun x e => e ▸ h x M' hL' h1 h2 h3))
theorem p6t_sunny (d : Nat) (hL : LI M) (h : ∀ (x : Int32) (M' : Mm), LI M' → M'.1 = M.1 → kp Kc1405.2.1 M M' → ¬ mI M' 1 13 = 4 → kr (some (.int x)) M') : Ev l X uX6_sunny (d + 12) true 0 0 [.ref 1] M kr :=
  c6t_of (t := 0) (vc1405 (d + 9)) (by decide +kernel) (by decide +kernel) hL ⟨⟨rfl, List.mem_singleton.mpr rfl⟩, trivial⟩ (fun v M' hv hL' h1 h2 h3 => iV hv (fun x e => e ▸ h x M' hL' h1 h2 h3))
theorem p6t_heaviest (d : Nat) (hL : LI M) (h : ∀ (x : Int32) (M' : Mm), LI M' → M'.1 = M.1 → kp Kc1406.2.1 M M' → ¬ mI M' 1 13 = 4 → kr (some (.int x)) M') : Ev l X uX6_heaviest (d + 12) true 0 0 [.ref 1] M kr :=
  c6t_of (t := 0) (vc1406 (d + 10)) (by decide +kernel) (by decide +kernel) hL ⟨⟨rfl, List.mem_singleton.mpr rfl⟩, trivial⟩ (fun v M' hv hL' h1 h2 h3 => iV hv (fun x e => e ▸ h x M' hL' h1 h2 h3))
theorem p6t_fallen (d : Nat) {x1 : Int32} (hL : LI M) (h : ∀ (x : Int32) (M' : Mm), LI M' → M'.1 = M.1 → kp Kc1408.2.1 M M' → ¬ mI M' 1 13 = 4 → kr (some (.int x)) M') : Ev l X uX6_fallen (d + 12) true 0 0 [.ref 1, .int x1] M kr :=
  c6t_of (t := 0) (vc1408 (d + 9)) (by decide +kernel) (by decide +kernel) hL ⟨⟨rfl, List.mem_singleton.mpr rfl⟩, ⟨⟨rfl, i32_lo _, i32_hi _⟩, trivial⟩⟩ (fun v M' hv hL' h1 h2 h3 => iV hv (fun x e => e ▸ h x M' hL' h1 h2 h3))
theorem p6t_dropsIf (d : Nat) {x1 x2 x3 : Int32} (hL : LI M) (h : ∀ (x : Int32) (M' : Mm), LI M' → M'.1 = M.1 → kp Kc1410.2.1 M M' → ¬ mI M' 1 13 = 4 → kr (some (.int x)) M') : Ev l X uX6_dropsIf (d + 12) true 0 0 [.ref 1, .int x1, .int x2, .int x3] M kr :=
  c6t_of (t := 0) (vc1410 (d + 8)) (by decide +kernel) (by decide +kernel) hL ⟨⟨rfl, List.mem_singleton.mpr rfl⟩, ⟨⟨rfl, i32_lo _, i32_hi _⟩, ⟨⟨rfl, i32_lo _, i32_hi _⟩, ⟨⟨rfl, i32_lo _, i32_hi _⟩, trivial⟩⟩⟩⟩ (fun v M' hv hL' h1 h2 h3 => iV hv (fun x e => e ▸ h x M' hL' h1 h2 h3))
theorem p6t_faceFor (d : Nat) {x1 x2 : Int32} (hL : LI M) (h : ∀ (x : Int32) (M' : Mm), LI M' → M'.1 = M.1 → kp Kc1411.2.1 M M' → ¬ mI M' 1 13 = 4 → kr (some (.int x)) M') : Ev l X uX6_faceFor (d + 12) true 0 0 [.ref 1, .int x1, .int x2] M kr :=
  c6t_of (t := 0) (vc1411 (d + 8)) (by decide +kernel) (by decide +kernel) hL ⟨⟨rfl, List.mem_singleton.mpr rfl⟩, ⟨⟨rfl, i32_lo _, i32_hi _⟩, ⟨⟨rfl, i32_lo _, i32_hi _⟩, trivial⟩⟩⟩ (fun v M' hv hL' h1 h2 h3 => iV hv (fun x e => e ▸ h x M' hL' h1 h2 h3))
theorem p6t_match (d : Nat) {x1 : Int32} (hL : LI M) (h : ∀ (x : Int32) (M' : Mm), LI M' → M'.1 = M.1 → kp Kc1414.2.1 M M' → ¬ mI M' 1 13 = 4 → kr (some (.int x)) M') : Ev l X uX6_match (d + 12) true 0 0 [.ref 1, .int x1] M kr :=
  c6t_of (t := 0) (vc1414 (d + 3)) (by decide +kernel) (by decide +kernel) hL ⟨⟨rfl, List.mem_singleton.mpr rfl⟩, ⟨⟨rfl, i32_lo _, i32_hi _⟩, trivial⟩⟩ (fun v M' hv hL' h1 h2 h3 => iV hv (fun x e => e ▸ h x M' hL' h1 h2 h3))
theorem p6t_matchDrops (d : Nat) {x1 : Int32} (hL : LI M) (h : ∀ (x : Int32) (M' : Mm), LI M' → M'.1 = M.1 → kp Kc1415.2.1 M M' → ¬ mI M' 1 13 = 4 → kr (some (.int x)) M') : Ev l X uX6_matchDrops (d + 12) true 0 0 [.ref 1, .int x1] M kr :=
  c6t_of (t := 0) (vc1415 (d + 3)) (by decide +kernel) (by decide +kernel) hL ⟨⟨rfl, List.mem_singleton.mpr rfl⟩, ⟨⟨rfl, i32_lo _, i32_hi _⟩, trivial⟩⟩ (fun v M' hv hL' h1 h2 h3 => iV hv (fun x e => e ▸ h x M' hL' h1 h2 h3))
theorem p6t_matchAt (d : Nat) {x1 x2 : Int32} (hL : LI M) (h : ∀ (x : Int32) (M' : Mm), LI M' → M'.1 = M.1 → kp Kc1416.2.1 M M' → ¬ mI M' 1 13 = 4 → kr (some (.int x)) M') : Ev l X uX6_matchAt (d + 12) true 0 0 [.ref 1, .int x1, .int x2] M kr :=
  c6t_of (t := 0) (vc1416 (d + 3)) (by decide +kernel) (by decide +kernel) hL ⟨⟨rfl, List.mem_singleton.mpr rfl⟩, ⟨⟨rfl, i32_lo _, i32_hi _⟩, ⟨⟨rfl, i32_lo _, i32_hi _⟩, trivial⟩⟩⟩ (fun v M' hv hL' h1 h2 h3 => iV hv (fun x e => e ▸ h x M' hL' h1 h2 h3))
theorem p6t_steps (d : Nat) {x1 x2 : Int32} (hL : LI M) (h : ∀ (x : Int32) (M' : Mm), LI M' → M'.1 = M.1 → kp Kc1417.2.1 M M' → ¬ mI M' 1 13 = 4 → kr (some (.int x)) M') : Ev l X uX6_steps (d + 12) true 0 0 [.ref 1, .int x1, .int x2] M kr :=
  c6t_of (t := 0) (vc1417 (d + 10)) (by decide +kernel) (by decide +kernel) hL ⟨⟨rfl, List.mem_singleton.mpr rfl⟩, ⟨⟨rfl, i32_lo _, i32_hi _⟩, ⟨⟨rfl, i32_lo _, i32_hi _⟩, trivial⟩⟩⟩ (fun v M' hv hL' h1 h2 h3 => iV hv (fun x e => e ▸ h x M' hL' h1 h2 h3))
theorem p6t_wets (d : Nat) {x1 x2 : Int32} (hL : LI M) (h : ∀ (x : Int32) (M' : Mm), LI M' → M'.1 = M.1 → kp Kc1419.2.1 M M' → ¬ mI M' 1 13 = 4 → kr (some (.int x)) M') : Ev l X uX6_wets (d + 12) true 0 0 [.ref 1, .int x1, .int x2] M kr :=
  c6t_of (t := 0) (vc1419 (d + 7)) (by decide +kernel) (by decide +kernel) hL ⟨⟨rfl, List.mem_singleton.mpr rfl⟩, ⟨⟨rfl, i32_lo _, i32_hi _⟩, ⟨⟨rfl, i32_lo _, i32_hi _⟩, trivial⟩⟩⟩ (fun v M' hv hL' h1 h2 h3 => iV hv (fun x e => e ▸ h x M' hL' h1 h2 h3))
theorem p6t_way (d : Nat) {x1 x2 : Int32} (hL : LI M) (h : ∀ (x : Int32) (M' : Mm), LI M' → M'.1 = M.1 → kp Kc1420.2.1 M M' → ¬ mI M' 1 13 = 4 → kr (some (.int x)) M') : Ev l X uX6_way (d + 12) true 0 0 [.ref 1, .int x1, .int x2] M kr :=
  c6t_of (t := 0) (vc1420 (d + 7)) (by decide +kernel) (by decide +kernel) hL ⟨⟨rfl, List.mem_singleton.mpr rfl⟩, ⟨⟨rfl, i32_lo _, i32_hi _⟩, ⟨⟨rfl, i32_lo _, i32_hi _⟩, trivial⟩⟩⟩ (fun v M' hv hL' h1 h2 h3 => iV hv (fun x e => e ▸ h x M' hL' h1 h2 h3))
theorem p6t_wayAt (d : Nat) {x1 x2 x3 : Int32} (hL : LI M) (h : ∀ (x : Int32) (M' : Mm), LI M' → M'.1 = M.1 → kp Kc1421.2.1 M M' → ¬ mI M' 1 13 = 4 → kr (some (.int x)) M') : Ev l X uX6_wayAt (d + 12) true 0 0 [.ref 1, .int x1, .int x2, .int x3] M kr :=
  c6t_of (t := 0) (vc1421 (d + 7)) (by decide +kernel) (by decide +kernel) hL ⟨⟨rfl, List.mem_singleton.mpr rfl⟩, ⟨⟨rfl, i32_lo _, i32_hi _⟩, ⟨⟨rfl, i32_lo _, i32_hi _⟩, ⟨⟨rfl, i32_lo _, i32_hi _⟩, trivial⟩⟩⟩⟩ (fun v M' hv hL' h1 h2 h3 => iV hv (fun x e => e ▸ h x M' hL' h1 h2 h3))
theorem p6t_dryDay (d : Nat) {x1 : Int32} (hL : LI M) (h : ∀ (x : Int32) (M' : Mm), LI M' → M'.1 = M.1 → kp Kc1422.2.1 M M' → ¬ mI M' 1 13 = 4 → kr (some (.int x)) M') : Ev l X uX6_dryDay (d + 12) true 0 0 [.ref 1, .int x1] M kr :=
  c6t_of (t := 0) (vc1422 (d + 9)) (by decide +kernel) (by decide +kernel) hL ⟨⟨rfl, List.mem_singleton.mpr rfl⟩, ⟨⟨rfl, i32_lo _, i32_hi _⟩, trivial⟩⟩ (fun v M' hv hL' h1 h2 h3 => iV hv (fun x e => e ▸ h x M' hL' h1 h2 h3))
theorem p6t_gate (d : Nat) (hL : LI M) (h : ∀ (x : Int32) (M' : Mm), LI M' → M'.1 = M.1 → kp Kc1423.2.1 M M' → ¬ mI M' 1 13 = 4 → kr (some (.int x)) M') : Ev l X uX6_gate (d + 12) true 0 0 [.ref 1] M kr :=
  c6t_of (t := 0) (vc1423 (d + 9)) (by decide +kernel) (by decide +kernel) hL ⟨⟨rfl, List.mem_singleton.mpr rfl⟩, trivial⟩ (fun v M' hv hL' h1 h2 h3 => iV hv (fun x e => e ▸ h x M' hL' h1 h2 h3))
theorem p6t_fits (d : Nat) (hL : LI M) (h : ∀ (x : Int32) (M' : Mm), LI M' → M'.1 = M.1 → kp Kc1424.2.1 M M' → ¬ mI M' 1 13 = 4 → kr (some (.int x)) M') : Ev l X uX6_fits (d + 12) true 0 0 [.ref 1] M kr :=
  c6t_of (t := 0) (vc1424 (d + 7)) (by decide +kernel) (by decide +kernel) hL ⟨⟨rfl, List.mem_singleton.mpr rfl⟩, trivial⟩ (fun v M' hv hL' h1 h2 h3 => iV hv (fun x e => e ▸ h x M' hL' h1 h2 h3))
theorem p6t_fitAt (d : Nat) {x1 : Int32} (hL : LI M) (h : ∀ (x : Int32) (M' : Mm), LI M' → M'.1 = M.1 → kp Kc1425.2.1 M M' → ¬ mI M' 1 13 = 4 → kr (some (.int x)) M') : Ev l X uX6_fitAt (d + 12) true 0 0 [.ref 1, .int x1] M kr :=
  c6t_of (t := 0) (vc1425 (d + 7)) (by decide +kernel) (by decide +kernel) hL ⟨⟨rfl, List.mem_singleton.mpr rfl⟩, ⟨⟨rfl, i32_lo _, i32_hi _⟩, trivial⟩⟩ (fun v M' hv hL' h1 h2 h3 => iV hv (fun x e => e ▸ h x M' hL' h1 h2 h3))
theorem p6t_could (d : Nat) (hL : LI M) (h : ∀ (x : Int32) (M' : Mm), LI M' → M'.1 = M.1 → kp Kc1426.2.1 M M' → ¬ mI M' 1 13 = 4 → kr (some (.int x)) M') : Ev l X uX6_could (d + 12) true 0 0 [.ref 1] M kr :=
  c6t_of (t := 0) (vc1426 (d + 7)) (by decide +kernel) (by decide +kernel) hL ⟨⟨rfl, List.mem_singleton.mpr rfl⟩, trivial⟩ (fun v M' hv hL' h1 h2 h3 => iV hv (fun x e => e ▸ h x M' hL' h1 h2 h3))
theorem p6t_surely (d : Nat) (hL : LI M) (h : ∀ (x : Int32) (M' : Mm), LI M' → M'.1 = M.1 → kp Kc1427.2.1 M M' → ¬ mI M' 1 13 = 4 → kr (some (.int x)) M') : Ev l X uX6_surely (d + 12) true 0 0 [.ref 1] M kr :=
  c6t_of (t := 0) (vc1427 (d + 7)) (by decide +kernel) (by decide +kernel) hL ⟨⟨rfl, List.mem_singleton.mpr rfl⟩, trivial⟩ (fun v M' hv hL' h1 h2 h3 => iV hv (fun x e => e ▸ h x M' hL' h1 h2 h3))
theorem p6t_ask (d : Nat) (hL : LI M) (h : ∀ (x : Int32) (M' : Mm), LI M' → M'.1 = M.1 → kp Kc1428.2.1 M M' → ¬ mI M' 1 13 = 4 → kr (some (.int x)) M') : Ev l X uX6_ask (d + 12) true 0 0 [.ref 1] M kr :=
  c6t_of (t := 0) (vc1428 (d + 7)) (by decide +kernel) (by decide +kernel) hL ⟨⟨rfl, List.mem_singleton.mpr rfl⟩, trivial⟩ (fun v M' hv hL' h1 h2 h3 => iV hv (fun x e => e ▸ h x M' hL' h1 h2 h3))
theorem p6t_askLeaves (d : Nat) (hL : LI M) (h : ∀ (x : Int32) (M' : Mm), LI M' → M'.1 = M.1 → kp Kc1429.2.1 M M' → ¬ mI M' 1 13 = 4 → kr (some (.int x)) M') : Ev l X uX6_askLeaves (d + 12) true 0 0 [.ref 1] M kr :=
  c6t_of (t := 0) (vc1429 (d + 7)) (by decide +kernel) (by decide +kernel) hL ⟨⟨rfl, List.mem_singleton.mpr rfl⟩, trivial⟩ (fun v M' hv hL' h1 h2 h3 => iV hv (fun x e => e ▸ h x M' hL' h1 h2 h3))
theorem p6t_judge (d : Nat) (hL : LI M) (h : ∀ (x : Int32) (M' : Mm), LI M' → M'.1 = M.1 → kp Kc1430.2.1 M M' → ¬ mI M' 1 13 = 4 → kr (some (.int x)) M') : Ev l X uX6_judge (d + 12) true 0 0 [.ref 1] M kr :=
  c6t_of (t := 0) (vc1430 (d + 9)) (by decide +kernel) (by decide +kernel) hL ⟨⟨rfl, List.mem_singleton.mpr rfl⟩, trivial⟩ (fun v M' hv hL' h1 h2 h3 => iV hv (fun x e => e ▸ h x M' hL' h1 h2 h3))
theorem p6t_sulks (d : Nat) {x1 x2 x3 x4 : Int32} (hL : LI M) (h : ∀ (x : Int32) (M' : Mm), LI M' → M'.1 = M.1 → kp Kc1434.2.1 M M' → ¬ mI M' 1 13 = 4 → kr (some (.int x)) M') : Ev l X uX6_sulks (d + 12) true 0 0 [.ref 1, .int x1, .int x2, .int x3, .int x4] M kr :=
  c6t_of (t := 0) (vc1434 (d + 8)) (by decide +kernel) (by decide +kernel) hL ⟨⟨rfl, List.mem_singleton.mpr rfl⟩, ⟨⟨rfl, i32_lo _, i32_hi _⟩, ⟨⟨rfl, i32_lo _, i32_hi _⟩, ⟨⟨rfl, i32_lo _, i32_hi _⟩, ⟨⟨rfl, i32_lo _, i32_hi _⟩, trivial⟩⟩⟩⟩⟩ (fun v M' hv hL' h1 h2 h3 => iV hv (fun x e => e ▸ h x M' hL' h1 h2 h3))
theorem p6t_rests (d : Nat) {x1 : Int32} (hL : LI M) (h : ∀ (x : Int32) (M' : Mm), LI M' → M'.1 = M.1 → kp Kc1435.2.1 M M' → ¬ mI M' 1 13 = 4 → kr (some (.int x)) M') : Ev l X uX6_rests (d + 12) true 0 0 [.ref 1, .int x1] M kr :=
  c6t_of (t := 0) (vc1435 (d + 8)) (by decide +kernel) (by decide +kernel) hL ⟨⟨rfl, List.mem_singleton.mpr rfl⟩, ⟨⟨rfl, i32_lo _, i32_hi _⟩, trivial⟩⟩ (fun v M' hv hL' h1 h2 h3 => iV hv (fun x e => e ▸ h x M' hL' h1 h2 h3))
theorem p6t_rest (d : Nat) {x1 : Int32} (hL : LI M) (h : ∀ (x : Int32) (M' : Mm), LI M' → M'.1 = M.1 → kp Kc1436.2.1 M M' → ¬ mI M' 1 13 = 4 → kr (some (.int x)) M') : Ev l X uX6_rest (d + 12) true 0 0 [.ref 1, .int x1] M kr :=
  c6t_of (t := 0) (vc1436 (d + 8)) (by decide +kernel) (by decide +kernel) hL ⟨⟨rfl, List.mem_singleton.mpr rfl⟩, ⟨⟨rfl, i32_lo _, i32_hi _⟩, trivial⟩⟩ (fun v M' hv hL' h1 h2 h3 => iV hv (fun x e => e ▸ h x M' hL' h1 h2 h3))
theorem p6t_odds (d : Nat) {x1 x2 x3 : Int32} (hL : LI M) (h : ∀ (x : Int64) (M' : Mm), LI M' → M'.1 = M.1 → kp Kc1440.2.1 M M' → ¬ mI M' 1 13 = 4 → kr (some (.long x)) M') : Ev l X uX6_odds (d + 12) true 0 0 [.ref 1, .int x1, .int x2, .int x3] M kr :=
  c6t_of (t := 1) (vc1440 (d + 9)) (by decide +kernel) (by decide +kernel) hL ⟨⟨rfl, List.mem_singleton.mpr rfl⟩, ⟨⟨rfl, i32_lo _, i32_hi _⟩, ⟨⟨rfl, i32_lo _, i32_hi _⟩, ⟨⟨rfl, i32_lo _, i32_hi _⟩, trivial⟩⟩⟩⟩ (fun v M' hv hL' h1 h2 h3 => lV hv (fun x e => e ▸ h x M' hL' h1 h2 h3))
theorem p6t_mean (d : Nat) {x1 x2 x3 : Int32} (hL : LI M) (h : ∀ (x : Int64) (M' : Mm), LI M' → M'.1 = M.1 → kp Kc1442.2.1 M M' → ¬ mI M' 1 13 = 4 → kr (some (.long x)) M') : Ev l X uX6_mean (d + 12) true 0 0 [.ref 1, .int x1, .int x2, .int x3] M kr :=
  c6t_of (t := 1) (vc1442 (d + 9)) (by decide +kernel) (by decide +kernel) hL ⟨⟨rfl, List.mem_singleton.mpr rfl⟩, ⟨⟨rfl, i32_lo _, i32_hi _⟩, ⟨⟨rfl, i32_lo _, i32_hi _⟩, ⟨⟨rfl, i32_lo _, i32_hi _⟩, trivial⟩⟩⟩⟩ (fun v M' hv hL' h1 h2 h3 => lV hv (fun x e => e ▸ h x M' hL' h1 h2 h3))
theorem p6t_borne (d : Nat) {x1 x2 x3 : Int32} (hL : LI M) (h : ∀ (x : Int32) (M' : Mm), LI M' → M'.1 = M.1 → kp Kc1443.2.1 M M' → ¬ mI M' 1 13 = 4 → kr (some (.int x)) M') : Ev l X uX6_borne (d + 12) true 0 0 [.ref 1, .int x1, .int x2, .int x3] M kr :=
  c6t_of (t := 0) (vc1443 (d + 10)) (by decide +kernel) (by decide +kernel) hL ⟨⟨rfl, List.mem_singleton.mpr rfl⟩, ⟨⟨rfl, i32_lo _, i32_hi _⟩, ⟨⟨rfl, i32_lo _, i32_hi _⟩, ⟨⟨rfl, i32_lo _, i32_hi _⟩, trivial⟩⟩⟩⟩ (fun v M' hv hL' h1 h2 h3 => iV hv (fun x e => e ▸ h x M' hL' h1 h2 h3))
theorem p6t_firstWet (d : Nat) {x1 x2 : Int32} (hL : LI M) (h : ∀ (x : Int32) (M' : Mm), LI M' → M'.1 = M.1 → kp Kc1444.2.1 M M' → ¬ mI M' 1 13 = 4 → kr (some (.int x)) M') : Ev l X uX6_firstWet (d + 12) true 0 0 [.ref 1, .int x1, .int x2] M kr :=
  c6t_of (t := 0) (vc1444 (d + 9)) (by decide +kernel) (by decide +kernel) hL ⟨⟨rfl, List.mem_singleton.mpr rfl⟩, ⟨⟨rfl, i32_lo _, i32_hi _⟩, ⟨⟨rfl, i32_lo _, i32_hi _⟩, trivial⟩⟩⟩ (fun v M' hv hL' h1 h2 h3 => iV hv (fun x e => e ▸ h x M' hL' h1 h2 h3))
theorem p6t_day (d : Nat) (hL : LI M) (h : ∀ (x : Int32) (M' : Mm), LI M' → M'.1 = M.1 → kp Kc1446.2.1 M M' → ¬ mI M' 1 13 = 4 → kr (some (.int x)) M') : Ev l X uX6_day (d + 12) true 0 0 [.ref 1] M kr :=
  c6t_of (t := 0) (vc1446 (d + 9)) (by decide +kernel) (by decide +kernel) hL ⟨⟨rfl, List.mem_singleton.mpr rfl⟩, trivial⟩ (fun v M' hv hL' h1 h2 h3 => iV hv (fun x e => e ▸ h x M' hL' h1 h2 h3))
theorem p6t_give (d : Nat) {x1 x2 : Int32} (hL : LI M) (h : ∀ (x : Int32) (M' : Mm), LI M' → M'.1 = M.1 → kp Kc1447.2.1 M M' → ¬ mI M' 1 13 = 4 → kr (some (.int x)) M') : Ev l X uX6_give (d + 12) true 0 0 [.ref 1, .int x1, .int x2] M kr :=
  c6t_of (t := 0) (vc1447 (d + 9)) (by decide +kernel) (by decide +kernel) hL ⟨⟨rfl, List.mem_singleton.mpr rfl⟩, ⟨⟨rfl, i32_lo _, i32_hi _⟩, ⟨⟨rfl, i32_lo _, i32_hi _⟩, trivial⟩⟩⟩ (fun v M' hv hL' h1 h2 h3 => iV hv (fun x e => e ▸ h x M' hL' h1 h2 h3))
theorem p6t_mend (d : Nat) {x1 : Int32} (hL : LI M) (h : ∀ (x : Int32) (M' : Mm), LI M' → M'.1 = M.1 → kp Kc1448.2.1 M M' → ¬ mI M' 1 13 = 4 → kr (some (.int x)) M') : Ev l X uX6_mend (d + 12) true 0 0 [.ref 1, .int x1] M kr :=
  c6t_of (t := 0) (vc1448 (d + 9)) (by decide +kernel) (by decide +kernel) hL ⟨⟨rfl, List.mem_singleton.mpr rfl⟩, ⟨⟨rfl, i32_lo _, i32_hi _⟩, trivial⟩⟩ (fun v M' hv hL' h1 h2 h3 => iV hv (fun x e => e ▸ h x M' hL' h1 h2 h3))
theorem p6t_vex (d : Nat) {x1 x2 : Int32} (hL : LI M) (h : ∀ (x : Int32) (M' : Mm), LI M' → M'.1 = M.1 → kp Kc1449.2.1 M M' → ¬ mI M' 1 13 = 4 → kr (some (.int x)) M') : Ev l X uX6_vex (d + 12) true 0 0 [.ref 1, .int x1, .int x2] M kr :=
  c6t_of (t := 0) (vc1449 (d + 9)) (by decide +kernel) (by decide +kernel) hL ⟨⟨rfl, List.mem_singleton.mpr rfl⟩, ⟨⟨rfl, i32_lo _, i32_hi _⟩, ⟨⟨rfl, i32_lo _, i32_hi _⟩, trivial⟩⟩⟩ (fun v M' hv hL' h1 h2 h3 => iV hv (fun x e => e ▸ h x M' hL' h1 h2 h3))
theorem p6t_undo (d : Nat) (hL : LI M) (h : ∀ (x : Int32) (M' : Mm), LI M' → M'.1 = M.1 → kp Kc1451.2.1 M M' → ¬ mI M' 1 13 = 4 → kr (some (.int x)) M') : Ev l X uX6_undo (d + 12) true 0 0 [.ref 1] M kr :=
  c6t_of (t := 0) (vc1451 (d + 10)) (by decide +kernel) (by decide +kernel) hL ⟨⟨rfl, List.mem_singleton.mpr rfl⟩, trivial⟩ (fun v M' hv hL' h1 h2 h3 => iV hv (fun x e => e ▸ h x M' hL' h1 h2 h3))
theorem p6t_image (d : Nat) (hL : LI M) (h : ∀ (x : Int32) (M' : Mm), LI M' → M'.1 = M.1 → kp Kc1452.2.1 M M' → ¬ mI M' 1 13 = 4 → kr (some (.int x)) M') : Ev l X uX6_image (d + 12) true 0 0 [.ref 1] M kr :=
  c6t_of (t := 0) (vc1452 (d + 10)) (by decide +kernel) (by decide +kernel) hL ⟨⟨rfl, List.mem_singleton.mpr rfl⟩, trivial⟩ (fun v M' hv hL' h1 h2 h3 => iV hv (fun x e => e ▸ h x M' hL' h1 h2 h3))
theorem p6t_back (d : Nat) {x1 : Int32} (hL : LI M) (h : ∀ (x : Int32) (M' : Mm), LI M' → M'.1 = M.1 → kp Kc1453.2.1 M M' → ¬ mI M' 1 13 = 4 → kr (some (.int x)) M') : Ev l X uX6_back (d + 12) true 0 0 [.ref 1, .int x1] M kr :=
  c6t_of (t := 0) (vc1453 (d + 10)) (by decide +kernel) (by decide +kernel) hL ⟨⟨rfl, List.mem_singleton.mpr rfl⟩, ⟨⟨rfl, i32_lo _, i32_hi _⟩, trivial⟩⟩ (fun v M' hv hL' h1 h2 h3 => iV hv (fun x e => e ▸ h x M' hL' h1 h2 h3))
end TRB
