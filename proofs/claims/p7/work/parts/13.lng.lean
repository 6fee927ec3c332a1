/-! the class's greatest divisor, the reference's lowest terms -/
theorem gbs_L2 {av : List Value} {a1 a2 b1 b2 : Int} {n1 n2 : List Nat} (h : gbs av [(1, a1, b1, n1), (1, a2, b2, n2)]) : ∃ x y : Int64, av = [.long x, .long y] := by
  match av, h with
  | [], h => exact h.elim
  | [v], h => exact h.2.elim
  | v :: w :: z :: t, h => exact h.2.2.elim
  | [v, w], h =>
    obtain ⟨h1, h2, -⟩ := h
    cases v with
    | long x =>
      cases w with
      | long y => exact ⟨x, y, rfl⟩
      | int y => have := h2.1; cases this
      | ref y => have := h2.1; cases this
      | _ => exact h2.elim
    | int y => have := h1.1; cases this
    | ref y => have := h1.1; cases this
    | _ => exact h1.elim
section LNG
variable {l : Launch} {X : Nat × (Nat → Int32)} {d : Nat} {M : Mm} {kr : KR}
set_option maxRecDepth 20000 in
theorem k_max1 {y : Int64} (h : ∀ r : Int64, 1 ≤ r.toInt → kr (some (.long r)) M) : Ev l X uJ9_max_f86c9 d true 0 0 [.long 1, .long y] M kr := by
  refine Ev.ofF (by decide +kernel) (Nat.le_of_ble_eq_true rfl) ?_
  refine Wf.sLl tkJ9_max_f86c9 rfl rfl ?_
  refine Wf.sLl tkJ9_max_f86c9 rfl rfl ?_
  refine Wf.slcmp tkJ9_max_f86c9 rfl ?_
  refine Wf.sIf tkJ9_max_f86c9 rfl (fun w => ?_) (fun _ => ?_)
  · refine Wf.sLl tkJ9_max_f86c9 rfl rfl ?_
    refine Wf.sLr tkJ9_max_f86c9 rfl (h y ?_)
    have w2 := Int64.lt_iff_toInt_lt.mp ((lg_cmp_lt 1 y).mp w)
    have e1 : (1 : Int64).toInt = 1 := rfl
    omega
  · refine Wf.sLl tkJ9_max_f86c9 rfl rfl ?_
    refine Wf.sGo tkJ9_max_f86c9 rfl ?_
    exact Wf.sLr tkJ9_max_f86c9 rfl (h 1 (by decide))
set_option maxRecDepth 20000 in
theorem gd_end {b : Nat × Nat} {high : Int64} {ls : Ls} (hl : lg ls 4 = some (.long high)) (h : ∀ r : Int64, 1 ≤ r.toInt → kr (some (.long r)) M) : Wf l X uX6_greatestDivisor (d + 1) true b 45 ls [] M kr := by
  refine Wf.sLc tkX6_greatestDivisor rfl ?_
  refine Wf.sLl tkX6_greatestDivisor rfl hl ?_
  refine Wf.sCs tkX6_greatestDivisor rfl rfl rfl ?_
  refine k_max1 (fun r hr => ?_)
  exact Wf.sLr tkX6_greatestDivisor rfl (h r hr)
set_option maxRecDepth 20000 in
theorem gd_loop {b : Nat × Nat} {a0 b0 : Int64} (h : ∀ r : Int64, 1 ≤ r.toInt → kr (some (.long r)) M) : ∀ t, t ≤ 200 → ∀ high low : Int64, Wf l X uX6_greatestDivisor (d + 1) true b 9 [(0, .long a0), (2, .long b0), (4, .long high), (6, .long low), (8, .int (nI t))] [] M kr := by
  refine dwn _ 200 ?_ ?_
  · intro high low
    refine Wf.sIl tkX6_greatestDivisor rfl rfl ?_
    refine Wf.sIc tkX6_greatestDivisor rfl ?_
    exact Wf.sCm tkX6_greatestDivisor rfl (fun _ => gd_end rfl h) (fun w => absurd (show (200 : Int32) ≤ nI 200 by decide) w)
  · intro t ht ih high low
    refine Wf.sIl tkX6_greatestDivisor rfl rfl ?_
    refine Wf.sIc tkX6_greatestDivisor rfl ?_
    refine Wf.sCm tkX6_greatestDivisor rfl (fun _ => gd_end rfl h) (fun _ => ?_)
    refine Wf.sLl tkX6_greatestDivisor rfl rfl ?_
    refine Wf.sLc tkX6_greatestDivisor rfl ?_
    refine Wf.slcmp tkX6_greatestDivisor rfl ?_
    refine Wf.sIf tkX6_greatestDivisor rfl (fun _ => gd_end rfl h) (fun w => ?_)
    refine Wf.sLl tkX6_greatestDivisor rfl rfl ?_
    refine Wf.sLl tkX6_greatestDivisor rfl rfl ?_
    refine Wf.sL2d tkX6_greatestDivisor rfl (fun z => w ((lg_cmp_eq low 0).mpr z)) ?_
    refine Wf.sLs tkX6_greatestDivisor rfl rfl ?_
    refine Wf.sLl tkX6_greatestDivisor rfl rfl ?_
    refine Wf.sLs tkX6_greatestDivisor rfl rfl ?_
    refine Wf.sLl tkX6_greatestDivisor rfl rfl ?_
    refine Wf.sLs tkX6_greatestDivisor rfl rfl ?_
    refine Wf.sInc tkX6_greatestDivisor rfl rfl rfl ?_
    refine Wf.sGo tkX6_greatestDivisor rfl ?_
    refine Wf.keep [0, 2, 4, 6, 8] ?_
    have := ih low (high - high / low * low)
    rw [← nI_1] at this
    exact this
set_option maxRecDepth 20000 in
theorem vh_gd {P : Pk} {e : Int} (d : Nat) : Vc l X U0 P e (d + 1) ((144, [(1, lLo, lHi, []), (1, lLo, lHi, [])], []), [], [(some (1, 1, lHi, []), [], [])]) := by
  intro av M kr hI he hb hf hr
  obtain ⟨x, y, rfl⟩ := gbs_L2 hb
  have hk : ∀ r : Int64, 1 ≤ r.toInt → kr (some (.long r)) M := fun r h => hr _ M (Jv.rf hI he) ⟨_, List.mem_singleton.mpr rfl, ⟨rfl, h, i64_hi r⟩, fun x hx => absurd hx List.not_mem_nil, fun x hx => absurd hx List.not_mem_nil⟩
  show Ev l X uX6_greatestDivisor (d + 1) true 0 0 _ M kr
  refine Ev.of (by decide) (Nat.le_of_ble_eq_true rfl) ?_
  refine Wf.sLl tkX6_greatestDivisor rfl rfl ?_
  refine Wf.sLs tkX6_greatestDivisor rfl rfl ?_
  refine Wf.sLl tkX6_greatestDivisor rfl rfl ?_
  refine Wf.sLs tkX6_greatestDivisor rfl rfl ?_
  refine Wf.sIc tkX6_greatestDivisor rfl ?_
  refine Wf.sIs tkX6_greatestDivisor rfl rfl ?_
  exact gd_loop hk 0 (by decide) x y
theorem rem64 {x y : Int64} (hy : ¬ y = 0) : (x - x / y * y).toInt = x.toInt.tmod y.toInt := by
  have hy2 : y.toInt ≠ 0 := fun z => hy (Int64.toInt_inj.mp (z.trans (show (0 : Int) = (0 : Int64).toInt from rfl)))
  rw [Int64.toInt_sub, Int64.toInt_mul, Int64.toInt_div]
  rw [Int.bmod_mul_bmod, Int.sub_bmod_bmod]
  have e := Int.tmod_def x.toInt y.toInt
  rw [Int.mul_comm] at e
  rw [← e]
  have h1 := i64_lo x
  have h2 := i64_hi x
  unfold lLo at h1
  unfold lHi at h2
  have h3 : (x.toInt.tmod y.toInt).natAbs < y.toInt.natAbs := by
    rw [Int.natAbs_tmod]
    exact Nat.mod_lt _ (Int.natAbs_pos.mpr hy2)
  have h4 := i64_lo y
  have h5 := i64_hi y
  unfold lLo at h4
  unfold lHi at h5
  exact Int.bmod_eq_of_le (by omega) (by omega)
theorem gbs_LLI {av : List Value} {a1 b1 a2 b2 a3 b3 : Int} {n1 n2 n3 : List Nat} (h : gbs av [(1, a1, b1, n1), (1, a2, b2, n2), (0, a3, b3, n3)]) : ∃ (x y : Int64) (z : Int32), av = [.long x, .long y, .int z] ∧ a2 ≤ y.toInt ∧ y.toInt ≤ b2 := by
  match av, h with
  | [], h => exact h.elim
  | [v], h => exact h.2.elim
  | [v, w], h => exact h.2.2.elim
  | v :: w :: z :: y :: t, h => exact h.2.2.2.elim
  | [v, w, z], h =>
    obtain ⟨h1, h2, h3, -⟩ := h
    cases v with
    | long x =>
      cases w with
      | long y =>
        cases z with
        | int z => exact ⟨x, y, z, rfl, h2.2⟩
        | long y => have := h3.1; cases this
        | ref y => have := h3.1; cases this
        | _ => exact h3.elim
      | int y => have := h2.1; cases this
      | ref y => have := h2.1; cases this
      | _ => exact h2.elim
    | int y => have := h1.1; cases this
    | ref y => have := h1.1; cases this
    | _ => exact h1.elim
set_option maxRecDepth 20000 in
theorem lw_loop {b : Nat × Nat} {up down : Int64} {lw : Int32} (h : ∀ r : Int64, kr (some (.long r)) M) : ∀ (n : Nat) (x y : Int64) (zs : Ls), y.toInt.natAbs < n → ¬ x = 0 → (zs = [] ∨ ∃ z : Int64, zs = [(9, .long z)]) → Wf l X uX7_lowest d true b 6 ([(0, .long up), (2, .long down), (4, .int lw), (5, .long x), (7, .long y)] ++ zs) [] M kr := by
  intro n
  induction n with
  | zero => intro x y zs hn; exact absurd hn (Nat.not_lt_zero _)
  | succ n ih =>
    intro x y zs hn hx hz
    refine Wf.keep [0, 2, 4, 5, 7] ?_
    have hk : lk ([(0, .long up), (2, .long down), (4, .int lw), (5, .long x), (7, .long y)] ++ zs) [0, 2, 4, 5, 7] = [(0, Value.long up), (2, .long down), (4, .int lw), (5, .long x), (7, .long y)] := by
      rcases hz with rfl | ⟨z, rfl⟩ <;> rfl
    rw [hk]
    refine Wf.sLl tkX7_lowest rfl rfl ?_
    refine Wf.sLc tkX7_lowest rfl ?_
    refine Wf.slcmp tkX7_lowest rfl ?_
    refine Wf.sIf tkX7_lowest rfl (fun _ => ?_) (fun w => ?_)
    · refine Wf.sIl tkX7_lowest rfl rfl ?_
      refine Wf.sIf tkX7_lowest rfl (fun _ => ?_) (fun _ => ?_)
      · refine Wf.sLl tkX7_lowest rfl rfl ?_
        refine Wf.sLl tkX7_lowest rfl rfl ?_
        refine Wf.sL2d tkX7_lowest rfl hx ?_
        exact Wf.sLr tkX7_lowest rfl (h _)
      · refine Wf.sLl tkX7_lowest rfl rfl ?_
        refine Wf.sGo tkX7_lowest rfl ?_
        refine Wf.sLl tkX7_lowest rfl rfl ?_
        refine Wf.sL2d tkX7_lowest rfl hx ?_
        exact Wf.sLr tkX7_lowest rfl (h _)
    · have hy : ¬ y = 0 := fun z => w ((lg_cmp_eq y 0).mpr z)
      have hy2 : y.toInt ≠ 0 := fun z => hy (Int64.toInt_inj.mp (z.trans (show (0 : Int) = (0 : Int64).toInt from rfl)))
      refine Wf.sLl tkX7_lowest rfl rfl ?_
      refine Wf.sLl tkX7_lowest rfl rfl ?_
      refine Wf.sL2d tkX7_lowest rfl hy ?_
      refine Wf.sLs tkX7_lowest rfl rfl ?_
      refine Wf.sLl tkX7_lowest rfl rfl ?_
      refine Wf.sLs tkX7_lowest rfl rfl ?_
      refine Wf.sLl tkX7_lowest rfl rfl ?_
      refine Wf.sLs tkX7_lowest rfl rfl ?_
      refine Wf.sGo tkX7_lowest rfl ?_
      refine ih y (x - x / y * y) [(9, .long (x - x / y * y))] ?_ hy (Or.inr ⟨_, rfl⟩)
      rw [rem64 hy, Int.natAbs_tmod]
      have := Nat.mod_lt x.toInt.natAbs (Int.natAbs_pos.mpr hy2)
      omega
set_option maxRecDepth 20000 in
theorem vh_lowest {P : Pk} {e : Int} (d : Nat) : Vc l X U0 P e (d + 0) ((153, [(1, lLo, lHi, []), (1, 1, lHi, []), (0, 0, 1, [])], []), [], [(some (1, lLo, lHi, []), [], [])]) := by
  intro av M kr hI he hb hf hr
  obtain ⟨x, y, z, rfl, h1, h2⟩ := gbs_LLI hb
  have hk : ∀ r : Int64, kr (some (.long r)) M := fun r => hr _ M (Jv.rf hI he) ⟨_, List.mem_singleton.mpr rfl, ⟨rfl, i64_lo r, i64_hi r⟩, fun x hx => absurd hx List.not_mem_nil, fun x hx => absurd hx List.not_mem_nil⟩
  show Ev l X uX7_lowest (d + 0) true 0 0 _ M kr
  refine Ev.of (by decide) (Nat.le_of_ble_eq_true rfl) ?_
  refine Wf.sLl tkX7_lowest rfl rfl ?_
  refine Wf.sLs tkX7_lowest rfl rfl ?_
  refine Wf.sLl tkX7_lowest rfl rfl ?_
  refine Wf.sLs tkX7_lowest rfl rfl ?_
  refine lw_loop hk (x.toInt.natAbs + 1) y x [] (Nat.lt_succ_self _) ?_ (Or.inl rfl)
  intro w
  rw [w] at h1
  exact absurd h1 (by decide)
end LNG
