/-! the law's states: texts, faults the same on both sides -/
section LQS
variable {M M' : Mm}
def LQ (M : Mm) : Prop := LPm M ∧ (∃ (t : Nat) (b : Nat → Nat), t ≤ 900 ∧ T6 t b M ∧ T7 t b M) ∧ mI M 2 13 = mI M 150 9
theorem LQ.li (h : LQ M) : LI M := by
  obtain ⟨h1, ⟨t, b, h2, h3, h4⟩, h5⟩ := h
  exact ⟨h1.1, h1.2.1, t, h2, h3.1, h4.1⟩
def okm (S : List (Nat × Nat)) (N : List Nat) (ms : Md3) : Bool := S.all (fun x => !(inm ms x.1 x.2)) && N.all (fun a => ms.all (fun m => !(Nat.beq m.1 a)))
theorem okm_s {S : List (Nat × Nat)} {N : List Nat} {ms : Md3} (h : okm S N ms = true) {a k : Nat} (hx : (a, k) ∈ S) : inm ms a k = false := by
  have q := List.all_eq_true.mp (Bool.and_eq_true_iff.mp h).1 _ hx
  cases hq : inm ms a k with
  | false => rfl
  | true =>
    have q : (!(inm ms a k)) = true := q
    rw [hq] at q
    cases q
theorem okm_n {S : List (Nat × Nat)} {N : List Nat} {ms : Md3} (h : okm S N ms = true) {a : Nat} (hx : a ∈ N) (k : Nat) : inm ms a k = false := by
  have q := List.all_eq_true.mp (Bool.and_eq_true_iff.mp h).2 _ hx
  have q : ms.all (fun m => !(Nat.beq m.1 a)) = true := q
  cases hq : inm ms a k with
  | false => rfl
  | true =>
    obtain ⟨m, hm, h4⟩ := List.any_eq_true.mp hq
    obtain ⟨h4, -⟩ := andT h4
    have := List.all_eq_true.mp q m hm
    rw [h4] at this
    cases this
def okS : List (Nat × Nat) := [(1, 1), (1, 2), (2, 1), (2, 13), (150, 2), (150, 9)]
def okN : List Nat := [3, 151]
theorem LQ_k {ms : Md3} (h : LQ M) (hl : LI M') (h1 : M'.1 = M.1) (hk : kp ms M M') (ho : okm okS okN ms = true) : LQ M' := by
  obtain ⟨g1, ⟨t, b, g2, g3, g4⟩, g5⟩ := h
  have k1 := okm_s ho (a := 1) (k := 1) (by decide)
  have k2 := okm_s ho (a := 1) (k := 2) (by decide)
  have k3 := okm_s ho (a := 2) (k := 1) (by decide)
  have k4 := okm_s ho (a := 2) (k := 13) (by decide)
  have k5 := okm_s ho (a := 150) (k := 2) (by decide)
  have k6 := okm_s ho (a := 150) (k := 9) (by decide)
  refine ⟨⟨hl.1, hl.2.1, FM_kp g1.2.2 h1 hk k1 k2⟩, ⟨t, b, g2, ⟨?_, fun i hi => ?_⟩, ?_, fun i hi => ?_⟩, ?_⟩
  · rw [(hk 2 1 k3).1]; exact g3.1
  · rw [(hk 3 i (okm_n ho (by decide) i)).1]; exact g3.2 i hi
  · rw [(hk 150 2 k5).1]; exact g4.1
  · rw [(hk 151 i (okm_n ho (by decide) i)).1]; exact g4.2 i hi
  · rw [(hk 2 13 k4).1, (hk 150 9 k6).1]; exact g5
theorem LQ.iv (h : LQ M) : Iv Pt8 M := h.1.1
theorem LQ.q (h : LQ M) : LQ M := h
/-- feed -/
theorem LQ_feed {M1 M2 : Mm} {t : Nat} {b : Nat → Nat} {x1 x2 x3 x4 x5 : Int32} (h : LQ M) (ht : t ≤ 900) (h1 : kp msF M M1) (t1 : T6 (fdA t) (fdB b t x1 x2 x3 x4 x5) M1) (l2 : LPm M2) (h2 : kp msG M1 M2) (t2 : T7 (fdA t) (fdB b t x1 x2 x3 x4 x5) M2) : LQ M2 := by
  refine ⟨l2, ⟨fdA t, fdB b t x1 x2 x3 x4 x5, fdA_b ht, ⟨?_, fun i hi => ?_⟩, t2⟩, ?_⟩
  · rw [(h2 2 1 rfl).1]; exact t1.1
  · rw [(h2 3 i rfl).1]; exact t1.2 i hi
  · rw [(h2 2 13 rfl).1, (h1 2 13 rfl).1, (h2 150 9 rfl).1, (h1 150 9 rfl).1]; exact h.2.2
theorem T7_6 {M1 : Mm} {t : Nat} {b : Nat → Nat} {ms : Md3} (h : T7 t b M) (hk : kp ms M M1) (k0 : inm ms 150 2 = false) (k1 : ∀ i, inm ms 151 i = false) : T7 t b M1 :=
  ⟨by rw [(hk 150 2 k0).1]; exact h.1, fun i hi => by rw [(hk 151 i (k1 i)).1]; exact h.2 i hi⟩
/-- close -/
theorem LQ_close {M1 M2 : Mm} {t : Nat} {b : Nat → Nat} {n : Int32} (h : LQ M) (ht : t ≤ 900) (h1 : kp msZ8 M M1) (t1 : T6 (clA n t) b M1) (f1 : mI M1 2 13 = cF (cO b n t) (mI M 2 13)) (l2 : LPm M2) (h2 : kp msC M1 M2) (t2 : T7 (clA n t) b M2) (f2 : mI M2 150 9 = cF (cO b n t) (mI M1 150 9)) : LQ M2 := by
  refine ⟨l2, ⟨clA n t, b, clA_b ht, ⟨?_, fun i hi => ?_⟩, t2⟩, ?_⟩
  · rw [(h2 2 1 rfl).1]; exact t1.1
  · rw [(h2 3 i rfl).1]; exact t1.2 i hi
  · rw [(h2 2 13 rfl).1, f1, f2, (h1 150 9 rfl).1, h.2.2]
end LQS
