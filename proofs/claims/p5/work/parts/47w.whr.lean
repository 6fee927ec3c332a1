/-! where: the trouble is 4 on both sides or on none, and then the places are the same -/
section WHR
variable {M M' M1 M2 : Mm}
def W5 (M : Mm) : Prop := (mI M 1 13 = 4 ↔ mI M 150 11 = 4) ∧ (mI M 1 13 = 4 → mI M 2 14 = mI M 150 10)
def LW (M : Mm) : Prop := LQ M ∧ W5 M
/-- between the two calls -/
def LV (M : Mm) : Prop := LQ M ∧ ¬ mI M 1 13 = 4
theorem LW.li (h : LW M) : LI M := h.1.li
theorem LW.iv (h : LW M) : Iv Pt8 M := h.1.1.1
theorem LW.q (h : LW M) : LQ M := h.1
theorem LV.li (h : LV M) : LI M := h.1.li
theorem LV.iv (h : LV M) : Iv Pt8 M := h.1.1.1
def okW (ms : Md3) : Bool := okm okS okN ms && okm [(1, 13), (150, 11), (2, 14), (150, 10)] [] ms
theorem W5_k {ms : Md3} (h : W5 M) (hk : kp ms M M') (ho : okm [(1, 13), (150, 11), (2, 14), (150, 10)] [] ms = true) : W5 M' := by
  have e1 := (hk 1 13 (okm_s ho (by decide))).1
  have e2 := (hk 150 11 (okm_s ho (by decide))).1
  have e3 := (hk 2 14 (okm_s ho (by decide))).1
  have e4 := (hk 150 10 (okm_s ho (by decide))).1
  unfold W5
  rw [e1, e2, e3, e4]
  exact h
theorem LW_k {ms : Md3} (h : LW M) (hl : LI M') (h1 : M'.1 = M.1) (hk : kp ms M M') (ho : okW ms = true) : LW M' :=
  ⟨LQ_k h.1 hl h1 hk (andT ho).1, W5_k h.2 hk (andT ho).2⟩
theorem LV_k {ms : Md3} (h : LQ M) (hl : LI M') (h1 : M'.1 = M.1) (hk : kp ms M M') (ho : okm okS okN ms = true) (hn : ¬ mI M' 1 13 = 4) : LV M' :=
  ⟨LQ_k h hl h1 hk ho, hn⟩
theorem LW_v {ms : Md3} (h : LV M) (hl : LI M') (h1 : M'.1 = M.1) (hk : kp ms M M') (ho : (okm okS okN ms && okm [(1, 13)] [] ms) = true) (hn : ¬ mI M' 150 11 = 4) : LW M' := by
  have e1 := (hk 1 13 (okm_s (andT ho).2 (by decide))).1
  have n1 : ¬ mI M' 1 13 = 4 := by rw [e1]; exact h.2
  exact ⟨LQ_k h.1 hl h1 hk (andT ho).1, ⟨fun z => absurd z n1, fun z => absurd z hn⟩, fun z => absurd z n1⟩
theorem LW_feed {t : Nat} {b : Nat → Nat} {x1 x2 x3 x4 x5 : Int32} (h : LW M) (ht : t ≤ 900) (h1 : kp msF M M1) (t1 : T6 (fdA t) (fdB b t x1 x2 x3 x4 x5) M1) (l2 : LPm M2) (h2 : kp msG M1 M2) (t2 : T7 (fdA t) (fdB b t x1 x2 x3 x4 x5) M2) : LW M2 :=
  ⟨LQ_feed h.1 ht h1 t1 l2 h2 t2, W5_k (W5_k h.2 h1 (by decide)) h2 (by decide)⟩
theorem LW_close {t : Nat} {b : Nat → Nat} {n : Int32} (h : LW M) (ht : t ≤ 900) (h1 : kp msZ8 M M1) (t1 : T6 (clA n t) b M1) (f1 : mI M1 2 13 = cF (cO b n t) (mI M 2 13)) (l1 : LPm M1) (z1 : ∃ M'', eX6 (cO b n t) M M'' ∧ M''.1 = M.1 ∧ agr M1 M'') (g1 : mI M1 1 13 = clT (cO b n t)) (l2 : LPm M2) (h2 : kp msC M1 M2) (t2 : T7 (clA n t) b M2) (f2 : mI M2 150 9 = cF (cO b n t) (mI M1 150 9)) (z2 : ∃ M'', eX7 (cO b n t) M1 M'' ∧ M''.1 = M1.1 ∧ agr M2 M'') (g2 : mI M2 150 11 = clT (cO b n t)) : LW M2 := by
  refine ⟨LQ_close h.1 ht h1 t1 f1 l2 h2 t2 f2, ?_⟩
  have g1 : mI M2 1 13 = clT (cO b n t) := by rw [(h2 1 13 rfl).1]; exact g1
  refine ⟨by rw [g1, g2], fun z => ?_⟩
  rw [g1] at z
  obtain ⟨N1, e1, -, a1⟩ := z1
  obtain ⟨N2, e2, -, a2⟩ := z2
  rw [(h2 2 14 rfl).1, ag_I l1.1 l1.2.2.1 a1 (by decide) (by decide) (show isI 2 14 = true from rfl), ag_I l2.1 l2.2.2.1 a2 (by decide) (by decide) (show isI 150 10 = true from rfl)]
  cases ho : cO b n t with
  | none =>
    rw [ho] at z
    exact absurd z (by decide)
  | some o =>
    cases o with
    | inl er =>
      rw [ho] at e1 e2
      rw [e1.2.2, e2.2]
    | inr P =>
      rw [ho] at z
      exact absurd z (show ¬ (0 : Int32) = 4 by decide)
variable {l : Launch} {X : Nat × (Nat → Int32)} {d : Nat} {w : Nat × Nat} {p r : Nat} {I : Nat → Nat → Int32} {L : Nat → Nat → Int64} {kr : KR}
def whr (t v : Int32) : Int32 := if t = 4 then v else -1
set_option maxRecDepth 20000 in
theorem x_where (h : kr (some (.int (whr (I 1 13) (I 2 14)))) (mk w p r I L)) : Ev l X uX6_where (d + 1) true 0 0 [.ref 1] (mk w p r I L) kr := by
  refine Ev.of (by decide) (Nat.le_of_ble_eq_true rfl) ?_
  refine Wf.gc tkX6_where [] ?_
  conv => whnf
  refine ⟨fun c => ?_, fun c => ?_⟩
  · have c : ¬ I 1 13 = 4 := c
    unfold whr at h
    rw [if_neg c] at h
    conv => whnf
    exact h
  · have c : I 1 13 = 4 := c
    unfold whr at h
    rw [if_pos c] at h
    conv => whnf
    exact h
set_option maxRecDepth 20000 in
theorem y_where (h : kr (some (.int (whr (I 150 11) (I 150 10)))) (mk w p r (u2 I 150 0 0) L)) : Ev l X uX7_where (d + 1) true 0 0 [.ref 150] (mk w p r I L) kr := by
  refine Ev.of (by decide) (Nat.le_of_ble_eq_true rfl) ?_
  refine Wf.gc tkX7_where [] ?_
  conv => whnf
  refine ⟨fun c => ?_, fun c => ?_⟩
  · have c : ¬ u2 I 150 0 0 150 11 = 4 := c
    rw [u2_o (by decide)] at c
    unfold whr at h
    rw [if_neg c] at h
    conv => whnf
    exact h
  · have c : u2 I 150 0 0 150 11 = 4 := c
    rw [u2_o (by decide)] at c
    unfold whr at h
    rw [if_pos c] at h
    conv => whnf
    show kr (some (.int (u2 I 150 0 0 150 10))) _
    rw [u2_o (by decide)]
    exact h
def WV (v : Int32) (M : Mm) : Prop := whr (mI M 1 13) (mI M 2 14) = v ∧ whr (mI M 150 11) (mI M 150 10) = v
theorem WV_of (h : LW M) : ∃ v, WV v M := by
  refine ⟨_, rfl, ?_⟩
  unfold whr
  by_cases c : mI M 1 13 = 4
  · rw [if_pos c, if_pos (h.2.1.mp c)]
    exact (h.2.2 c).symm
  · rw [if_neg c, if_neg (fun z => c (h.2.1.mpr z))]
theorem WV_k {ms : Md3} {v : Int32} (h : WV v M) (hk : kp ms M M') (ho : okW ms = true) : WV v M' := by
  have ho := (andT ho).2
  have e1 := (hk 1 13 (okm_s ho (by decide))).1
  have e2 := (hk 150 11 (okm_s ho (by decide))).1
  have e3 := (hk 2 14 (okm_s ho (by decide))).1
  have e4 := (hk 150 10 (okm_s ho (by decide))).1
  unfold WV
  rw [e1, e2, e3, e4]
  exact h
theorem j6_where (d : Nat) {v : Int32} (hL : LW M) (hv : WV v M) (h : ∀ M', LW M' → M'.1 = M.1 → WV v M' → kr (some (.int v)) M') : Ev l X uX6_where (d + 12) true 0 0 [.ref 1] M kr := by
  refine j_ans (v := v) hL.1.1 (fun k h => p6_where d hL.li h) (x_where (d := d + 11) (congrArg (fun z => some (Value.int z)) hv.1)) (fun M' h1 h2 h3 => ?_)
  exact h M' (LW_k hL h1 h2 h3 (by decide +kernel)) h2 (WV_k hv h3 (by decide +kernel))
theorem j7_where (d : Nat) {v : Int32} (hL : LW M) (hv : WV v M) (h : ∀ M', LW M' → M'.1 = M.1 → WV v M' → kr (some (.int v)) M') : Ev l X uX7_where (d + 12) true 0 0 [.ref 150] M kr := by
  refine j_ans (v := v) hL.1.1 (fun k h => p7_where d hL.li h) (y_where (d := d + 11) (congrArg (fun z => some (Value.int z)) hv.2)) (fun M' h1 h2 h3 => ?_)
  exact h M' (LW_k hL h1 h2 h3 (by decide +kernel)) h2 (WV_k hv h3 (by decide +kernel))
end WHR
