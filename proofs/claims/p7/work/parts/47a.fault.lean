/-! an exact answer joined with the interval contract; fault -/
section ANS
variable {l : Launch} {X : Nat × (Nat → Int32)} {d : Nat} {w : Nat × Nat} {p r : Nat} {I : Nat → Nat → Int32} {L : Nat → Nat → Int64} {kr : KR} {M : Mm}
theorem j_ans {q : Md} {dd : Nat} {av : List Value} {ms : Md3} {v : Int32} (hL : LPm M) (A : ∀ k : KR, (∀ (x : Int32) (M' : Mm), LI M' → M'.1 = M.1 → kp ms M M' → k (some (.int x)) M') → Ev l X q dd true 0 0 av M k) (B : Ev l X q dd true 0 0 av (ffm M) (fun r _ => r = some (.int v))) (h : ∀ M', LI M' → M'.1 = M.1 → kp ms M M' → kr (some (.int v)) M') : Ev l X q dd true 0 0 av M kr := by
  have A' := A (fun r M' => ∃ x : Int32, r = some (.int x) ∧ (LI M' ∧ M'.1 = M.1 ∧ kp ms M M')) (fun x M' h1 h2 h3 => ⟨x, rfl, h1, h2, h3⟩)
  have B' : Ev l X q dd true 0 0 av M (fun r M'' => ∃ x : Int32, r = some (.int x) ∧ x = v) := Ev.ofm hL.1 hL.2.2 (Ev.imp B (fun r M' e => ⟨v, e, rfl⟩))
  refine Ev.imp (Ev.both A' B') ?_
  rintro r M' ⟨x, rfl, ⟨a1, a2, a3⟩, M'', rfl, -⟩
  exact h M' a1 a2 a3
set_option maxRecDepth 20000 in
theorem x_fault (h : kr (some (.int (I 2 13))) (mk w p r I L)) : Ev l X uX6_fault (d + 1) true 0 0 [.ref 1] (mk w p r I L) kr := by
  refine Ev.of (by decide) (Nat.le_of_ble_eq_true rfl) ?_
  refine Wf.gc tkX6_fault [] ?_
  conv => whnf
  exact h
set_option maxRecDepth 20000 in
theorem y_fault (h : kr (some (.int (I 150 9))) (mk w p r (u2 I 150 0 0) L)) : Ev l X uX7_fault (d + 1) true 0 0 [.ref 150] (mk w p r I L) kr := by
  refine Ev.of (by decide) (Nat.le_of_ble_eq_true rfl) ?_
  refine Wf.gc tkX7_fault [] ?_
  conv => whnf
  exact h
def FV (v : Int32) (M : Mm) : Prop := mI M 2 13 = v ∧ mI M 150 9 = v
theorem FV_of (h : LQ M) : FV (mI M 2 13) M := ⟨rfl, h.2.2.symm⟩
theorem j6_fault (d : Nat) {v : Int32} (hL : LQ M) (hv : FV v M) (h : ∀ M', LQ M' → M'.1 = M.1 → FV v M' → kr (some (.int v)) M') : Ev l X uX6_fault (d + 12) true 0 0 [.ref 1] M kr := by
  refine j_ans (v := v) hL.1 (fun k h => p6_fault d hL.li h) (x_fault (d := d + 11) (congrArg (fun z => some (Value.int z)) hv.1)) (fun M' h1 h2 h3 => ?_)
  exact h M' (LQ_k hL h1 h2 h3 (by decide +kernel)) h2 ⟨by rw [(h3 2 13 rfl).1]; exact hv.1, by rw [(h3 150 9 rfl).1]; exact hv.2⟩
theorem j7_fault (d : Nat) {v : Int32} (hL : LQ M) (hv : FV v M) (h : ∀ M', LQ M' → M'.1 = M.1 → FV v M' → kr (some (.int v)) M') : Ev l X uX7_fault (d + 12) true 0 0 [.ref 150] M kr := by
  refine j_ans (v := v) hL.1 (fun k h => p7_fault d hL.li h) (y_fault (d := d + 11) (congrArg (fun z => some (Value.int z)) hv.2)) (fun M' h1 h2 h3 => ?_)
  exact h M' (LQ_k hL h1 h2 h3 (by decide +kernel)) h2 ⟨by rw [(h3 2 13 rfl).1]; exact hv.1, by rw [(h3 150 9 rfl).1]; exact hv.2⟩
end ANS
