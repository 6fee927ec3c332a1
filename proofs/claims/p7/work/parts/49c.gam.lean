/-! canon and bread: the reference's side -/
section GAM3
variable {l : Launch} {X : Nat × (Nat → Int32)} {d : Nat} {w : Nat × Nat} {p r : Nat} {I : Nat → Nat → Int32} {L : Nat → Nat → Int64} {kr : KR} {M : Mm} {e : Int32}
set_option maxRecDepth 20000 in
theorem y_canonHas {s u : Int32} (h : kr (some (.int (shr e (decide (¬ s = 0)) (decide (¬ u = 0)) false))) M) : Ev l X uX7_canonHas d true 0 0 [.int e, .int s, .int u] M kr := by
  refine Ev.of (by decide) (Nat.le_of_ble_eq_true rfl) ?_
  refine Wf.gc tkX7_canonHas [] ?_
  conv => whnf
  refine ⟨fun c1 => ?_, fun c1 => ?_⟩
  · have c1 : s = 0 := c1
    rw [decide_eq_false (p := ¬ s = 0) (fun z => z c1)] at h
    conv => whnf
    refine ⟨fun c2 => ?_, fun c2 => ?_⟩
    · have c2 : u = 0 := c2
      rw [decide_eq_false (p := ¬ u = 0) (fun z => z c2)] at h
      conv => whnf
      exact h
    · have c2 : ¬ u = 0 := c2
      rw [decide_eq_true (p := ¬ u = 0) c2] at h
      conv => whnf
      exact h
  · have c1 : ¬ s = 0 := c1
    rw [decide_eq_true (p := ¬ s = 0) c1] at h
    conv => whnf
    refine ⟨fun c2 => ?_, fun c2 => ?_⟩
    · have c2 : u = 0 := c2
      rw [decide_eq_false (p := ¬ u = 0) (fun z => z c2)] at h
      conv => whnf
      exact h
    · have c2 : ¬ u = 0 := c2
      rw [decide_eq_true (p := ¬ u = 0) c2] at h
      conv => whnf
      exact h
set_option maxRecDepth 20000 in
theorem y_breadHas {s u : Int32} (h : kr (some (.int (shr e (decide (¬ s = 0)) (decide (¬ u = 0)) true))) M) : Ev l X uX7_breadHas d true 0 0 [.int s, .int u] M kr := by
  refine Ev.of (by decide) (Nat.le_of_ble_eq_true rfl) ?_
  refine Wf.gc tkX7_breadHas [] ?_
  conv => whnf
  refine ⟨fun c1 => ?_, fun c1 => ?_⟩
  · have c1 : s = 0 := c1
    rw [decide_eq_false (p := ¬ s = 0) (fun z => z c1)] at h
    conv => whnf
    refine ⟨fun c2 => ?_, fun c2 => ?_⟩
    · have c2 : u = 0 := c2
      rw [decide_eq_false (p := ¬ u = 0) (fun z => z c2)] at h
      conv => whnf
      exact h
    · have c2 : ¬ u = 0 := c2
      rw [decide_eq_true (p := ¬ u = 0) c2] at h
      conv => whnf
      exact h
  · have c1 : ¬ s = 0 := c1
    rw [decide_eq_true (p := ¬ s = 0) c1] at h
    conv => whnf
    refine ⟨fun c2 => ?_, fun c2 => ?_⟩
    · have c2 : u = 0 := c2
      rw [decide_eq_false (p := ¬ u = 0) (fun z => z c2)] at h
      conv => whnf
      exact h
    · have c2 : ¬ u = 0 := c2
      rw [decide_eq_true (p := ¬ u = 0) c2] at h
      conv => whnf
      exact h
set_option maxRecDepth 20000 in
theorem y_why {a b : Bool} (h : kr (some (.int (if a = true then (if b = true then 0 else 2) else 1))) (mk w p r I L)) : Ev l X uX7_why d true 0 0 [.ref 150, .int (bI a), .int (bI b)] (mk w p r I L) kr := by
  refine Ev.of (by decide) (Nat.le_of_ble_eq_true rfl) ?_
  refine Wf.gc tkX7_why [] ?_
  conv => whnf
  cases a with
  | false =>
    refine b2 (fun z => z rfl) ?_
    conv => whnf
    exact h
  | true =>
    refine b1 (by decide) ?_
    conv => whnf
    cases b with
    | false =>
      refine b1' rfl ?_
      conv => whnf
      exact h
    | true =>
      refine b2' (by decide) ?_
      conv => whnf
      exact h
/-- the beginning of the three: good, in, why -/
def inG (e : Int32) : Bool := decide (0 ≤ e) && decide (e ≤ 9)
theorem y_inG (h : kr (some (.int (bI (inG e)))) M) : Ev l X uX7_in d true 0 0 [.int e, .int 0, .int 9] M kr := by
  refine y_in (fun z1 z2 => ?_) (fun z => ?_)
  · have g : inG e = true := by
      unfold inG
      rw [decide_eq_true z1, decide_eq_true z2]
      rfl
    rw [g] at h
    exact h
  · have g : inG e = false := by
      unfold inG
      by_cases c : 0 ≤ e
      · rw [decide_eq_true c, decide_eq_false (fun y => z ⟨c, y⟩)]
        rfl
      · rw [decide_eq_false c]
        rfl
    rw [g] at h
    exact h
theorem gOk_w (hc : Bool) (e : Int32) : (if hc = true then (if inG e = true then (0 : Int32) else 2) else 1) = 0 ↔ gOk hc e = true := by
  unfold gOk
  show _ ↔ (hc && inG e) = true
  cases hc <;> cases inG e <;> decide
set_option maxRecDepth 20000 in
theorem y_sulks {hc : Bool} {s u o : Int32} (h14 : I 150 14 = bI hc) (h : ∀ I', kr (some (.int (vSu hc e s u o))) (mk w p r I' L)) : Ev l X uX7_sulks (d + 1) true 0 0 [.ref 150, .int e, .int s, .int u, .int o] (mk w p r I L) kr := by
  refine Ev.of (by decide) (Nat.le_of_ble_eq_true rfl) ?_
  refine Wf.gc tkX7_sulks [] ?_
  conv => whnf
  refine y_good ?_
  conv => whnf
  refine y_inG ?_
  conv => whnf
  show Ev l X uX7_why d true 0 0 [.ref 150, .int (u2 (u2 I 150 0 0) 150 11 0 150 14), .int (bI (inG e))] (mk w p r (u2 (u2 I 150 0 0) 150 11 0) L) _
  rw [u2_o (by decide), u2_o (by decide), h14]
  refine y_why ?_
  conv => whnf
  refine ⟨fun c => ?_, fun c => ?_⟩
  · have c : ¬ (if hc = true then (if inG e = true then (0 : Int32) else 2) else 1) = 0 := c
    have g : gOk hc e = false := by
      cases hq : gOk hc e with
      | false => rfl
      | true => exact absurd ((gOk_w hc e).mpr hq) c
    unfold vSu at h
    rw [g] at h
    conv => whnf
    exact h _
  · have c : (if hc = true then (if inG e = true then (0 : Int32) else 2) else 1) = 0 := c
    have g := (gOk_w hc e).mp c
    unfold vSu at h
    rw [g] at h
    conv => whnf
    refine ⟨fun c2 => ?_, fun c2 => ?_⟩
    · have c2 : o = 0 := c2
      rw [decide_eq_false (p := ¬ o = 0) (fun z => z c2)] at h
      conv => whnf
      refine y_canonHas ?_
      conv => whnf
      exact h _
    · have c2 : ¬ o = 0 := c2
      rw [decide_eq_true (p := ¬ o = 0) c2] at h
      conv => whnf
      refine y_breadHas (e := e) ?_
      conv => whnf
      exact h _
end GAM3
