section FEED
variable {l : Launch} {X : Nat × (Nat → Int32)} {d : Nat} {w : Nat × Nat} {p r : Nat} {I J : Nat → Nat → Int32} {L : Nat → Nat → Int64} {kr : KR} {x1 x2 x3 x4 x5 : Int32} {M : Mm}
/-- four bytes come behind the tape -/
def tpB (x : Int32) (sh : Int32) : Int32 := (x >>> (sh &&& 31)).toInt8.toInt32.toInt8.toInt32
def tp1 (I : Nat → Nat → Int32) (t : Nat) (x sh : Int32) : Nat → Nat → Int32 := u2 (u2 I 3 t (tpB x sh)) 2 1 (nI (t + 1))
def tpI (I : Nat → Nat → Int32) (t : Nat) (x : Int32) : Nat → Nat → Int32 := tp1 (tp1 (tp1 (tp1 I t x 24) (t + 1) x 16) (t + 2) x 8) (t + 3) x 0
theorem tp1_c {t : Nat} {x sh : Int32} : tp1 I t x sh 2 1 = nI (t + 1) := u2_s
set_option maxRecDepth 20000 in
theorem tp_step {t : Nat} {sh : Int32} {b : Nat × Nat} (hI : I 2 1 = nI t) (ht : t < 900) (hs : ¬ sh < 0) (k : Wf l X uX4_tape d true b 3 [(0, .ref 2), (1, .int x1), (2, .int (sh + (-8)))] [] (mk w p r (tp1 I t x1 sh) L) kr) : Wf l X uX4_tape d true b 3 [(0, .ref 2), (1, .int x1), (2, .int sh)] [] (mk w p r I L) kr := by
  refine Wf.gc tkX4_tape [3] ?_
  conv => whnf
  refine ⟨fun z => absurd z hs, fun _ => ?_⟩
  conv => whnf
  refine ⟨fun z => absurd (show (900 : Int32) ≤ I 2 1 from z) (by rw [hI]; exact nI_ge (a := t) (b := 900) ht (by decide)), fun _ => ?_⟩
  conv => whnf
  refine ⟨t, ⟨hI, by omega, ht⟩, ?_⟩
  conv => whnf
  have e : tp1 I t x1 sh = u2 (u2 I 3 t (tpB x1 sh)) 2 1 (I 2 1 + 1) := by rw [hI, nI_1]; rfl
  rw [e] at k
  exact k
set_option maxRecDepth 20000 in
theorem k4_tape {t : Nat} (hI : I 2 1 = nI t) (ht : t + 4 ≤ 900) (h : kr none (mk w p r (tpI I t x1) L)) : Ev l X uX4_tape d true 0 0 [.ref 2, .int x1] (mk w p r I L) kr := by
  refine Ev.of (by decide) (Nat.le_of_ble_eq_true rfl) ?_
  refine Wf.gc tkX4_tape [3] ?_
  conv => whnf
  refine tp_step hI (by omega) (by decide) ?_
  refine tp_step (t := t + 1) tp1_c (by omega) (by decide) ?_
  refine tp_step (t := t + 2) tp1_c (by omega) (by decide) ?_
  refine tp_step (t := t + 3) tp1_c (by omega) (by decide) ?_
  refine Wf.gc tkX4_tape [] ?_
  conv => whnf
  refine ⟨fun _ => ?_, fun z => absurd (show (24 : Int32) + (-8) + (-8) + (-8) + (-8) < 0 by decide) z⟩
  conv => whnf
  exact h
theorem tpI_c {t : Nat} {x : Int32} : tpI I t x 2 1 = nI (t + 4) := tp1_c
theorem tpI_n {t : Nat} {x : Int32} (h : n150 I) : n150 (tpI I t x) := by
  unfold tpI tp1
  repeat (first | exact h | refine n150_u2 (by decide) ?_)
set_option maxRecDepth 20000 in
theorem f6_feed (h : ∀ I', n150 I' → kr (some (.int (nI 20))) (mk w 7 0 I' L)) : Ev l X uX6_feed (d + 6) true 0 0 [.ref 1, .int x1, .int x2, .int x3, .int x4, .int x5] (mk w 7 0 I0 L) kr := by
  refine Ev.of (by decide) (Nat.le_of_ble_eq_true rfl) ?_
  refine Wf.gc tkX6_feed [] ?_
  conv => whnf
  refine ⟨fun _ => ?_, fun z => absurd (show (0 : Int32) + 20 ≤ 900 by decide) z⟩
  conv => whnf
  refine k4_tape (t := 0) (by decide) (by decide) ?_
  conv => whnf
  refine k4_tape (t := 4) tpI_c (by decide) ?_
  conv => whnf
  refine k4_tape (t := 8) tpI_c (by decide) ?_
  conv => whnf
  refine k4_tape (t := 12) tpI_c (by decide) ?_
  conv => whnf
  refine k4_tape (t := 16) tpI_c (by decide) ?_
  conv => whnf
  have := h _ (tpI_n (t := 16) (x := x5) (tpI_n (t := 12) (x := x4) (tpI_n (t := 8) (x := x3) (tpI_n (t := 4) (x := x2) (tpI_n (t := 0) (x := x1) n150_0)))))
  exact this
/-! the reference -/
set_option maxRecDepth 20000 in
theorem f7_loop {b : Nat × Nat} (h : ∀ M', kr (some (.int (nI 20))) M') : ∀ n k, k + n = 20 → ∀ J : Nat → Nat → Int32, J 150 2 = nI k → Wf l X uX7_feed d true b 23 [(0, .ref 150), (1, .int x1), (2, .int x2), (3, .int x3), (4, .int x4), (5, .int x5), (6, .int (nI k))] [] (mk w 7 r J L) kr := by
  intro n
  induction n with
  | zero =>
    intro k hk J hJ
    have hk : k = 20 := by omega
    subst hk
    refine Wf.gc tkX7_feed [] ?_
    conv => whnf
    refine ⟨fun _ => ?_, fun z => absurd (show (20 : Int32) ≤ nI 20 by decide) z⟩
    conv => whnf
    have := h (mk w 7 r J L)
    rw [← hJ] at this
    exact this
  | succ n ih =>
    intro k hk J hJ
    have key : ∀ v : Int32, Wf l X uX7_feed d true b 76 [(0, .ref 150), (1, .int x1), (2, .int x2), (3, .int x3), (4, .int x4), (5, .int x5), (6, .int (nI k))] [.int v] (mk w 7 r J L) kr := by
      intro v
      refine Wf.gc tkX7_feed [23] ?_
      conv => whnf
      refine ⟨by decide, ?_⟩
      conv => whnf
      refine ⟨k, ⟨hJ, by omega, Nat.lt_of_lt_of_le (show k < 20 by omega) (Nat.le_of_ble_eq_true rfl)⟩, ?_⟩
      conv => whnf
      refine Wf.keep [0, 1, 2, 3, 4, 5, 6] ?_
      have e : nI k + 1 = nI (k + 1) := nI_1 k
      have := ih (k + 1) (by omega) (u2 (u2 J 151 k ((v >>> ((24 - 8 * (nI k - nI k / 4 * 4)) &&& 31)) &&& 255)) 150 2 (J 150 2 + 1)) (by rw [u2_s, hJ, e])
      rw [← e] at this
      exact this
    refine Wf.gc tkX7_feed [76] ?_
    conv => whnf
    refine ⟨fun z => absurd (show (20 : Int32) ≤ nI k from z) (nI_ge (a := k) (b := 20) (by omega) (by decide)), fun _ => ?_⟩
    conv => whnf
    refine ⟨fun _ => ?_, fun _ => ?_⟩
    · conv => whnf
      refine ⟨fun _ => ?_, fun _ => ?_⟩
      · conv => whnf
        refine ⟨fun _ => ?_, fun _ => ?_⟩
        · conv => whnf
          refine ⟨fun _ => ?_, fun _ => ?_⟩
          · conv => whnf
            exact key x5
          · conv => whnf
            exact key x4
        · conv => whnf
          exact key x3
      · conv => whnf
        exact key x2
    · conv => whnf
      exact key x1
set_option maxRecDepth 20000 in
theorem f7_feed (hI : n150 I) (h : ∀ M', kr (some (.int (nI 20))) M') : Ev l X uX7_feed (d + 6) true 0 0 [.ref 150, .int x1, .int x2, .int x3, .int x4, .int x5] (mk w 7 r I L) kr := by
  rw [jn_of hI]
  refine Ev.of (by decide) (Nat.le_of_ble_eq_true rfl) ?_
  refine Wf.gc tkX7_feed [23] ?_
  conv => whnf
  refine ⟨fun _ => ?_, fun z => absurd (show (0 : Int32) + 20 ≤ 900 by decide) z⟩
  conv => whnf
  exact f7_loop h 20 0 rfl _ rfl
end FEED
