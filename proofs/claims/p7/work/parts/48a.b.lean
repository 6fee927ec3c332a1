section SB
variable {l : Launch} {X : Nat × (Nat → Int32)} {d : Nat} {w : Nat × Nat} {p r : Nat} {I : Nat → Nat → Int32} {L : Nat → Nat → Int64} {kr : KR}
set_option maxRecDepth 20000 in
theorem sX0_start_n {a f : Nat} {v : Int32} (ha : a = 7 ∨ a = 20) (hf : f < 6) (h : kr none (mk w p r (cr I (I (a + 1) f) (I (a + 3) f) v 0 0 (I (a + 2) f) 0 0) L)) : Ev l X uX0_start d true 0 0 [.ref 40, .ref a, .int (nI f), .int (-2), .int v] (mk w p r I L) kr := by
  refine Ev.of (by decide) (Nat.le_of_ble_eq_true rfl) ?_
  refine Wf.go tkX0_start 60 ?_
  rw [← cr_new] at h
  rcases ha with rfl | rfl
  all_goals
    conv => whnf
    refine ⟨f, ix (N := 6) hf (by decide), ?_⟩
    conv => whnf
    refine ⟨f, ix (N := 6) hf (by decide), ?_⟩
    conv => whnf
    refine b2 (by decide) ?_
    conv => whnf
    refine ⟨f, ix (N := 6) hf (by decide), ?_⟩
    conv => whnf
    exact h
set_option maxRecDepth 20000 in
theorem sX0_start_c {a f j : Nat} {v : Int32} (ha : a = 7 ∨ a = 20) (hf : f < 6) (hj : j < 5) (h : kr none (mk w p r (cr I (I (a + 1) f) (I (a + 3) f) v (I (a + 8) j) 0 (I (a + 2) f) 0 0) L)) : Ev l X uX0_start d true 0 0 [.ref 40, .ref a, .int (nI f), .int (nI j), .int v] (mk w p r I L) kr := by
  refine Ev.of (by decide) (Nat.le_of_ble_eq_true rfl) ?_
  refine Wf.go tkX0_start 60 ?_
  rw [← cr_new] at h
  rcases ha with rfl | rfl
  all_goals
    conv => whnf
    refine ⟨f, ix (N := 6) hf (by decide), ?_⟩
    conv => whnf
    refine ⟨f, ix (N := 6) hf (by decide), ?_⟩
    conv => whnf
    refine b1 (fun z => z (nI_pos' (by omega))) ?_
    conv => whnf
    refine ⟨j, ix (N := 5) hj (by decide), ?_⟩
    conv => whnf
    refine ⟨f, ix (N := 6) hf (by decide), ?_⟩
    conv => whnf
    exact h
set_option maxRecDepth 20000 in
/-- Course.pass: a day -/
theorem sX0_pass {k wr v e : Int32} {y : Fc} {calm : Bool} (h : kr (some (.int (bI (cLt k v e calm y)))) (mk w p r (crf I k wr v e (cSt k wr v e calm y)) L)) : Ev l X uX0_pass d true 0 0 [.ref 40, .int (bI calm)] (mk w p r (crf I k wr v e y) L) kr := by
  obtain ⟨n, h0, bb, dr⟩ := y
  refine Ev.of (by decide) (Nat.le_of_ble_eq_true rfl) ?_
  refine Wf.go tkX0_pass 9 ?_
  conv => whnf
  simp only [crf, wI_mk, mI_mk, cr_4, crv4, crv5]
  refine ⟨fun c1 => ?_, fun c1 => ?_⟩
  -- it hasn't fallen
  · -- behind the canon
    have K : ∀ b1 : Int32, cVx v e calm (n + 1) bb = b1 → Wf l X uX0_pass d true (mC (mk w p r (crf I k wr v e (n, h0, bb, dr)) L) + 0, mS (mk w p r (crf I k wr v e (n, h0, bb, dr)) L) + 0) 55 [(0, .ref 40), (1, .int (bI calm))] [] (mk w p r (cr I k wr v e (n + 1) h0 b1 dr) L) kr := by
      intro b1 hb1
      have E : ∀ ls0 : Int32, cLs k h0 = ls0 → Wf l X uX0_pass d true (mC (mk w p r (crf I k wr v e (n, h0, bb, dr)) L) + 0, mS (mk w p r (crf I k wr v e (n, h0, bb, dr)) L) + 0) 76 [(0, .ref 40), (1, .int (bI calm))] [.int ls0] (mk w p r (cr I k wr v e (n + 1) h0 b1 dr) L) kr := by
        intro ls0 hls
        refine Wf.go tkX0_pass 5 ?_
        conv => whnf
        simp only [mI_mk, crv6]
        refine ⟨fun c2 => ?_, fun c2 => ?_⟩
        · have hlt : cLt k v e calm (n, h0, bb, dr) = true := decide_eq_true ⟨c1, by rw [hb1, hls]; exact Int32.not_lt.mpr c2⟩
          have c2' : ¬ cVx v e calm (n + 1) bb < cLs k h0 := by rw [hb1, hls]; exact Int32.not_lt.mpr c2
          have G : ∀ b2 : Int32, (if k = 1 then b1 - h0 else 0) = b2 → Wf l X uX0_pass d true (mC (mk w p r (crf I k wr v e (n, h0, bb, dr)) L) + 0, mS (mk w p r (crf I k wr v e (n, h0, bb, dr)) L) + 0) 109 [(0, .ref 40), (1, .int (bI calm)), (2, .int ls0)] [.int b2, .ref 40] (mk w p r (cr I k wr v e (n + 1) h0 b1 dr) L) kr := by
            intro b2 hb2
            refine Wf.go tkX0_pass 18 ?_
            conv => whnf
            simp only [wI_mk, mI_mk, cr_5, cr_6, cr_7, crv1, crv5, crv7]
            refine ⟨fun c3 => ?_, fun c3 => ?_⟩
            · refine Wf.go tkX0_pass 2 ?_
              conv => whnf
              rw [hlt] at h
              have c3' : ¬ h0 - wr < 1 := Int32.not_lt.mpr c3
              have ec : cSt k wr v e calm (n, h0, bb, dr) = (n + 1, h0 - wr, (if k = 1 then cVx v e calm (n + 1) bb - h0 else 0), dr + 1) := by
                unfold cSt
                rw [if_neg c1, if_neg c2', if_neg c3']
              rw [ec, hb1, hb2] at h
              exact ⟨Or.inr rfl, h⟩
            · refine Wf.go tkX0_pass 8 ?_
              conv => whnf
              simp only [wI_mk, cr_5, cr_6]
              rw [hlt] at h
              have c3' : h0 - wr < 1 := Int32.not_le.mp c3
              have ec : cSt k wr v e calm (n, h0, bb, dr) = (n + 1, 0, 0, dr + 1) := by
                unfold cSt
                rw [if_neg c1, if_neg c2', if_pos c3']
              rw [ec] at h
              exact ⟨Or.inr trivial, h⟩
          refine Wf.go tkX0_pass 5 ?_
          conv => whnf
          simp only [mI_mk, crv0]
          refine ⟨fun c4 => ?_, fun c4 => ?_⟩
          · refine Wf.go tkX0_pass 1 ?_
            conv => whnf
            exact G 0 (if_neg c4)
          · refine Wf.go tkX0_pass 6 ?_
            conv => whnf
            simp only [mI_mk, crv5, crv6]
            exact G _ (if_pos c4)
        · refine Wf.go tkX0_pass 2 ?_
          conv => whnf
          have c2' : b1 < ls0 := Int32.not_le.mp c2
          have hlt : cLt k v e calm (n, h0, bb, dr) = false := decide_eq_false (fun z => z.2 (by rw [hb1, hls]; exact c2'))
          rw [hlt] at h
          have c2'' : cVx v e calm (n + 1) bb < cLs k h0 := by rw [hb1, hls]; exact c2'
          have ec : cSt k wr v e calm (n, h0, bb, dr) = (n + 1, h0, cVx v e calm (n + 1) bb, dr) := by
            unfold cSt
            rw [if_neg c1, if_pos c2'']
          rw [ec, hb1] at h
          exact ⟨Or.inl rfl, h⟩
      refine Wf.go tkX0_pass 4 ?_
      conv => whnf
      simp only [mI_mk, crv0]
      refine ⟨fun c5 => ?_, fun c5 => ?_⟩
      · refine Wf.go tkX0_pass 2 ?_
        conv => whnf
        simp only [mI_mk, crv5]
        exact E _ (if_neg c5)
      · refine Wf.go tkX0_pass 5 ?_
        conv => whnf
        simp only [mI_mk, crv5]
        exact E _ (if_pos c5)
    refine Wf.go tkX0_pass 2 ?_
    conv => whnf
    cases calm with
    | true =>
      refine b1 (by decide) ?_
      exact K bb (if_neg (fun z => by cases z.1))
    | false =>
      refine b2 (fun z => z rfl) ?_
      refine Wf.go tkX0_pass 3 ?_
      conv => whnf
      simp only [mI_mk, crv3]
      refine ⟨fun c6 => ?_, fun c6 => ?_⟩
      · exact K bb (if_neg (fun z => Int32.not_le.mpr z.2.1 c6))
      · refine Wf.go tkX0_pass 6 ?_
        conv => whnf
        simp only [mI_mk, crv3, crv4]
        have c6' : 0 < e := Int32.not_le.mp c6
        refine ⟨fun z => by rw [z] at c6'; exact absurd c6' (by decide), ?_⟩
        conv => whnf
        refine ⟨fun c7 => ?_, fun c7 => ?_⟩
        · exact K bb (if_neg (fun z => c7 z.2.2))
        · refine Wf.go tkX0_pass 7 ?_
          conv => whnf
          simp only [wI_mk, mI_mk, cr_6, crv2, crv6]
          exact K (bb + v) (if_pos ⟨rfl, c6', c7⟩)
  · refine Wf.go tkX0_pass 2 ?_
    conv => whnf
    have hlt : cLt k v e calm (n, h0, bb, dr) = false := decide_eq_false (fun z => z.1 c1)
    rw [hlt] at h
    have ec : cSt k wr v e calm (n, h0, bb, dr) = (n + 1, h0, bb, dr) := by
      unfold cSt
      rw [if_pos c1]
    rw [ec] at h
    exact ⟨Or.inl rfl, h⟩
set_option maxRecDepth 20000 in
theorem sX0_passAll {k wr v e : Int32} {y : Fc} {N : Nat} (hN : N < 1000) (h : kr none (mk w p r (crf I k wr v e (cIt k wr v e y N)) L)) : Ev l X uX0_passAll (d + 1) true 0 0 [.ref 40, .int (nI N)] (mk w p r (crf I k wr v e y) L) kr := by
  refine Ev.of (by decide) (Nat.le_of_ble_eq_true rfl) ?_
  refine Wf.gc tkX0_passAll [2] ?_
  conv => whnf
  refine down (fun i => Wf l X uX0_passAll (d + 1) true _ 2 [(0, .ref 40), (1, .int (nI N)), (2, .int (nI (i + 1)))] [] (mk w p r (crf I k wr v e (cIt k wr v e y i)) L) kr) N ?_ (fun i hi hw => ?_) 0 (Nat.zero_le _)
  · refine Wf.gc tkX0_passAll [2] ?_
    conv => whnf
    refine b1 (fun z => z (nI_lt (by omega) (by omega))) ?_
    conv => whnf
    exact h
  · refine Wf.gc tkX0_passAll [2] ?_
    conv => whnf
    refine b2 (nI_nlt (by omega) (by omega)) ?_
    conv => whnf
    refine sX0_pass (calm := false) ?_
    conv => whnf
    rw [nI_s]
    exact hw
set_option maxRecDepth 20000 in
theorem sX0_firstDrop {k wr v e : Int32} {y : Fc} {N : Nat} (hN : N < 1000) (h : ∀ y', kr (some (.int (oI ((ff (fun i => cLt k v e false (cIt k wr v e y i)) N 0).map (· + 1))))) (mk w p r (crf I k wr v e y') L)) : Ev l X uX0_firstDrop (d + 1) true 0 0 [.ref 40, .int (nI N)] (mk w p r (crf I k wr v e y) L) kr := by
  refine Ev.of (by decide) (Nat.le_of_ble_eq_true rfl) ?_
  refine Wf.gc tkX0_firstDrop [2] ?_
  conv => whnf
  refine srch (e := N) (P := fun i => cLt k v e false (cIt k wr v e y i)) (Wi := fun i => Wf l X uX0_firstDrop (d + 1) true _ 2 [(0, .ref 40), (1, .int (nI N)), (2, .int (nI (i + 1)))] [] (mk w p r (crf I k wr v e (cIt k wr v e y i)) L) kr) (K := fun o => ∀ y', kr (some (.int (oI (o.map (· + 1))))) (mk w p r (crf I k wr v e y') L)) (fun hk => ?_) (fun i hi => ⟨fun hP hk => ?_, fun hP hw => ?_⟩) 0 (Nat.zero_le _) h
  · refine Wf.gc tkX0_firstDrop [2] ?_
    conv => whnf
    refine b1 (fun z => z (nI_lt (by omega) (by omega))) ?_
    conv => whnf
    exact hk _
  · refine Wf.gc tkX0_firstDrop [2] ?_
    conv => whnf
    refine b2 (nI_nlt (by omega) (by omega)) ?_
    conv => whnf
    refine sX0_pass (calm := false) ?_
    rw [hP]
    conv => whnf
    refine b2 (by decide) ?_
    conv => whnf
    exact hk _
  · refine Wf.gc tkX0_firstDrop [2] ?_
    conv => whnf
    refine b2 (nI_nlt (by omega) (by omega)) ?_
    conv => whnf
    refine sX0_pass (calm := false) ?_
    rw [hP]
    conv => whnf
    refine b1 (fun z => z rfl) ?_
    conv => whnf
    rw [nI_s]
    exact hw
theorem sX2_hasFallen {a f : Nat} (hf : f < 6) (ha : a = 33) (h1 : I 34 f = 0 → kr (some (.int 1)) (mk w p r I L)) (h0 : ¬ I 34 f = 0 → kr (some (.int 0)) (mk w p r I L)) : Ev l X uX2_hasFallen d true 0 0 [.ref a, .int (nI f)] (mk w p r I L) kr := by
  subst ha
  refine Ev.of (by decide) (Nat.le_of_ble_eq_true rfl) ?_
  refine Wf.gc tkX2_hasFallen [] ?_
  conv => whnf
  refine ⟨f, ix (N := 6) hf (by decide), ?_⟩
  conv => whnf
  refine ⟨fun c1 => ?_, fun c1 => ?_⟩
  · conv => whnf
    exact ⟨Or.inl rfl, h0 c1⟩
  · conv => whnf
    exact ⟨Or.inr rfl, h1 c1⟩
/-- who has a face now -/
def cOf (I : Nat → Nat → Int32) (C : Nat) (f : Int32) : Option Nat := ff (fun c => decide (I 37 c = f)) C 0
set_option maxRecDepth 20000 in
theorem sX6_canonOf {C : Nat} {f : Int32} (hp : p = 7 ∨ p = 20) (hC : I p 10 = nI C) (hb : C ≤ 5) (h : kr (some (.int (oI (cOf I C f)))) (mk w p r I L)) : Ev l X uX6_canonOf d true 0 0 [.ref 1, .int f] (mk w p r I L) kr := by
  refine Ev.of (by decide) (Nat.le_of_ble_eq_true rfl) ?_
  refine Wf.gc tkX6_canonOf [2] ?_
  conv => whnf
  refine srch (e := C) (P := fun c => decide (I 37 c = f)) (Wi := fun i => Wf l X uX6_canonOf d true _ 2 [(0, .ref 1), (1, .int f), (2, .int (nI i))] [] (mk w p r I L) kr) (K := fun o => kr (some (.int (oI o))) (mk w p r I L)) (fun hk => ?_) (fun i hi => ⟨fun hP hk => ?_, fun hP hw => ?_⟩) 0 (Nat.zero_le _) h
  all_goals rcases hp with rfl | rfl
  all_goals refine Wf.gc tkX6_canonOf [2] ?_
  all_goals conv => whnf
  · refine b1 (fun z => z (cle hC (Nat.le_refl _) (by omega))) ?_
    conv => whnf
    exact hk
  · refine b1 (fun z => z (cle hC (Nat.le_refl _) (by omega))) ?_
    conv => whnf
    exact hk
  all_goals
    refine b2 (cnle hC hi (by omega)) ?_
    conv => whnf
    refine ⟨i, ix (N := 5) (by omega) (by decide), ?_⟩
    conv => whnf
    first
      | (refine b2 (fun z => z (of_decide_eq_true hP)) ?_
         conv => whnf
         exact hk)
      | (refine b1 (of_decide_eq_false hP) ?_
         conv => whnf
         rw [nI_s]
         exact hw)
/-- how vexed, how often (nobody: 0, 0) -/
def vxO (I : Nat → Nat → Int32) (p : Nat) : Option Nat → Int32
  | none => 0
  | some c => I (p + 7) c
def evO (I : Nat → Nat → Int32) (p : Nat) : Option Nat → Int32
  | none => 0
  | some c => I (p + 8) c
/-- face f's course from now on, had by o -/
def nowF (I : Nat → Nat → Int32) (f : Nat) : Fc := (I 33 4, I 34 f, I 35 f, 0)
def crs (I : Nat → Nat → Int32) (p f : Nat) (o : Option Nat) (y : Fc) : Nat → Nat → Int32 := crf I (I (p + 1) f) (I (p + 3) f) (vxO I p o) (evO I p o) y
set_option maxRecDepth 20000 in
theorem sX6_startNow {f : Nat} {o : Option Nat} (hp : p = 7 ∨ p = 20) (hf : f < 6) (ho : ∀ c, o = some c → c < 5) (h : kr none (mk w p r (crs I p f o (nowF I f)) L)) : Ev l X uX6_startNow (d + 1) true 0 0 [.ref 1, .int (nI f), .int (oI o)] (mk w p r I L) kr := by
  refine Ev.of (by decide) (Nat.le_of_ble_eq_true rfl) ?_
  refine Wf.gc tkX6_startNow [] ?_
  have tail : ∀ v e : Int32, vxO I p o = v → evO I p o = e → kr none (mk w p r (u2 (u2 (u2 (cr I (I (p + 1) f) (I (p + 3) f) v e 0 (I (p + 2) f) 0 0) 40 5 (I 34 f)) 40 6 (I 35 f)) 40 4 (I 33 4)) L) := by
    intro v e hv he
    rw [cr_5, cr_6, cr_4, ← hv, ← he]
    exact h
  have hq := hp
  rcases hp with rfl | rfl
  all_goals
    cases o with
    | none =>
      conv => whnf
      refine b2 (by decide) ?_
      conv => whnf
      refine sX0_start_n hq hf ?_
      conv => whnf
      refine ⟨f, ix (N := 6) hf (by decide), ?_⟩
      conv => whnf
      refine ⟨f, ix (N := 6) hf (by decide), ?_⟩
      conv => whnf
      exact tail _ _ rfl rfl
    | some c =>
      have hc := ho c rfl
      conv => whnf
      refine b1 (fun z => z (nI_pos' (by omega))) ?_
      conv => whnf
      refine ⟨c, ix (N := 5) hc (by decide), ?_⟩
      conv => whnf
      refine sX0_start_c hq hf hc ?_
      conv => whnf
      refine ⟨f, ix (N := 6) hf (by decide), ?_⟩
      conv => whnf
      refine ⟨f, ix (N := 6) hf (by decide), ?_⟩
      conv => whnf
      exact tail _ _ rfl rfl
/-- the face's course behind n days -/
def fw (I : Nat → Nat → Int32) (p f : Nat) (o : Option Nat) (n : Nat) : Fc := cIt (I (p + 1) f) (I (p + 3) f) (vxO I p o) (evO I p o) (nowF I f) n
theorem cOf_lt {I : Nat → Nat → Int32} {C : Nat} {f : Int32} (hb : C ≤ 5) : ∀ c, cOf I C f = some c → c < 5 := fun c hc => by have := (ff_lt hc).2.1; omega
theorem sX6_follow {f C N : Nat} (hp : p = 7 ∨ p = 20) (hC : I p 10 = nI C) (hb : C ≤ 5) (hf : f < 6) (hN : N < 1000) (h : kr none (mk w p r (crs I p f (cOf I C (nI f)) (fw I p f (cOf I C (nI f)) N)) L)) : Ev l X uX6_follow (d + 2) true 0 0 [.ref 1, .int (nI f), .int (nI N)] (mk w p r I L) kr := by
  refine Ev.of (by decide) (Nat.le_of_ble_eq_true rfl) ?_
  refine Wf.gc tkX6_follow [] ?_
  conv => whnf
  refine sX6_canonOf hp hC hb ?_
  conv => whnf
  refine sX6_startNow hp hf (cOf_lt hb) ?_
  conv => whnf
  refine sX0_passAll hN ?_
  conv => whnf
  exact h
end SB
