/-! the reference's line -/
section RL6
variable {l : Launch} {X : Nat × (Nat → Int32)} {d : Nat} {w : Nat × Nat} {p r : Nat} {I : Nat → Nat → Int32} {L : Nat → Nat → Int64} {kr : KR} {b : Nat → Nat} {n e : Nat} {nm : List Nm} {F : Nat → Nat} {W : Int32}
/-- the fault of a line's first word -/
def bgf (b : Nat → Nat) (n : Nat) (F : Nat → Nat) (e : Nat) (cn : Bool) : Nat := if cn = false then 5 else if F 9 = 0 then 6 else if 0 < F 6 ∧ isW b n 1 e = true then 7 else 0
set_option maxRecDepth 20000 in
theorem bg_72 {wd : Nat} {c : Int32} {bs : Nat × Nat} {J : Nat → Nat → Int32} (hJ : ¬ J 150 13 = 0) (q : kr (some (.int 1)) (mk w p r J L)) : Wf l X uX7_begins (d + 6) true bs 72 [(0, .ref 150), (1, .ref wd), (2, .int c)] [] (mk w p r J L) kr := by
  refine Wf.gc tkX7_begins [] ?_
  conv => whnf
  refine y_pass_f (d := d + 2) hJ ?_
  conv => whnf
  exact ⟨Or.inr rfl, q⟩
set_option maxRecDepth 20000 in
theorem bg_43 {wd : Nat} {c : Int32} {bs : Nat × Nat} {J : Nat → Nat → Int32} (hJ : ¬ J 150 13 = 0) (q : kr (some (.int 1)) (mk w p r J L)) : Wf l X uX7_begins (d + 6) true bs 43 [(0, .ref 150), (1, .ref wd), (2, .int c)] [] (mk w p r J L) kr := by
  refine Wf.gc tkX7_begins [72] ?_
  conv => whnf
  refine ⟨6, ⟨rfl, by decide, show 6 < 202 by decide⟩, ?_⟩
  conv => whnf
  refine ⟨fun _ => ?_, fun _ => ?_⟩
  · conv => whnf
    exact bg_72 hJ q
  · conv => whnf
    refine y_isWord_f (d := d) (by decide) hJ ?_
    conv => whnf
    refine b1' rfl ?_
    conv => whnf
    exact bg_72 hJ q
set_option maxRecDepth 20000 in
theorem bg_23 {wd : Nat} {c : Int32} {bs : Nat × Nat} {J : Nat → Nat → Int32} (hJ : ¬ J 150 13 = 0) (q : kr (some (.int 1)) (mk w p r J L)) : Wf l X uX7_begins (d + 6) true bs 23 [(0, .ref 150), (1, .ref wd), (2, .int c)] [] (mk w p r J L) kr := by
  refine Wf.gc tkX7_begins [43] ?_
  conv => whnf
  refine ⟨9, ⟨rfl, by decide, show 9 < 202 by decide⟩, ?_⟩
  conv => whnf
  refine ⟨fun _ => ?_, fun _ => ?_⟩
  · conv => whnf
    exact bg_43 hJ q
  · conv => whnf
    refine y_wrong1 hJ ?_
    conv => whnf
    exact bg_43 hJ q
set_option maxHeartbeats 2000000 in
set_option maxRecDepth 20000 in
theorem y_begins {wd i : Nat} {cn : Bool} (hi : wd - 5000 = 21 + i) (hw : 5000 ≤ wd ∧ wd < 5042) (hr : RX b n I) (he : e ≤ n) (hc : TR b n e I) (h0 : I 150 13 = 0) (hf : FR F W I) (BF : ∀ k, F k < 1000) (h1 : isW b n i e = false → kr (some (.int 0)) (mk w p r I L)) (h2 : isW b n i e = true → bgf b n F e cn = 0 → ∀ I', sN I I' → TR b n (tn b n 1 e) I' → kr (some (.int 1)) (mk w p r I' L)) (h3 : isW b n i e = true → bgf b n F e cn ≠ 0 → kr (some (.int 1)) (mk w p r (flR I (bgf b n F e cn) (tst b n e)) L)) : Ev l X uX7_begins (d + 6) true 0 0 [.ref 150, .ref wd, .int (bI cn)] (mk w p r I L) kr := by
  have p0 : Nat.blt 0 wd = true := Nat.ble_eq_true_of_le (by omega)
  have v9 : I 154 9 = nI (F 9) := hf.1 9 (by decide) (by decide)
  have v6 : I 154 6 = nI (F 6) := hf.1 6 (by decide) (by decide)
  have B9 := BF 9
  have B6 := BF 6
  refine Ev.of (by decide) (Nat.le_of_ble_eq_true rfl) ?_
  refine Wf.sAl tkX7_begins rfl rfl rfl ?_
  refine Wf.sAl tkX7_begins rfl rfl p0 ?_
  refine Wf.sCv (as := [.ref wd]) (rest := []) tkX7_begins rfl rfl rfl rfl ?_
  refine y_isWord (d := d) hr he hc h0 hw ?_
  rw [wd21 hi]
  have fin : (∀ I', sN I I' → TR b n (tn b n 1 e) I' → kr (some (.int 1)) (mk w p r I' L)) → Wf l X uX7_begins (d + 6) true (mC (mk w p r I L) + 0, mS (mk w p r I L) + 0) 72 [(0, .ref 150), (1, .ref wd), (2, .int (bI cn))] [] (mk w p r I L) kr := by
    intro q
    refine Wf.gc tkX7_begins [] ?_
    conv => whnf
    refine y_pass (d := d + 2) hr he hc h0 (fun I' hs' hc' => ?_)
    conv => whnf
    exact ⟨Or.inr rfl, q I' hs' hc'⟩
  have eJ : ∀ (k : Nat) (v : Int32), v = nI k → u2 (u2 (u2 I 150 13 1) 150 9 v) 150 10 (I 150 4) = flR I k (tst b n e) := fun k v hv => by unfold flR; rw [← hc.2.1, hv]
  refine Wf.sIf (x := bI (isW b n i e)) tkX7_begins rfl (fun z => ?_) (fun z => ?_)
  · have hq := bI_t z
    have h2 := h2 hq
    have h3 := h3 hq
    unfold bgf at h2 h3
    cases cn with
    | false =>
      rw [if_pos rfl] at h3
      refine Wf.gc tkX7_begins [23] ?_
      conv => whnf
      refine b2 (fun z => z rfl) ?_
      conv => whnf
      refine y_wrong0 h0 ?_
      conv => whnf
      show Wf l X uX7_begins (d + 6) true (mC (mk w p r I L) + 0, mS (mk w p r I L) + 0) 23 [(0, .ref 150), (1, .ref wd), (2, .int 0)] [] (mk w p r (u2 (u2 (u2 I 150 13 1) 150 9 5) 150 10 (I 150 4)) L) kr
      rw [eJ 5 5 rfl]
      exact bg_23 flR_n (h3 (by decide))
    | true =>
      rw [if_neg (by decide)] at h2 h3
      refine Wf.gc tkX7_begins [23] ?_
      conv => whnf
      refine b1 (by decide) ?_
      conv => whnf
      show Wf l X uX7_begins (d + 6) true (mC (mk w p r I L) + 0, mS (mk w p r I L) + 0) 23 [(0, .ref 150), (1, .ref wd), (2, .int 1)] [] (mk w p r I L) kr
      refine Wf.gc tkX7_begins [43] ?_
      conv => whnf
      refine ⟨9, ⟨rfl, by decide, show 9 < 202 by decide⟩, ?_⟩
      conv => whnf
      refine ⟨fun z => ?_, fun z => ?_⟩
      · have z : ¬ I 154 9 = 0 := z
        rw [v9, show (0 : Int32) = nI 0 from rfl, nI_eq (by omega) (by decide)] at z
        rw [if_neg z] at h2 h3
        conv => whnf
        show Wf l X uX7_begins (d + 6) true (mC (mk w p r I L) + 0, mS (mk w p r I L) + 0) 43 [(0, .ref 150), (1, .ref wd), (2, .int 1)] [] (mk w p r I L) kr
        refine Wf.gc tkX7_begins [72] ?_
        conv => whnf
        refine ⟨6, ⟨rfl, by decide, show 6 < 202 by decide⟩, ?_⟩
        conv => whnf
        refine ⟨fun y => ?_, fun y => ?_⟩
        · have y : I 154 6 ≤ 0 := y
          rw [v6, show (0 : Int32) = nI 0 from rfl, nI_leI (by omega) (by decide)] at y
          rw [if_neg (fun q => by have := q.1; omega)] at h2
          conv => whnf
          exact fin (h2 rfl)
        · have y : ¬ I 154 6 ≤ 0 := y
          rw [v6, show (0 : Int32) = nI 0 from rfl, nI_leI (by omega) (by decide)] at y
          conv => whnf
          refine y_isWord (wd := 5022) (d := d) hr he hc h0 (by decide) ?_
          rw [show isW b n (5022 - 5000) e = isW b n 1 e from wd21 (wd := 5022) (i := 1) (by decide)]
          cases hw1 : isW b n 1 e with
          | true =>
            rw [if_pos ⟨by omega, hw1⟩] at h3
            conv => whnf
            refine b2' (by decide) ?_
            conv => whnf
            refine y_wrong0 h0 ?_
            conv => whnf
            show Wf l X uX7_begins (d + 6) true (mC (mk w p r I L) + 0, mS (mk w p r I L) + 0) 72 [(0, .ref 150), (1, .ref wd), (2, .int 1)] [] (mk w p r (u2 (u2 (u2 I 150 13 1) 150 9 7) 150 10 (I 150 4)) L) kr
            rw [eJ 7 7 rfl]
            exact bg_72 flR_n (h3 (by decide))
          | false =>
            rw [if_neg (fun q => by have := q.2; rw [hw1] at this; cases this)] at h2
            conv => whnf
            refine b1' rfl ?_
            conv => whnf
            exact fin (h2 rfl)
      · have z : I 154 9 = 0 := z
        rw [v9, show (0 : Int32) = nI 0 from rfl, nI_eq (by omega) (by decide)] at z
        rw [if_pos z] at h3
        conv => whnf
        refine y_wrong0 h0 ?_
        conv => whnf
        show Wf l X uX7_begins (d + 6) true (mC (mk w p r I L) + 0, mS (mk w p r I L) + 0) 43 [(0, .ref 150), (1, .ref wd), (2, .int 1)] [] (mk w p r (u2 (u2 (u2 I 150 13 1) 150 9 6) 150 10 (I 150 4)) L) kr
        rw [eJ 6 6 rfl]
        exact bg_43 flR_n (h3 (by decide))
  · refine Wf.gc tkX7_begins [] ?_
    conv => whnf
    exact ⟨Or.inl rfl, h1 (bI_f z)⟩
set_option maxHeartbeats 8000000 in
set_option maxRecDepth 20000 in
theorem y_readLine (hB : Bd F W nm) (hZ : F 0 = 0 → F 3 = 0 ∧ F 4 = 0 ∧ F 5 = 0 ∧ F 6 = 0 ∧ F 7 = 0) (hS : SF b n (F, W, nm, e) I) (hE : ∀ er, ln b n F W nm e = .inl er → ∀ I', FE I er I' → kr none (mk w p r I' L)) (hO : ∀ P', ln b n F W nm e = .inr P' → ∀ I', sQ I I' → SF b n P' I' → kr none (mk w p r I' L)) : Ev l X uX7_readLine (d + 10) true 0 0 [.ref 150] (mk w p r I L) kr := by
  obtain ⟨hr, he, hc, h0, hf, hn, hs, hu, hk, h9⟩ := id hS
  have he : e ≤ n := he
  have hc : TR b n e I := hc
  have hf : FR F W I := hf
  have h9 : F 9 = 0 ↔ F 0 = 0 := h9
  have BF := hB.2.1
  unfold ln at hE hO
  have eJ : ∀ (k : Nat) (v : Int32), v = nI k → u2 (u2 (u2 I 150 13 1) 150 9 v) 150 10 (I 150 4) = flR I k (tst b n e) := fun k v hv => by unfold flR; rw [← hc.2.1, hv]
  have sf1 : ∀ I', sN I I' → TR b n (tn b n 1 e) I' → SF b n (F, W, nm, tn b n 1 e) I' := fun I' hs' hc' => ⟨RX_sN hr hs', tn_b he 1, hc', (sN13 hs').trans h0, FR_sN hf hs', RN_sN hn hs', hs, hu, hk, h9⟩
  have t191 : (isW b n 0 e = false ∧ isW b n 1 e = false ∧ isW b n 2 e = false ∧ isW b n 3 e = false ∧ isW b n 4 e = false ∧ isW b n 5 e = false ∧ isW b n 6 e = false) → Wf l X uX7_readLine (d + 10) true (mC (mk w p r I L) + 0, mS (mk w p r I L) + 0) 191 [(0, .ref 150)] [] (mk w p r I L) kr := by
    rintro ⟨g0, g1, g2, g3, g4, g5, g6⟩
    rw [if_pos (by unfold bgl; rw [g0, g1, g2, g3, g4, g5, g6]; rfl)] at hE
    have fe := hE _ rfl _ (FE_fl (I := I) (I1 := I) (k := 1) (s := tst b n e) sQ.rf)
    refine Wf.gc tkX7_readLine [] ?_
    conv => whnf
    refine y_wrong0 h0 ?_
    conv => whnf
    rw [← eJ 1 1 rfl] at fe
    exact fe
  have t174 : (isW b n 0 e = false ∧ isW b n 1 e = false ∧ isW b n 2 e = false ∧ isW b n 3 e = false ∧ isW b n 4 e = false ∧ isW b n 5 e = false) → Wf l X uX7_readLine (d + 10) true (mC (mk w p r I L) + 0, mS (mk w p r I L) + 0) 174 [(0, .ref 150)] [] (mk w p r I L) kr := by
    rintro ⟨g0, g1, g2, g3, g4, g5⟩
    refine Wf.gc tkX7_readLine [191] ?_
    conv => whnf
    refine y_begins (F := F) (wd := 5027) (i := 6) (cn := true) (d := d + 3) (by decide) (by decide) hr he hc h0 hf BF (fun q => ?_) (fun q q2 I1 hs1 hc1 => ?_) (fun q q2 => ?_)
    · conv => whnf
      refine b1' rfl ?_
      conv => whnf
      exact t191 ⟨g0, g1, g2, g3, g4, g5, q⟩
    · have z9 : ¬ F 0 = 0 := fun z => by unfold bgf at q2; rw [if_neg (by decide), if_pos (h9.mpr z)] at q2; cases q2
      rw [if_neg (by unfold bgl; rw [g0, g1, g2, g3, g4, g5, q]; exact (show ¬ true = false by decide)), if_neg (by rw [g0]; decide), if_neg z9, if_neg (by rw [g1]; decide), if_neg (by rw [g2]; decide), if_neg (by rw [g3]; decide), if_neg (by rw [g4]; decide), if_neg (by rw [g5]; decide)] at hE hO
      conv => whnf
      refine b2' (by decide) ?_
      conv => whnf
      refine y_droppedLine (d := d) hB (sf1 I1 hs1 hc1) he (fun er q3 I2 fe => ?_) (fun P' q3 I2 sq sf => ?_)
      · conv => whnf
        exact hE er q3 I2 (FE_tr hs1.sQ fe)
      · conv => whnf
        exact hO P' q3 I2 (hs1.sQ.tr sq) sf
    · have z9 : F 0 = 0 := Classical.byContradiction (fun z => q2 (by unfold bgf; rw [if_neg (by decide), if_neg (fun y => z (h9.mp y)), if_neg (fun y => by have := y.2; rw [g1] at this; cases this)]))
      have eb : bgf b n F e true = 6 := by unfold bgf; rw [if_neg (by decide), if_pos (h9.mpr z9)]
      rw [if_neg (by unfold bgl; rw [g0, g1, g2, g3, g4, g5, q]; exact (show ¬ true = false by decide)), if_neg (by rw [g0]; decide), if_pos z9] at hE
      rw [eb]
      conv => whnf
      refine b2' (by decide) ?_
      conv => whnf
      refine y_droppedLine_f (d := d) flR_n ?_
      conv => whnf
      exact hE _ rfl _ (FE_fl sQ.rf)
  have t142 : (isW b n 0 e = false ∧ isW b n 1 e = false ∧ isW b n 2 e = false ∧ isW b n 3 e = false ∧ isW b n 4 e = false) → Wf l X uX7_readLine (d + 10) true (mC (mk w p r I L) + 0, mS (mk w p r I L) + 0) 142 [(0, .ref 150)] [] (mk w p r I L) kr := by
    rintro ⟨g0, g1, g2, g3, g4⟩
    by_cases hl : 4 ≤ F 7
    · refine Wf.gc tkX7_readLine [174] ?_
      conv => whnf
      refine ⟨7, ⟨rfl, by decide, show 7 < 202 by decide⟩, ?_⟩
      conv => whnf
      refine b1' (by show (4 : Int32) ≤ I 154 7; rw [hf.1 7 (by decide) (by decide), show (4 : Int32) = nI 4 from rfl, nI_leI (by decide) (by have := BF 7; omega)]; exact hl) ?_
      conv => whnf
      refine y_begins (F := F) (wd := 5026) (i := 5) (cn := false) (d := d + 3) (by decide) (by decide) hr he hc h0 hf BF (fun q => ?_) (fun q q2 I1 hs1 hc1 => ?_) (fun q q2 => ?_)
      · conv => whnf
        refine b1' rfl ?_
        conv => whnf
        exact t174 ⟨g0, g1, g2, g3, g4, q⟩
      · unfold bgf at q2
        rw [if_pos rfl] at q2
        cases q2
      · rw [if_neg (by unfold bgl; rw [g0, g1, g2, g3, g4, q]; exact (show ¬ true = false by decide)), if_neg (by rw [g0]; decide), if_neg (fun z => by have := hZ z; omega), if_neg (by rw [g1]; decide), if_neg (by rw [g2]; decide), if_neg (by rw [g3]; decide), if_neg (by rw [g4]; decide), if_pos q] at hE
        unfold lnUnsure at hE
        rw [if_pos hl] at hE
        unfold bgf
        rw [if_pos rfl]
        conv => whnf
        refine b2' (by decide) ?_
        conv => whnf
        refine y_unsureLine_f (d := d + 1) flR_n ?_
        conv => whnf
        exact hE _ rfl _ (FE_fl sQ.rf)
    · refine Wf.gc tkX7_readLine [174] ?_
      conv => whnf
      refine ⟨7, ⟨rfl, by decide, show 7 < 202 by decide⟩, ?_⟩
      conv => whnf
      refine b2' (by show ¬ (4 : Int32) ≤ I 154 7; rw [hf.1 7 (by decide) (by decide), show (4 : Int32) = nI 4 from rfl, nI_leI (by decide) (by have := BF 7; omega)]; exact hl) ?_
      conv => whnf
      refine y_begins (F := F) (wd := 5026) (i := 5) (cn := true) (d := d + 3) (by decide) (by decide) hr he hc h0 hf BF (fun q => ?_) (fun q q2 I1 hs1 hc1 => ?_) (fun q q2 => ?_)
      · conv => whnf
        refine b1' rfl ?_
        conv => whnf
        exact t174 ⟨g0, g1, g2, g3, g4, q⟩
      · have z9 : ¬ F 0 = 0 := fun z => by unfold bgf at q2; rw [if_neg (by decide), if_pos (h9.mpr z)] at q2; cases q2
        rw [if_neg (by unfold bgl; rw [g0, g1, g2, g3, g4, q]; exact (show ¬ true = false by decide)), if_neg (by rw [g0]; decide), if_neg z9, if_neg (by rw [g1]; decide), if_neg (by rw [g2]; decide), if_neg (by rw [g3]; decide), if_neg (by rw [g4]; decide), if_pos q] at hE hO
        conv => whnf
        refine b2' (by decide) ?_
        conv => whnf
        refine y_unsureLine (d := d + 1) hB hl (sf1 I1 hs1 hc1) he (fun er q3 I2 fe => ?_) (fun P' q3 I2 sq sf => ?_)
        · conv => whnf
          exact hE er q3 I2 (FE_tr hs1.sQ fe)
        · conv => whnf
          exact hO P' q3 I2 (hs1.sQ.tr sq) sf
      · have z9 : F 0 = 0 := Classical.byContradiction (fun z => q2 (by unfold bgf; rw [if_neg (by decide), if_neg (fun y => z (h9.mp y)), if_neg (fun y => by have := y.2; rw [g1] at this; cases this)]))
        have eb : bgf b n F e true = 6 := by unfold bgf; rw [if_neg (by decide), if_pos (h9.mpr z9)]
        rw [if_neg (by unfold bgl; rw [g0, g1, g2, g3, g4, q]; exact (show ¬ true = false by decide)), if_neg (by rw [g0]; decide), if_pos z9] at hE
        rw [eb]
        conv => whnf
        refine b2' (by decide) ?_
        conv => whnf
        refine y_unsureLine_f (d := d + 1) flR_n ?_
        conv => whnf
        exact hE _ rfl _ (FE_fl sQ.rf)
  have t110 : (isW b n 0 e = false ∧ isW b n 1 e = false ∧ isW b n 2 e = false ∧ isW b n 3 e = false) → Wf l X uX7_readLine (d + 10) true (mC (mk w p r I L) + 0, mS (mk w p r I L) + 0) 110 [(0, .ref 150)] [] (mk w p r I L) kr := by
    rintro ⟨g0, g1, g2, g3⟩
    by_cases hl : 4 ≤ F 6
    · refine Wf.gc tkX7_readLine [142] ?_
      conv => whnf
      refine ⟨6, ⟨rfl, by decide, show 6 < 202 by decide⟩, ?_⟩
      conv => whnf
      refine b1' (by show (4 : Int32) ≤ I 154 6; rw [hf.1 6 (by decide) (by decide), show (4 : Int32) = nI 4 from rfl, nI_leI (by decide) (by have := BF 6; omega)]; exact hl) ?_
      conv => whnf
      refine y_begins (F := F) (wd := 5025) (i := 4) (cn := false) (d := d + 3) (by decide) (by decide) hr he hc h0 hf BF (fun q => ?_) (fun q q2 I1 hs1 hc1 => ?_) (fun q q2 => ?_)
      · conv => whnf
        refine b1' rfl ?_
        conv => whnf
        exact t142 ⟨g0, g1, g2, g3, q⟩
      · unfold bgf at q2
        rw [if_pos rfl] at q2
        cases q2
      · rw [if_neg (by unfold bgl; rw [g0, g1, g2, g3, q]; exact (show ¬ true = false by decide)), if_neg (by rw [g0]; decide), if_neg (fun z => by have := hZ z; omega), if_neg (by rw [g1]; decide), if_neg (by rw [g2]; decide), if_neg (by rw [g3]; decide), if_pos q] at hE
        unfold lnWalker at hE
        rw [if_pos hl] at hE
        unfold bgf
        rw [if_pos rfl]
        conv => whnf
        refine b2' (by decide) ?_
        conv => whnf
        refine y_walkerLine_f (d := d + 1) flR_n ?_
        conv => whnf
        exact hE _ rfl _ (FE_fl sQ.rf)
    · refine Wf.gc tkX7_readLine [142] ?_
      conv => whnf
      refine ⟨6, ⟨rfl, by decide, show 6 < 202 by decide⟩, ?_⟩
      conv => whnf
      refine b2' (by show ¬ (4 : Int32) ≤ I 154 6; rw [hf.1 6 (by decide) (by decide), show (4 : Int32) = nI 4 from rfl, nI_leI (by decide) (by have := BF 6; omega)]; exact hl) ?_
      conv => whnf
      refine y_begins (F := F) (wd := 5025) (i := 4) (cn := true) (d := d + 3) (by decide) (by decide) hr he hc h0 hf BF (fun q => ?_) (fun q q2 I1 hs1 hc1 => ?_) (fun q q2 => ?_)
      · conv => whnf
        refine b1' rfl ?_
        conv => whnf
        exact t142 ⟨g0, g1, g2, g3, q⟩
      · have z9 : ¬ F 0 = 0 := fun z => by unfold bgf at q2; rw [if_neg (by decide), if_pos (h9.mpr z)] at q2; cases q2
        rw [if_neg (by unfold bgl; rw [g0, g1, g2, g3, q]; exact (show ¬ true = false by decide)), if_neg (by rw [g0]; decide), if_neg z9, if_neg (by rw [g1]; decide), if_neg (by rw [g2]; decide), if_neg (by rw [g3]; decide), if_pos q] at hE hO
        conv => whnf
        refine b2' (by decide) ?_
        conv => whnf
        refine y_walkerLine (d := d + 1) hB (by omega) hl (sf1 I1 hs1 hc1) he (fun er q3 I2 fe => ?_) (fun P' q3 I2 sq sf => ?_)
        · conv => whnf
          exact hE er q3 I2 (FE_tr hs1.sQ fe)
        · conv => whnf
          exact hO P' q3 I2 (hs1.sQ.tr sq) sf
      · have z9 : F 0 = 0 := Classical.byContradiction (fun z => q2 (by unfold bgf; rw [if_neg (by decide), if_neg (fun y => z (h9.mp y)), if_neg (fun y => by have := y.2; rw [g1] at this; cases this)]))
        have eb : bgf b n F e true = 6 := by unfold bgf; rw [if_neg (by decide), if_pos (h9.mpr z9)]
        rw [if_neg (by unfold bgl; rw [g0, g1, g2, g3, q]; exact (show ¬ true = false by decide)), if_neg (by rw [g0]; decide), if_pos z9] at hE
        rw [eb]
        conv => whnf
        refine b2' (by decide) ?_
        conv => whnf
        refine y_walkerLine_f (d := d + 1) flR_n ?_
        conv => whnf
        exact hE _ rfl _ (FE_fl sQ.rf)
  have t79 : (isW b n 0 e = false ∧ isW b n 1 e = false ∧ isW b n 2 e = false) → Wf l X uX7_readLine (d + 10) true (mC (mk w p r I L) + 0, mS (mk w p r I L) + 0) 79 [(0, .ref 150)] [] (mk w p r I L) kr := by
    rintro ⟨g0, g1, g2⟩
    by_cases hl : 5 ≤ F 5
    · refine Wf.gc tkX7_readLine [110] ?_
      conv => whnf
      refine ⟨5, ⟨rfl, by decide, show 5 < 202 by decide⟩, ?_⟩
      conv => whnf
      refine b1' (by show (5 : Int32) ≤ I 154 5; rw [hf.1 5 (by decide) (by decide), show (5 : Int32) = nI 5 from rfl, nI_leI (by decide) (by have := BF 5; omega)]; exact hl) ?_
      conv => whnf
      refine y_begins (F := F) (wd := 5024) (i := 3) (cn := false) (d := d + 3) (by decide) (by decide) hr he hc h0 hf BF (fun q => ?_) (fun q q2 I1 hs1 hc1 => ?_) (fun q q2 => ?_)
      · conv => whnf
        refine b1' rfl ?_
        conv => whnf
        exact t110 ⟨g0, g1, g2, q⟩
      · unfold bgf at q2
        rw [if_pos rfl] at q2
        cases q2
      · rw [if_neg (by unfold bgl; rw [g0, g1, g2, q]; exact (show ¬ true = false by decide)), if_neg (by rw [g0]; decide), if_neg (fun z => by have := hZ z; omega), if_neg (by rw [g1]; decide), if_neg (by rw [g2]; decide), if_pos q] at hE
        unfold lnCanon at hE
        rw [if_pos hl] at hE
        unfold bgf
        rw [if_pos rfl]
        conv => whnf
        refine b2' (by decide) ?_
        conv => whnf
        refine y_canonLine_f (d := d) flR_n ?_
        conv => whnf
        exact hE _ rfl _ (FE_fl sQ.rf)
    · refine Wf.gc tkX7_readLine [110] ?_
      conv => whnf
      refine ⟨5, ⟨rfl, by decide, show 5 < 202 by decide⟩, ?_⟩
      conv => whnf
      refine b2' (by show ¬ (5 : Int32) ≤ I 154 5; rw [hf.1 5 (by decide) (by decide), show (5 : Int32) = nI 5 from rfl, nI_leI (by decide) (by have := BF 5; omega)]; exact hl) ?_
      conv => whnf
      refine y_begins (F := F) (wd := 5024) (i := 3) (cn := true) (d := d + 3) (by decide) (by decide) hr he hc h0 hf BF (fun q => ?_) (fun q q2 I1 hs1 hc1 => ?_) (fun q q2 => ?_)
      · conv => whnf
        refine b1' rfl ?_
        conv => whnf
        exact t110 ⟨g0, g1, g2, q⟩
      · have z9 : ¬ F 0 = 0 := fun z => by unfold bgf at q2; rw [if_neg (by decide), if_pos (h9.mpr z)] at q2; cases q2
        rw [if_neg (by unfold bgl; rw [g0, g1, g2, q]; exact (show ¬ true = false by decide)), if_neg (by rw [g0]; decide), if_neg z9, if_neg (by rw [g1]; decide), if_neg (by rw [g2]; decide), if_pos q] at hE hO
        conv => whnf
        refine b2' (by decide) ?_
        conv => whnf
        refine y_canonLine (d := d) hB hl (sf1 I1 hs1 hc1) he (fun er q3 I2 fe => ?_) (fun P' q3 I2 sq sf => ?_)
        · conv => whnf
          exact hE er q3 I2 (FE_tr hs1.sQ fe)
        · conv => whnf
          exact hO P' q3 I2 (hs1.sQ.tr sq) sf
      · have z9 : F 0 = 0 := Classical.byContradiction (fun z => q2 (by unfold bgf; rw [if_neg (by decide), if_neg (fun y => z (h9.mp y)), if_neg (fun y => by have := y.2; rw [g1] at this; cases this)]))
        have eb : bgf b n F e true = 6 := by unfold bgf; rw [if_neg (by decide), if_pos (h9.mpr z9)]
        rw [if_neg (by unfold bgl; rw [g0, g1, g2, q]; exact (show ¬ true = false by decide)), if_neg (by rw [g0]; decide), if_pos z9] at hE
        rw [eb]
        conv => whnf
        refine b2' (by decide) ?_
        conv => whnf
        refine y_canonLine_f (d := d) flR_n ?_
        conv => whnf
        exact hE _ rfl _ (FE_fl sQ.rf)
  have t47 : (isW b n 0 e = false ∧ isW b n 1 e = false) → Wf l X uX7_readLine (d + 10) true (mC (mk w p r I L) + 0, mS (mk w p r I L) + 0) 47 [(0, .ref 150)] [] (mk w p r I L) kr := by
    rintro ⟨g0, g1⟩
    by_cases hl : 6 ≤ F 4
    · refine Wf.gc tkX7_readLine [79] ?_
      conv => whnf
      refine ⟨4, ⟨rfl, by decide, show 4 < 202 by decide⟩, ?_⟩
      conv => whnf
      refine b1' (by show (6 : Int32) ≤ I 154 4; rw [hf.1 4 (by decide) (by decide), show (6 : Int32) = nI 6 from rfl, nI_leI (by decide) (by have := BF 4; omega)]; exact hl) ?_
      conv => whnf
      refine y_begins (F := F) (wd := 5023) (i := 2) (cn := false) (d := d + 3) (by decide) (by decide) hr he hc h0 hf BF (fun q => ?_) (fun q q2 I1 hs1 hc1 => ?_) (fun q q2 => ?_)
      · conv => whnf
        refine b1' rfl ?_
        conv => whnf
        exact t79 ⟨g0, g1, q⟩
      · unfold bgf at q2
        rw [if_pos rfl] at q2
        cases q2
      · rw [if_neg (by unfold bgl; rw [g0, g1, q]; exact (show ¬ true = false by decide)), if_neg (by rw [g0]; decide), if_neg (fun z => by have := hZ z; omega), if_neg (by rw [g1]; decide), if_pos q] at hE
        unfold lnFace at hE
        rw [if_pos hl] at hE
        unfold bgf
        rw [if_pos rfl]
        conv => whnf
        refine b2' (by decide) ?_
        conv => whnf
        refine y_faceLine_f (d := d) flR_n ?_
        conv => whnf
        exact hE _ rfl _ (FE_fl sQ.rf)
    · refine Wf.gc tkX7_readLine [79] ?_
      conv => whnf
      refine ⟨4, ⟨rfl, by decide, show 4 < 202 by decide⟩, ?_⟩
      conv => whnf
      refine b2' (by show ¬ (6 : Int32) ≤ I 154 4; rw [hf.1 4 (by decide) (by decide), show (6 : Int32) = nI 6 from rfl, nI_leI (by decide) (by have := BF 4; omega)]; exact hl) ?_
      conv => whnf
      refine y_begins (F := F) (wd := 5023) (i := 2) (cn := true) (d := d + 3) (by decide) (by decide) hr he hc h0 hf BF (fun q => ?_) (fun q q2 I1 hs1 hc1 => ?_) (fun q q2 => ?_)
      · conv => whnf
        refine b1' rfl ?_
        conv => whnf
        exact t79 ⟨g0, g1, q⟩
      · have z9 : ¬ F 0 = 0 := fun z => by unfold bgf at q2; rw [if_neg (by decide), if_pos (h9.mpr z)] at q2; cases q2
        rw [if_neg (by unfold bgl; rw [g0, g1, q]; exact (show ¬ true = false by decide)), if_neg (by rw [g0]; decide), if_neg z9, if_neg (by rw [g1]; decide), if_pos q] at hE hO
        conv => whnf
        refine b2' (by decide) ?_
        conv => whnf
        refine y_faceLine (d := d) hB (by omega) hl (sf1 I1 hs1 hc1) he (fun er q3 I2 fe => ?_) (fun P' q3 I2 sq sf => ?_)
        · conv => whnf
          exact hE er q3 I2 (FE_tr hs1.sQ fe)
        · conv => whnf
          exact hO P' q3 I2 (hs1.sQ.tr sq) sf
      · have z9 : F 0 = 0 := Classical.byContradiction (fun z => q2 (by unfold bgf; rw [if_neg (by decide), if_neg (fun y => z (h9.mp y)), if_neg (fun y => by have := y.2; rw [g1] at this; cases this)]))
        have eb : bgf b n F e true = 6 := by unfold bgf; rw [if_neg (by decide), if_pos (h9.mpr z9)]
        rw [if_neg (by unfold bgl; rw [g0, g1, q]; exact (show ¬ true = false by decide)), if_neg (by rw [g0]; decide), if_pos z9] at hE
        rw [eb]
        conv => whnf
        refine b2' (by decide) ?_
        conv => whnf
        refine y_faceLine_f (d := d) flR_n ?_
        conv => whnf
        exact hE _ rfl _ (FE_fl sQ.rf)
  have t16 : (isW b n 0 e = false) → Wf l X uX7_readLine (d + 10) true (mC (mk w p r I L) + 0, mS (mk w p r I L) + 0) 16 [(0, .ref 150)] [] (mk w p r I L) kr := by
    rintro g0
    by_cases hl : 5 ≤ F 3
    · refine Wf.gc tkX7_readLine [47] ?_
      conv => whnf
      refine ⟨3, ⟨rfl, by decide, show 3 < 202 by decide⟩, ?_⟩
      conv => whnf
      refine b1' (by show (5 : Int32) ≤ I 154 3; rw [hf.1 3 (by decide) (by decide), show (5 : Int32) = nI 5 from rfl, nI_leI (by decide) (by have := BF 3; omega)]; exact hl) ?_
      conv => whnf
      refine y_begins (F := F) (wd := 5022) (i := 1) (cn := false) (d := d + 3) (by decide) (by decide) hr he hc h0 hf BF (fun q => ?_) (fun q q2 I1 hs1 hc1 => ?_) (fun q q2 => ?_)
      · conv => whnf
        refine b1' rfl ?_
        conv => whnf
        exact t47 ⟨g0, q⟩
      · unfold bgf at q2
        rw [if_pos rfl] at q2
        cases q2
      · rw [if_neg (by unfold bgl; rw [g0, q]; exact (show ¬ true = false by decide)), if_neg (by rw [g0]; decide), if_neg (fun z => by have := hZ z; omega), if_pos q] at hE
        unfold lnWall at hE
        rw [if_pos hl] at hE
        unfold bgf
        rw [if_pos rfl]
        conv => whnf
        refine b2' (by decide) ?_
        conv => whnf
        refine y_wallLine_f (d := d + 5) flR_n ?_
        conv => whnf
        exact hE _ rfl _ (FE_fl sQ.rf)
    · refine Wf.gc tkX7_readLine [47] ?_
      conv => whnf
      refine ⟨3, ⟨rfl, by decide, show 3 < 202 by decide⟩, ?_⟩
      conv => whnf
      refine b2' (by show ¬ (5 : Int32) ≤ I 154 3; rw [hf.1 3 (by decide) (by decide), show (5 : Int32) = nI 5 from rfl, nI_leI (by decide) (by have := BF 3; omega)]; exact hl) ?_
      conv => whnf
      refine y_begins (F := F) (wd := 5022) (i := 1) (cn := true) (d := d + 3) (by decide) (by decide) hr he hc h0 hf BF (fun q => ?_) (fun q q2 I1 hs1 hc1 => ?_) (fun q q2 => ?_)
      · conv => whnf
        refine b1' rfl ?_
        conv => whnf
        exact t47 ⟨g0, q⟩
      · have z9 : ¬ F 0 = 0 := fun z => by unfold bgf at q2; rw [if_neg (by decide), if_pos (h9.mpr z)] at q2; cases q2
        have z6 : ¬ 0 < F 6 := fun z => by unfold bgf at q2; rw [if_neg (by decide), if_neg (fun y => z9 (h9.mp y)), if_pos ⟨z, q⟩] at q2; cases q2
        rw [if_neg (by unfold bgl; rw [g0, q]; exact (show ¬ true = false by decide)), if_neg (by rw [g0]; decide), if_neg z9, if_pos q] at hE hO
        conv => whnf
        refine b2' (by decide) ?_
        conv => whnf
        refine y_wallLine (d := d + 5) hB (by omega) hl z6 (sf1 I1 hs1 hc1) he (fun er q3 I2 fe => ?_) (fun P' q3 I2 sq sf => ?_)
        · conv => whnf
          exact hE er q3 I2 (FE_tr hs1.sQ fe)
        · conv => whnf
          exact hO P' q3 I2 (hs1.sQ.tr sq) sf
      · by_cases z9 : F 0 = 0
        · have eb : bgf b n F e true = 6 := by unfold bgf; rw [if_neg (by decide), if_pos (h9.mpr z9)]
          rw [if_neg (by unfold bgl; rw [g0, q]; exact (show ¬ true = false by decide)), if_neg (by rw [g0]; decide), if_pos z9] at hE
          rw [eb]
          conv => whnf
          refine b2' (by decide) ?_
          conv => whnf
          refine y_wallLine_f (d := d + 5) flR_n ?_
          conv => whnf
          exact hE _ rfl _ (FE_fl sQ.rf)
        · have z6 : 0 < F 6 := Nat.pos_of_ne_zero (fun z => q2 (by unfold bgf; rw [if_neg (by decide), if_neg (fun y => z9 (h9.mp y)), if_neg (fun y => by have := y.1; omega)]))
          have eb : bgf b n F e true = 7 := by unfold bgf; rw [if_neg (by decide), if_neg (fun y => z9 (h9.mp y)), if_pos ⟨z6, q⟩]
          rw [if_neg (by unfold bgl; rw [g0, q]; exact (show ¬ true = false by decide)), if_neg (by rw [g0]; decide), if_neg z9, if_pos q] at hE
          unfold lnWall at hE
          rw [if_neg hl, if_pos z6] at hE
          rw [eb]
          conv => whnf
          refine b2' (by decide) ?_
          conv => whnf
          refine y_wallLine_f (d := d + 5) flR_n ?_
          conv => whnf
          exact hE _ rfl _ (FE_fl sQ.rf)
  refine Ev.of (by decide) (Nat.le_of_ble_eq_true rfl) ?_
  refine Wf.gc tkX7_readLine [16] ?_
  conv => whnf
  refine y_isWord (wd := 5021) (d := d + 4) hr he hc h0 (by decide) ?_
  rw [show isW b n (5021 - 5000) e = isW b n 0 e from wd21 (wd := 5021) (i := 0) (by decide)]
  cases g0 : isW b n 0 e with
  | true =>
    rw [if_neg (by unfold bgl; rw [g0]; exact (show ¬ true = false by decide)), if_pos g0] at hE hO
    conv => whnf
    refine b2' (by decide) ?_
    conv => whnf
    refine y_closeLine (d := d) hB hS (fun er q3 I2 fe => ?_) (fun P' q3 I2 sq sf => ?_)
    · conv => whnf
      exact hE er q3 I2 fe
    · conv => whnf
      exact hO P' q3 I2 sq sf
  | false =>
    conv => whnf
    refine b1' rfl ?_
    conv => whnf
    exact t16 g0
end RL6
