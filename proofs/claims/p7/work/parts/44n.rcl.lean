/-! the reference's lines, one behind another -/
section RL7
variable {l : Launch} {X : Nat × (Nat → Int32)} {d : Nat} {w : Nat × Nat} {p r : Nat} {I : Nat → Nat → Int32} {L : Nat → Nat → Int64} {kr : KR} {b : Nat → Nat} {n e : Nat} {nm : List Nm} {F : Nat → Nat} {W : Int32}
theorem y_no {v : Int32} (h : kr (some (.int (-1))) (mk w p r (u2 I 150 11 v) L)) : Ev l X uX7_no d true 0 0 [.ref 150, .int v] (mk w p r I L) kr := by
  refine Ev.of (by decide) (Nat.le_of_ble_eq_true rfl) ?_
  refine Wf.gc tkX7_no [] ?_
  conv => whnf
  exact h
theorem ln_pos {P' : Ps} (h : ln b n F W nm e = .inr P') : 0 < P'.1 0 := by
  unfold ln at h
  by_cases c0 : bgl b n e = false
  · rw [if_pos c0] at h; cases h
  rw [if_neg c0] at h
  by_cases c1 : isW b n 0 e = true
  · rw [if_pos c1] at h
    by_cases c2 : 0 < F 0
    · rw [if_pos c2] at h; cases h
    rw [if_neg c2] at h
    unfold lnClose at h
    by_cases c3 : (lab b n 7 2 5 (tn b n 1 e)).1 ≠ 0
    · rw [if_pos c3] at h; cases h
    rw [if_neg c3] at h
    have := (lab_v c3).1
    split at h
    · cases h
    split at h
    · cases h
    cases h
    show 0 < tvl b n (tn b n 2 e)
    have this : 2 ≤ tvl b n (tn b n 2 e) := this
    omega
  rw [if_neg c1] at h
  by_cases c2 : F 0 = 0
  · rw [if_pos c2] at h; cases h
  rw [if_neg c2] at h
  have pos : 0 < F 0 := Nat.pos_of_ne_zero c2
  split at h
  · unfold lnWall at h
    split at h
    · cases h
    split at h
    · cases h
    split at h
    · cases h
    split at h
    · cases h
    cases h
    exact pos
  split at h
  · unfold lnFace at h
    split at h
    · cases h
    split at h
    · cases h
    split at h
    · cases h
    split at h
    · cases h
    split at h
    · cases h
    split at h
    · cases h
    split at h
    · cases h
    cases h
    show 0 < uF _ _ _ 0
    rw [uF_o (by omega), uF_o (by omega), uF_o (by omega), uF_o (by omega)]
    exact pos
  split at h
  · unfold lnCanon at h
    split at h
    · cases h
    split at h
    · cases h
    split at h
    · cases h
    split at h
    · cases h
    split at h
    · cases h
    split at h
    · cases h
    cases h
    show 0 < uF _ _ _ 0
    rw [uF_o (by omega), uF_o (by omega), uF_o (by omega)]
    exact pos
  split at h
  · unfold lnWalker at h
    split at h
    · cases h
    split at h
    · cases h
    split at h
    · cases h
    split at h
    · cases h
    split at h
    · cases h
    split at h
    · cases h
    cases h
    show 0 < uF _ _ _ 0
    rw [uF_o (by omega), uF_o (by omega)]
    exact pos
  split at h
  · unfold lnUnsure at h
    split at h
    · cases h
    split at h
    · cases h
    split at h
    · cases h
    split at h
    · cases h
    cases h
    show 0 < uF _ _ _ 0
    rw [uF_o (by omega), uF_o (by omega)]
    exact pos
  · unfold lnDropped at h
    split at h
    · cases h
    split at h
    · cases h
    split at h
    · cases h
    cases h
    show 0 < uF _ _ _ 0
    rw [uF_o (by omega)]
    exact pos
set_option maxRecDepth 20000 in
theorem cz_184 {a1 a2 : Int32} {bs : Nat × Nat} {J : Nat → Nat → Int32} (hJ : ¬ J 150 13 = 0) (q : kr (some (.int (-1))) (mk w p r (u2 J 150 11 4) L)) : Wf l X uX7_close (d + 11) true bs 184 [(0, .ref 150), (1, .int a1), (2, .int a2)] [] (mk w p r J L) kr := by
  refine Wf.gc tkX7_close [] ?_
  conv => whnf
  refine b2' hJ ?_
  conv => whnf
  refine y_no ?_
  conv => whnf
  exact q
set_option maxRecDepth 20000 in
theorem cz_148 {a1 a2 : Int32} {bs : Nat × Nat} {J : Nat → Nat → Int32} (hJ : ¬ J 150 13 = 0) (q : kr (some (.int (-1))) (mk w p r (u2 J 150 11 4) L)) : Wf l X uX7_close (d + 11) true bs 148 [(0, .ref 150), (1, .int a1), (2, .int a2)] [] (mk w p r J L) kr := by
  refine Wf.gc tkX7_close [184] ?_
  conv => whnf
  refine b1 hJ ?_
  conv => whnf
  exact cz_184 hJ q
set_option maxRecDepth 20000 in
theorem cz_98 {a1 a2 : Int32} {bs : Nat × Nat} {J : Nat → Nat → Int32} (hJ : ¬ J 150 13 = 0) (q : kr (some (.int (-1))) (mk w p r (u2 J 150 11 4) L)) : Wf l X uX7_close (d + 11) true bs 98 [(0, .ref 150), (1, .int a1), (2, .int a2)] [] (mk w p r J L) kr := by
  refine Wf.gc tkX7_close [125] ?_
  conv => whnf
  refine b1 hJ ?_
  conv => whnf
  show Wf l X uX7_close (d + 11) true bs 125 [(0, .ref 150), (1, .int a1), (2, .int a2)] [] (mk w p r J L) kr
  refine Wf.gc tkX7_close [148] ?_
  conv => whnf
  refine b1 hJ ?_
  conv => whnf
  exact cz_148 hJ q
/-- what follows a line -/
def aft (b : Nat → Nat) (n f : Nat) (P' : Ps) : Rs := if tso b n P'.2.2.2 = 0 then (if 0 < P'.1 4 then .inr P' else .inl (6, tst b n P'.2.2.2)) else if tso b n P'.2.2.2 = 3 then rdT b n f (P'.1, P'.2.1, P'.2.2.1, tsp b n P'.2.2.2) else .inl (1, tst b n P'.2.2.2)
theorem SF_u {P : Ps} {I' : Nat → Nat → Int32} {e' : Nat} (h : SF b n P I) (hs : sN I I') (he : e' ≤ n) (hc : TR b n e' I') : SF b n (P.1, P.2.1, P.2.2.1, e') I' := by
  obtain ⟨hr, -, -, h0, hf, hn, hi, hu, hk, h9⟩ := h
  exact ⟨RX_sN hr hs, he, hc, (sN13 hs).trans h0, FR_sN hf hs, RN_sN hn hs, hi, hu, hk, h9⟩
set_option maxHeartbeats 4000000 in
set_option maxRecDepth 20000 in
theorem y_cl98 {R : Rs} {J0 : Nat → Nat → Int32} {a1 a2 : Int32} {bs : Nat × Nat} (hE : ∀ er, R = .inl er → ∀ I', FE J0 er I' → kr (some (.int (-1))) (mk w p r (u2 I' 150 11 4) L)) (hO : ∀ P', R = .inr P' → ∀ I', sQ J0 I' → SF b n P' I' → 0 < P'.1 4 → B3 P' → Wf l X uX7_close (d + 11) true bs 197 [(0, .ref 150), (1, .int a1), (2, .int a2)] [] (mk w p r I' L) kr) : ∀ f, ∀ (P : Ps) (I : Nat → Nat → Int32), aft b n f P = R → n + 1 ≤ f + P.2.2.2 → B3 P → 0 < P.1 0 → SF b n P I → sQ J0 I → Wf l X uX7_close (d + 11) true bs 98 [(0, .ref 150), (1, .int a1), (2, .int a2)] [] (mk w p r I L) kr := by
  intro f
  induction f with
  | zero =>
    intro P I _ hn _ _ hS _
    exact absurd hS.2.1 (by omega)
  | succ f ih =>
    intro P I hR hn hB hp hS hq
    obtain ⟨hr, he, hc, h0, hf, -, -, -, -, h9⟩ := id hS
    have s5 := tso_5 (b := b) (n := n) (e := P.2.2.2)
    have BF := hB.1.1.2.1
    have eJ : ∀ (k : Nat) (v : Int32), v = nI k → u2 (u2 (u2 I 150 13 1) 150 9 v) 150 10 (I 150 4) = flR I k (tst b n P.2.2.2) := fun k v hv => by unfold flR; rw [← hc.2.1, hv]
    unfold aft at hR
    by_cases c3 : tso b n P.2.2.2 = 3
    · rw [if_neg (by omega), if_pos c3] at hR
      unfold rdT at hR
      dsimp only at hR
      have hsp := tsp_b (b := b) he
      have hgt := tsp_gt (b := b) he (by omega)
      refine Wf.gc tkX7_close [98] ?_
      conv => whnf
      refine b2 (fun z => z h0) ?_
      conv => whnf
      refine b2 (by show ¬ ¬ I 150 6 = 59; rw [hc.1, c3]; exact fun z => z rfl) ?_
      conv => whnf
      refine y_next (d := d + 8) (e := tsp b n P.2.2.2) hr hsp.2 hc.2.2.1 (fun I1 hs1 hc1 => ?_)
      have hS1 := SF_u hS hs1 hsp.2 hc1
      conv => whnf
      have hB1 : B3 (P.1, P.2.1, P.2.2.1, tsp b n P.2.2.2) := hB
      refine y_readLine (d := d) hB.1.1 (fun z => by omega) hS1 (fun er hl I2 fe => ?_) (fun P2 hl I2 sq sf => ?_)
      · rw [hl] at hR
        conv => whnf
        have fe2 := FE_tr (hq.tr hs1.sQ) fe
        exact cz_98 (FE_0 fe2) (hE er hR.symm I2 fe2)
      · rw [hl] at hR
        obtain ⟨hB2, he2, hg2⟩ := B3_ln hB1 hsp.2 hl
        conv => whnf
        exact ih P2 I2 hR (by omega) hB2 (ln_pos hl) sf ((hq.tr hs1.sQ).tr sq)
    · rw [if_neg c3] at hR
      refine Wf.gc tkX7_close [125] ?_
      conv => whnf
      refine b2 (fun z => z h0) ?_
      conv => whnf
      refine b1 (by
        show ¬ I 150 6 = 59
        rw [hc.1]
        rcases (show tso b n P.2.2.2 = 0 ∨ tso b n P.2.2.2 = 1 ∨ tso b n P.2.2.2 = 2 ∨ tso b n P.2.2.2 = 4 by omega) with z | z | z | z
        · rw [z]; decide
        · rw [z]; decide
        · rw [z]; decide
        · rw [z]; decide) ?_
      conv => whnf
      show Wf l X uX7_close (d + 11) true bs 125 [(0, .ref 150), (1, .int a1), (2, .int a2)] [] (mk w p r I L) kr
      by_cases c0 : tso b n P.2.2.2 = 0
      · rw [if_pos c0] at hR
        refine Wf.gc tkX7_close [148] ?_
        conv => whnf
        refine b2 (fun z => z h0) ?_
        conv => whnf
        refine b1' (by show I 150 6 = 0; rw [hc.1, c0]; rfl) ?_
        conv => whnf
        show Wf l X uX7_close (d + 11) true bs 148 [(0, .ref 150), (1, .int a1), (2, .int a2)] [] (mk w p r I L) kr
        refine Wf.gc tkX7_close [184] ?_
        conv => whnf
        refine b2 (fun z => z h0) ?_
        conv => whnf
        refine ⟨9, ⟨rfl, by decide, show 9 < 202 by decide⟩, ?_⟩
        conv => whnf
        refine b2' (by show ¬ I 154 9 = 0; rw [hf.1 9 (by decide) (by decide), show (0 : Int32) = nI 0 from rfl, nI_eq (by have := BF 9; omega) (by decide)]; omega) ?_
        conv => whnf
        refine ⟨4, ⟨rfl, by decide, show 4 < 202 by decide⟩, ?_⟩
        conv => whnf
        by_cases c4 : 0 < P.1 4
        · rw [if_pos c4] at hR
          refine b1 (by show ¬ I 154 4 = 0; rw [hf.1 4 (by decide) (by decide), show (0 : Int32) = nI 0 from rfl, nI_eq (by have := BF 4; omega) (by decide)]; omega) ?_
          conv => whnf
          show Wf l X uX7_close (d + 11) true bs 184 [(0, .ref 150), (1, .int a1), (2, .int a2)] [] (mk w p r I L) kr
          have fin := hO P hR.symm I hq hS c4 hB
          refine Wf.gc tkX7_close [197] ?_
          conv => whnf
          refine b1' h0 ?_
          conv => whnf
          exact fin
        · rw [if_neg c4] at hR
          refine b2 (by show ¬ ¬ I 154 4 = 0; rw [hf.1 4 (by decide) (by decide), show (0 : Int32) = nI 0 from rfl, nI_eq (by have := BF 4; omega) (by decide)]; omega) ?_
          conv => whnf
          refine y_wrong0 h0 ?_
          conv => whnf
          show Wf l X uX7_close (d + 11) true bs 184 [(0, .ref 150), (1, .int a1), (2, .int a2)] [] (mk w p r (u2 (u2 (u2 I 150 13 1) 150 9 6) 150 10 (I 150 4)) L) kr
          rw [eJ 6 6 rfl]
          exact cz_184 flR_n (hE _ hR.symm _ (FE_fl hq))
      · rw [if_neg c0] at hR
        refine Wf.gc tkX7_close [148] ?_
        conv => whnf
        refine b2 (fun z => z h0) ?_
        conv => whnf
        refine b2' (by
          show ¬ I 150 6 = 0
          rw [hc.1]
          rcases (show tso b n P.2.2.2 = 1 ∨ tso b n P.2.2.2 = 2 ∨ tso b n P.2.2.2 = 4 by omega) with z | z | z
          · rw [z]; decide
          · rw [z]; decide
          · rw [z]; decide) ?_
        conv => whnf
        refine y_wrong0 h0 ?_
        conv => whnf
        show Wf l X uX7_close (d + 11) true bs 148 [(0, .ref 150), (1, .int a1), (2, .int a2)] [] (mk w p r (u2 (u2 (u2 I 150 13 1) 150 9 1) 150 10 (I 150 4)) L) kr
        rw [eJ 1 1 rfl]
        exact cz_148 flR_n (hE _ hR.symm _ (FE_fl hq))
end RL7
