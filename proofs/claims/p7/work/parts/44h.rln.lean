/-! the reference's lines: close, wall; an open cell -/
section RLN
variable {l : Launch} {X : Nat × (Nat → Int32)} {d : Nat} {w : Nat × Nat} {p r : Nat} {I : Nat → Nat → Int32} {L : Nat → Nat → Int64} {kr : KR} {b : Nat → Nat} {n e : Nat} {nm : List Nm} {F : Nat → Nat} {W : Int32}
theorem flR_9 {k s : Nat} : flR I k s 150 9 = nI k := by unfold flR; rw [u2_o (by decide), u2_s]
theorem flR_10 {k s : Nat} : flR I k s 150 10 = nI s := by unfold flR; rw [u2_s]
/-- a line that failed -/
def FE (I : Nat → Nat → Int32) (er : Nat × Nat) (I' : Nat → Nat → Int32) : Prop := sQ I I' ∧ I' 150 13 = 1 ∧ I' 150 9 = nI er.1 ∧ I' 150 10 = nI er.2
theorem FE_fl {I1 : Nat → Nat → Int32} {k s : Nat} (h : sQ I I1) : FE I (k, s) (flR I1 k s) := ⟨h.tr sQ_fl, flR_13, flR_9, flR_10⟩
theorem FE_sP {I1 I2 : Nat → Nat → Int32} {er : Nat × Nat} (h : FE I er I1) (hs : sP I1 I2) : FE I er I2 := ⟨h.1.tr hs.sQ, by rw [hs 150 13 (by omega) (by decide)]; exact h.2.1, by rw [hs 150 9 (by omega) (by decide)]; exact h.2.2.1, by rw [hs 150 10 (by omega) (by decide)]; exact h.2.2.2⟩
theorem FE_0 {er : Nat × Nat} {I' : Nat → Nat → Int32} (h : FE I er I') : ¬ I' 150 13 = 0 := by rw [h.2.1]; decide
theorem FE_tr {I1 I2 : Nat → Nat → Int32} {er : Nat × Nat} (h : sQ I I1) (h2 : FE I1 er I2) : FE I er I2 := ⟨h.tr h2.1, h2.2⟩
set_option maxHeartbeats 2000000 in
set_option maxRecDepth 20000 in
theorem y_wallLine (hB : Bd F W nm) (hT : 0 < F 0) (h5 : ¬ 5 ≤ F 3) (h6 : ¬ 0 < F 6) (hS : SF b n (F, W, nm, tn b n 1 e) I) (he : e ≤ n) (hE : ∀ er, lnWall b n F W nm e = .inl er → ∀ I', FE I er I' → kr none (mk w p r I' L)) (hO : ∀ P', lnWall b n F W nm e = .inr P' → ∀ I', sQ I I' → SF b n P' I' → kr none (mk w p r I' L)) : Ev l X uX7_wallLine (d + 4) true 0 0 [.ref 150] (mk w p r I L) kr := by
  obtain ⟨hr, he1, hc, h0, hf, hn, hs, hu, hk, h9⟩ := hS
  have he1 : tn b n 1 e ≤ n := he1
  have hc : TR b n (tn b n 1 e) I := hc
  have hf : FR F W I := hf
  unfold lnWall at hE hO
  rw [if_neg h5, if_neg h6] at hE hO
  refine Ev.of (by decide) (Nat.le_of_ble_eq_true rfl) ?_
  have bad : ∀ (v : Int32) (J : Nat → Nat → Int32), ¬ J 150 13 = 0 → kr none (mk w p r J L) → Wf l X uX7_wallLine (d + 4) true (mC (mk w p r I L) + 0, mS (mk w p r I L) + 0) 43 [(0, .ref 150), (1, .int v)] [] (mk w p r J L) kr := by
    intro v J hJ q
    refine Wf.gc tkX7_wallLine [] ?_
    conv => whnf
    refine y_pass_f (d := d) hJ ?_
    conv => whnf
    refine b2' hJ ?_
    conv => whnf
    exact q
  refine Wf.gc tkX7_wallLine [43] ?_
  conv => whnf
  refine b1' h0 ?_
  conv => whnf
  refine y_cellHere (d := d + 1) hf hB hT he1 hc h0 (fun q => ?_) (fun q => ?_)
  · rw [if_neg (fun z => z q)] at hE hO
    conv => whnf
    refine b2 (fun z => z h0) ?_
    conv => whnf
    refine ⟨10, ⟨rfl, by decide, show 10 < 202 by decide⟩, ?_⟩
    conv => whnf
    show Ev l X uX7_hasBit (d + 3) true 0 0 [.int (I 154 10), .int (nI (tvl b n (tn b n 1 e)))] (mk w p r I L) _
    rw [hf.2.1]
    refine y_hasBit ?_
    cases hw : isWl W (tvl b n (tn b n 1 e)) with
    | true =>
      rw [if_pos hw] at hE
      conv => whnf
      refine b2' (by decide) ?_
      conv => whnf
      refine y_wrong0 h0 ?_
      conv => whnf
      have eJ : u2 (u2 (u2 I 150 13 1) 150 9 3) 150 10 (I 150 4) = flR I 3 (tst b n (tn b n 1 e)) := by unfold flR; rw [← hc.2.1]; rfl
      show Wf l X uX7_wallLine (d + 4) true (mC (mk w p r I L) + 0, mS (mk w p r I L) + 0) 43 [(0, .ref 150), (1, .int (nI (tvl b n (tn b n 1 e))))] [] (mk w p r (u2 (u2 (u2 I 150 13 1) 150 9 3) 150 10 (I 150 4)) L) kr
      rw [eJ]
      exact bad _ _ flR_n (hE _ rfl _ (FE_fl sQ.rf))
    | false =>
      rw [if_neg (by rw [hw]; decide)] at hO
      conv => whnf
      refine b1' rfl ?_
      conv => whnf
      show Wf l X uX7_wallLine (d + 4) true (mC (mk w p r I L) + 0, mS (mk w p r I L) + 0) 43 [(0, .ref 150), (1, .int (nI (tvl b n (tn b n 1 e))))] [] (mk w p r I L) kr
      refine Wf.gc tkX7_wallLine [] ?_
      conv => whnf
      refine y_pass (d := d) hr he1 hc h0 (fun I' hs' hc' => ?_)
      have hc' : TR b n (tn b n 2 e) I' := hc'
      have f13 : I' 150 13 = 0 := (sN13 hs').trans h0
      have hf' := FR_sN hf hs'
      conv => whnf
      refine b1' f13 ?_
      conv => whnf
      refine ⟨10, ⟨rfl, by decide, show 10 < 202 by decide⟩, ?_⟩
      conv => whnf
      refine ⟨10, ⟨rfl, by decide, show 10 < 202 by decide⟩, ?_⟩
      conv => whnf
      refine ⟨3, ⟨rfl, by decide, show 3 < 202 by decide⟩, ?_⟩
      conv => whnf
      refine ⟨3, ⟨rfl, by decide, show 3 < 202 by decide⟩, ?_⟩
      conv => whnf
      show kr none (mk w p r (u2 (u2 I' 154 10 (I' 154 10 ||| ((1 : Int32) <<< (nI (tvl b n (tn b n 1 e)) &&& 31)))) 154 3 (u2 I' 154 10 (I' 154 10 ||| ((1 : Int32) <<< (nI (tvl b n (tn b n 1 e)) &&& 31))) 154 3 + 1)) L)
      rw [u2_o (by decide), hf'.2.1, hf'.1 3 (by decide) (by decide), nI_1]
      have sp : sP I' (u2 (u2 I' 154 10 (W ||| ((1 : Int32) <<< (nI (tvl b n (tn b n 1 e)) &&& 31)))) 154 3 (nI (F 3 + 1))) := (sP_4 (by decide)).tr (sP_4 (by decide))
      refine hO _ rfl _ (hs'.sQ.tr sp.sQ) ⟨RX_sP (RX_sN hr hs') sp, tn_b he 2, TR_sP hc' sp, by rw [sp 150 13 (by omega) (by decide)]; exact f13, FR_s (FR_W hf') (by decide) (by decide), RN_sP (RN_sN hn hs') sp, hs, hu, KM_c hk (Nat.le_refl _) (Nat.le_refl _) (Nat.le_refl _), h9⟩
  · rw [if_pos q] at hE
    conv => whnf
    refine b1 (flR_n (I := I) (k := bnd b n 0 (F 0 * F 1 - 1) (tn b n 1 e)) (s := tst b n (tn b n 1 e))) ?_
    conv => whnf
    exact bad _ _ flR_n (hE _ rfl _ (FE_fl sQ.rf))
theorem y_openCell_f (hf : ¬ I 150 13 = 0) (h : kr (some (.int 0)) (mk w p r I L)) : Ev l X uX7_openCell (d + 4) true 0 0 [.ref 150] (mk w p r I L) kr := by
  refine Ev.of (by decide) (Nat.le_of_ble_eq_true rfl) ?_
  refine Wf.gc tkX7_openCell [] ?_
  conv => whnf
  refine y_cellHere_f (d := d + 1) hf ?_
  conv => whnf
  refine b1 hf ?_
  conv => whnf
  refine y_pass_f (d := d) hf ?_
  conv => whnf
  exact h
set_option maxHeartbeats 2000000 in
set_option maxRecDepth 20000 in
theorem y_openCell (hB : Bd F W nm) (hT : 0 < F 0) (hr : RX b n I) (hf : FR F W I) (he : e ≤ n) (hc : TR b n e I) (h0 : I 150 13 = 0) (h1 : bnd b n 0 (F 0 * F 1 - 1) e = 0 → isWl W (tvl b n e) = false → ∀ I', sN I I' → TR b n (tsp b n e) I' → kr (some (.int (nI (tvl b n e)))) (mk w p r I' L)) (h2 : bnd b n 0 (F 0 * F 1 - 1) e ≠ 0 → kr (some (.int 0)) (mk w p r (flR I (bnd b n 0 (F 0 * F 1 - 1) e) (tst b n e)) L)) (h3 : bnd b n 0 (F 0 * F 1 - 1) e = 0 → isWl W (tvl b n e) = true → kr (some (.int (nI (tvl b n e)))) (mk w p r (flR I 7 (tst b n e)) L)) : Ev l X uX7_openCell (d + 4) true 0 0 [.ref 150] (mk w p r I L) kr := by
  refine Ev.of (by decide) (Nat.le_of_ble_eq_true rfl) ?_
  have bad : ∀ (v : Int32) (J : Nat → Nat → Int32), ¬ J 150 13 = 0 → kr (some (.int v)) (mk w p r J L) → Wf l X uX7_openCell (d + 4) true (mC (mk w p r I L) + 0, mS (mk w p r I L) + 0) 36 [(0, .ref 150), (1, .int v)] [] (mk w p r J L) kr := by
    intro v J hJ q
    refine Wf.gc tkX7_openCell [] ?_
    conv => whnf
    refine y_pass_f (d := d) hJ ?_
    conv => whnf
    exact q
  refine Wf.gc tkX7_openCell [36] ?_
  conv => whnf
  refine y_cellHere (d := d + 1) hf hB hT he hc h0 (fun q => ?_) (fun q => ?_)
  · conv => whnf
    refine b2 (fun z => z h0) ?_
    conv => whnf
    refine ⟨10, ⟨rfl, by decide, show 10 < 202 by decide⟩, ?_⟩
    conv => whnf
    show Ev l X uX7_hasBit (d + 3) true 0 0 [.int (I 154 10), .int (nI (tvl b n e))] (mk w p r I L) _
    rw [hf.2.1]
    refine y_hasBit ?_
    cases hw : isWl W (tvl b n e) with
    | true =>
      conv => whnf
      refine b2' (by decide) ?_
      conv => whnf
      refine y_wrong0 h0 ?_
      conv => whnf
      have eJ : u2 (u2 (u2 I 150 13 1) 150 9 7) 150 10 (I 150 4) = flR I 7 (tst b n e) := by unfold flR; rw [← hc.2.1]; rfl
      show Wf l X uX7_openCell (d + 4) true (mC (mk w p r I L) + 0, mS (mk w p r I L) + 0) 36 [(0, .ref 150), (1, .int (nI (tvl b n e)))] [] (mk w p r (u2 (u2 (u2 I 150 13 1) 150 9 7) 150 10 (I 150 4)) L) kr
      rw [eJ]
      exact bad _ _ flR_n (h3 q hw)
    | false =>
      conv => whnf
      refine b1' rfl ?_
      conv => whnf
      show Wf l X uX7_openCell (d + 4) true (mC (mk w p r I L) + 0, mS (mk w p r I L) + 0) 36 [(0, .ref 150), (1, .int (nI (tvl b n e)))] [] (mk w p r I L) kr
      refine Wf.gc tkX7_openCell [] ?_
      conv => whnf
      refine y_pass (d := d) hr he hc h0 (fun I' hs' hc' => ?_)
      conv => whnf
      exact h1 q hw I' hs' hc'
  · conv => whnf
    refine b1 (flR_n (I := I) (k := bnd b n 0 (F 0 * F 1 - 1) e) (s := tst b n e)) ?_
    conv => whnf
    exact bad _ _ flR_n (h2 q)
set_option maxHeartbeats 4000000 in
set_option maxRecDepth 20000 in
theorem y_closeLine (hB : Bd F W nm) (hS : SF b n (F, W, nm, e) I) (hE : ∀ er, (if 0 < F 0 then .inl (3, tst b n e) else lnClose b n F W nm e) = .inl er → ∀ I', FE I er I' → kr none (mk w p r I' L)) (hO : ∀ P', (if 0 < F 0 then .inl (3, tst b n e) else lnClose b n F W nm e) = .inr P' → ∀ I', sQ I I' → SF b n P' I' → kr none (mk w p r I' L)) : Ev l X uX7_closeLine (d + 9) true 0 0 [.ref 150] (mk w p r I L) kr := by
  obtain ⟨hr, he, hc, h0, hf, hn, hs, hu, hk, h9⟩ := hS
  have he : e ≤ n := he
  have hc : TR b n e I := hc
  have hf : FR F W I := hf
  have h9 : F 9 = 0 ↔ F 0 = 0 := h9
  have B9 := hB.2.1 9
  have hsp := tsp_b (b := b) he
  refine Ev.of (by decide) (Nat.le_of_ble_eq_true rfl) ?_
  have t74 : ∀ J : Nat → Nat → Int32, ¬ J 150 13 = 0 → kr none (mk w p r J L) → Wf l X uX7_closeLine (d + 9) true (mC (mk w p r I L) + 0, mS (mk w p r I L) + 0) 74 [(0, .ref 150)] [] (mk w p r J L) kr := by
    intro J hJ q
    refine Wf.gc tkX7_closeLine [] ?_
    conv => whnf
    refine b1 hJ ?_
    conv => whnf
    exact q
  have t59 : ∀ J : Nat → Nat → Int32, ¬ J 150 13 = 0 → (∀ J', sP J J' → kr none (mk w p r J' L)) → Wf l X uX7_closeLine (d + 9) true (mC (mk w p r I L) + 0, mS (mk w p r I L) + 0) 59 [(0, .ref 150)] [] (mk w p r J L) kr := by
    intro J hJ q
    refine Wf.gc tkX7_closeLine [74] ?_
    conv => whnf
    refine y_after_f (d := d) (by decide) hJ ?_
    conv => whnf
    refine ⟨2, ⟨rfl, by decide, show 2 < 202 by decide⟩, ?_⟩
    conv => whnf
    exact t74 (u2 J 154 2 0) (by rw [u2_o (by decide)]; exact hJ) (q _ (sP_4 (by decide)))
  have t45 : ∀ J : Nat → Nat → Int32, ¬ J 150 13 = 0 → (∀ J', sP J J' → kr none (mk w p r J' L)) → Wf l X uX7_closeLine (d + 9) true (mC (mk w p r I L) + 0, mS (mk w p r I L) + 0) 45 [(0, .ref 150)] [] (mk w p r J L) kr := by
    intro J hJ q
    refine Wf.gc tkX7_closeLine [59] ?_
    conv => whnf
    refine y_after_f (d := d) (by decide) hJ ?_
    conv => whnf
    refine ⟨1, ⟨rfl, by decide, show 1 < 202 by decide⟩, ?_⟩
    conv => whnf
    exact t59 (u2 J 154 1 2) (by rw [u2_o (by decide)]; exact hJ) (fun J' hj => q _ ((sP_4 (by decide)).tr hj))
  by_cases hT : 0 < F 0
  · rw [if_pos hT] at hE
    refine Wf.gc tkX7_closeLine [19] ?_
    conv => whnf
    refine ⟨9, ⟨rfl, by decide, show 9 < 202 by decide⟩, ?_⟩
    conv => whnf
    refine b2' (by show ¬ I 154 9 ≤ 0; rw [hf.1 9 (by decide) (by decide), show (0 : Int32) = nI 0 from rfl, nI_leI (by omega) (by decide)]; omega) ?_
    conv => whnf
    refine y_wrong0 h0 ?_
    conv => whnf
    have eJ : u2 (u2 (u2 I 150 13 1) 150 9 3) 150 10 (I 150 4) = flR I 3 (tst b n e) := by unfold flR; rw [← hc.2.1]; rfl
    show Wf l X uX7_closeLine (d + 9) true (mC (mk w p r I L) + 0, mS (mk w p r I L) + 0) 19 [(0, .ref 150)] [] (mk w p r (u2 (u2 (u2 I 150 13 1) 150 9 3) 150 10 (I 150 4)) L) kr
    rw [eJ]
    have fin := hE _ rfl _ (FE_fl (I := I) (I1 := I) (k := 3) (s := tst b n e) sQ.rf)
    refine Wf.gc tkX7_closeLine [] ?_
    conv => whnf
    refine b2' (flR_n (I := I) (k := 3) (s := tst b n e)) ?_
    conv => whnf
    exact fin
  · rw [if_neg hT] at hE hO
    unfold lnClose at hE hO
    refine Wf.gc tkX7_closeLine [19] ?_
    conv => whnf
    refine ⟨9, ⟨rfl, by decide, show 9 < 202 by decide⟩, ?_⟩
    conv => whnf
    refine b1' (by show I 154 9 ≤ 0; rw [hf.1 9 (by decide) (by decide), show (0 : Int32) = nI 0 from rfl, nI_leI (by omega) (by decide)]; omega) ?_
    conv => whnf
    show Wf l X uX7_closeLine (d + 9) true (mC (mk w p r I L) + 0, mS (mk w p r I L) + 0) 19 [(0, .ref 150)] [] (mk w p r I L) kr
    refine Wf.gc tkX7_closeLine [45] ?_
    conv => whnf
    refine b1' h0 ?_
    conv => whnf
    refine y_next (d := d + 6) (e := tsp b n e) hr hsp.2 hc.2.2.1 (fun I1 hs1 hc1 => ?_)
    have hc1 : TR b n (tn b n 1 e) I1 := hc1
    have g1 : I1 150 13 = 0 := (sN13 hs1).trans h0
    conv => whnf
    refine y_after (i := 7) (lo := 2) (hi := 5) (d := d) (by decide) (by decide) (by decide) (RX_sN hr hs1) (tn_b he 1) hc1 g1 (by decide) (fun q I2 hs2 hc2 z1 z2 => ?_) (fun q I2 hs2 => ?_)
    · rw [if_neg (fun z => z q)] at hE hO
      have hs2 : sN I I2 := hs1.tr hs2
      have hc2 : TR b n (tn b n 3 e) I2 := hc2
      have z1 : 2 ≤ tvl b n (tn b n 2 e) := z1
      conv => whnf
      refine ⟨0, ⟨rfl, by decide, show 0 < 202 by decide⟩, ?_⟩
      conv => whnf
      show Wf l X uX7_closeLine (d + 9) true (mC (mk w p r I L) + 0, mS (mk w p r I L) + 0) 45 [(0, .ref 150)] [] (mk w p r (u2 I2 154 0 (nI (tvl b n (tn b n 2 e)))) L) kr
      have sp3 : sP I2 (u2 I2 154 0 (nI (tvl b n (tn b n 2 e)))) := sP_4 (by decide)
      have f3 : FR (uF F 0 (tvl b n (tn b n 2 e))) W (u2 I2 154 0 (nI (tvl b n (tn b n 2 e)))) := FR_s (FR_sN hf hs2) (by decide) (by decide)
      generalize u2 I2 154 0 (nI (tvl b n (tn b n 2 e))) = I3 at sp3 f3 ⊢
      have q3 : sQ I I3 := hs2.sQ.tr sp3.sQ
      have r3 : RX b n I3 := RX_sP (RX_sN hr hs2) sp3
      have n3 : RN b nm I3 := RN_sP (RN_sN hn hs2) sp3
      have c3 : TR b n (tn b n 3 e) I3 := TR_sP hc2 sp3
      have g3 : I3 150 13 = 0 := by rw [sp3 150 13 (by omega) (by decide)]; exact (sN13 hs2).trans h0
      refine Wf.gc tkX7_closeLine [59] ?_
      conv => whnf
      refine y_after (i := 8) (lo := 2) (hi := 4) (d := d) (by decide) (by decide) (by decide) r3 (tn_b he 3) c3 g3 (by decide) (fun q I4 hs4 hc4 _ _ => ?_) (fun q I4 hs4 => ?_)
      · rw [if_neg (fun z => z q)] at hE hO
        have hc4 : TR b n (tn b n 5 e) I4 := hc4
        conv => whnf
        refine ⟨1, ⟨rfl, by decide, show 1 < 202 by decide⟩, ?_⟩
        conv => whnf
        show Wf l X uX7_closeLine (d + 9) true (mC (mk w p r I L) + 0, mS (mk w p r I L) + 0) 59 [(0, .ref 150)] [] (mk w p r (u2 I4 154 1 (nI (tvl b n (tn b n 4 e)))) L) kr
        have sp5 : sP I4 (u2 I4 154 1 (nI (tvl b n (tn b n 4 e)))) := sP_4 (by decide)
        have f5 : FR (uF (uF F 0 (tvl b n (tn b n 2 e))) 1 (tvl b n (tn b n 4 e))) W (u2 I4 154 1 (nI (tvl b n (tn b n 4 e)))) := FR_s (FR_sN f3 hs4) (by decide) (by decide)
        generalize u2 I4 154 1 (nI (tvl b n (tn b n 4 e))) = I5 at sp5 f5 ⊢
        have q5 : sQ I I5 := q3.tr (hs4.sQ.tr sp5.sQ)
        have r5 : RX b n I5 := RX_sP (RX_sN r3 hs4) sp5
        have n5 : RN b nm I5 := RN_sP (RN_sN n3 hs4) sp5
        have c5 : TR b n (tn b n 5 e) I5 := TR_sP hc4 sp5
        have g5 : I5 150 13 = 0 := by rw [sp5 150 13 (by omega) (by decide)]; exact (sN13 hs4).trans g3
        refine Wf.gc tkX7_closeLine [74] ?_
        conv => whnf
        refine y_after (i := 9) (lo := 0) (hi := 100) (d := d) (by decide) (by decide) (by decide) r5 (tn_b he 5) c5 g5 (by decide) (fun q I6 hs6 hc6 _ _ => ?_) (fun q I6 hs6 => ?_)
        · rw [if_neg (fun z => z q)] at hO
          have hc6 : TR b n (tn b n 7 e) I6 := hc6
          conv => whnf
          refine ⟨2, ⟨rfl, by decide, show 2 < 202 by decide⟩, ?_⟩
          conv => whnf
          show Wf l X uX7_closeLine (d + 9) true (mC (mk w p r I L) + 0, mS (mk w p r I L) + 0) 74 [(0, .ref 150)] [] (mk w p r (u2 I6 154 2 (nI (tvl b n (tn b n 6 e)))) L) kr
          have sp7 : sP I6 (u2 I6 154 2 (nI (tvl b n (tn b n 6 e)))) := sP_4 (by decide)
          have f7 : FR (uF (uF (uF F 0 (tvl b n (tn b n 2 e))) 1 (tvl b n (tn b n 4 e))) 2 (tvl b n (tn b n 6 e))) W (u2 I6 154 2 (nI (tvl b n (tn b n 6 e)))) := FR_s (FR_sN f5 hs6) (by decide) (by decide)
          generalize u2 I6 154 2 (nI (tvl b n (tn b n 6 e))) = I7 at sp7 f7 ⊢
          have g7 : I7 150 13 = 0 := by rw [sp7 150 13 (by omega) (by decide)]; exact (sN13 hs6).trans g5
          refine Wf.gc tkX7_closeLine [] ?_
          conv => whnf
          refine b2 (fun z => z g7) ?_
          conv => whnf
          refine ⟨9, ⟨rfl, by decide, show 9 < 202 by decide⟩, ?_⟩
          conv => whnf
          have sp8 : sP I7 (u2 I7 154 9 (nI 1)) := sP_4 (by decide)
          have sp : sP I6 (u2 I7 154 9 (nI 1)) := sp7.tr sp8
          exact hO _ rfl (u2 I7 154 9 (nI 1)) (q5.tr (hs6.sQ.tr sp.sQ)) ⟨RX_sP (RX_sN r5 hs6) sp, tn_b he 7, TR_sP hc6 sp, by rw [sp8 150 13 (by omega) (by decide)]; exact g7, FR_s f7 (by decide) (by decide), RN_sP (RN_sN n5 hs6) sp, hs, hu, KM_c hk (Nat.le_refl _) (Nat.le_refl _) (Nat.le_refl _), show ((1 : Nat) = 0 ↔ tvl b n (tn b n 2 e) = 0) by omega⟩
        · rw [if_pos q] at hE
          conv => whnf
          refine ⟨2, ⟨rfl, by decide, show 2 < 202 by decide⟩, ?_⟩
          conv => whnf
          exact t74 (u2 (flR I6 _ _) 154 2 0) (by rw [u2_o (by decide)]; exact flR_n) (hE _ rfl _ (FE_sP (FE_fl (q5.tr hs6.sQ)) (sP_4 (by decide))))
      · rw [if_pos q] at hE
        conv => whnf
        refine ⟨1, ⟨rfl, by decide, show 1 < 202 by decide⟩, ?_⟩
        conv => whnf
        exact t59 (u2 (flR I4 _ _) 154 1 2) (by rw [u2_o (by decide)]; exact flR_n) (fun J' hj => hE _ rfl _ (FE_sP (FE_fl (q3.tr hs4.sQ)) ((sP_4 (by decide)).tr hj)))
    · rw [if_pos q] at hE
      conv => whnf
      refine ⟨0, ⟨rfl, by decide, show 0 < 202 by decide⟩, ?_⟩
      conv => whnf
      exact t45 (u2 (flR I2 _ _) 154 0 2) (by rw [u2_o (by decide)]; exact flR_n) (fun J' hj => hE _ rfl _ (FE_sP (FE_fl (hs1.tr hs2).sQ) ((sP_4 (by decide)).tr hj)))
end RLN
