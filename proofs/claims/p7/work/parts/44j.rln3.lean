/-! the reference's lines: walker, unsure -/
section RL3
variable {l : Launch} {X : Nat × (Nat → Int32)} {d : Nat} {w : Nat × Nat} {p r : Nat} {I : Nat → Nat → Int32} {L : Nat → Nat → Int64} {kr : KR} {b : Nat → Nat} {n e : Nat} {nm : List Nm} {F : Nat → Nat} {W : Int32}
set_option maxHeartbeats 4000000 in
set_option maxRecDepth 20000 in
theorem y_walkerLine (hB : Bd F W nm) (hT : 0 < F 0) (h4 : ¬ 4 ≤ F 6) (hS : SF b n (F, W, nm, tn b n 1 e) I) (he : e ≤ n) (hE : ∀ er, lnWalker b n F W nm e = .inl er → ∀ I', FE I er I' → kr none (mk w p r I' L)) (hO : ∀ P', lnWalker b n F W nm e = .inr P' → ∀ I', sQ I I' → SF b n P' I' → kr none (mk w p r I' L)) : Ev l X uX7_walkerLine (d + 8) true 0 0 [.ref 150] (mk w p r I L) kr := by
  obtain ⟨hr, he1, hc, h0, hf, hn, hs, hu, hk, h9⟩ := hS
  have he1 : tn b n 1 e ≤ n := he1
  have hc : TR b n (tn b n 1 e) I := hc
  have hf : FR F W I := hf
  have hk : KM F nm := hk
  have h9 : F 9 = 0 ↔ F 0 = 0 := h9
  unfold lnWalker at hE hO
  rw [if_neg h4] at hE hO
  have v6 : I 154 6 = nI (F 6) := hf.1 6 (by decide) (by decide)
  have i1 : (45 + 2 * nI (F 6) : Int32) = nI (45 + 2 * F 6) := by rw [show (2 : Int32) = nI 2 from rfl, nI_mul, show (45 : Int32) = nI 45 from rfl, nI_add]
  refine Ev.of (by decide) (Nat.le_of_ble_eq_true rfl) ?_
  refine Wf.gc tkX7_walkerLine [35] ?_
  conv => whnf
  refine b1' h0 ?_
  conv => whnf
  refine ⟨6, ⟨rfl, by decide, show 6 < 202 by decide⟩, ?_⟩
  conv => whnf
  refine ⟨6, ⟨rfl, by decide, show 6 < 202 by decide⟩, ?_⟩
  conv => whnf
  show Ev l X uX7_newName (d + 7) true 0 0 [.ref 150, .int (11 + I 154 6)] (mk w p r I L) _
  rw [v6, show (11 + nI (F 6) : Int32) = nI (11 + F 6) from nI_add 11 (F 6)]
  have fr6 := sl_fr6 hs hk
  refine y_newName (so := 3) (k := F 6) (d := d) (by omega) rfl fr6 hr he1 hc h0 hs hu hn (fun q I1 hs1 hc1 hn1 => ?_) (fun q => ?_)
  · rw [if_neg (fun z => z q)] at hE hO
    have hc1 : TR b n (tn b n 2 e) I1 := hc1
    have g1 : I1 150 13 = 0 := (hs1 150 13 (by omega) (by decide) (by omega)).trans h0
    have r1 := RX_sM hr hs1
    have f1 := FR_sM hf hs1
    conv => whnf
    show Wf l X uX7_walkerLine (d + 8) true (mC (mk w p r I L) + 0, mS (mk w p r I L) + 0) 35 [(0, .ref 150), (1, .int (45 + 2 * I 154 6))] [] (mk w p r I1 L) kr
    rw [v6, i1]
    refine Wf.gc tkX7_walkerLine [46] ?_
    conv => whnf
    refine y_must (i := 18) (d := d) (by decide) r1 (tn_b he 2) hc1 g1 (by decide) (fun q2 I2 hs2 hc2 => ?_) (fun q2 => ?_)
    · have hc2 : TR b n (tn b n 3 e) I2 := hc2
      have e1 : lab b n 18 0 (F 0 * F 1 - 1) (tn b n 2 e) = (bnd b n 0 (F 0 * F 1 - 1) (tn b n 3 e), tst b n (tn b n 3 e)) := by unfold lab; rw [if_pos q2]; rfl
      rw [e1] at hE hO
      conv => whnf
      refine y_openCell (d := d + 3) hB hT (RX_sN r1 hs2) (FR_sN f1 hs2) (tn_b he 3) hc2 ((sN13 hs2).trans g1) (fun q3 q4 I3 hs3 hc3 => ?_) (fun q3 => ?_) (fun q3 q4 => ?_)
      · rw [if_neg (fun z => z q3), if_neg (by rw [q4]; decide)] at hE hO
        have hs3 : sN I1 I3 := hs2.tr hs3
        have hc3 : TR b n (tn b n 4 e) I3 := hc3
        have g3 : I3 150 13 = 0 := (sN13 hs3).trans g1
        conv => whnf
        show Wf l X uX7_walkerLine (d + 8) true (mC (mk w p r I L) + 0, mS (mk w p r I L) + 0) 46 [(0, .ref 150), (1, .int (nI (45 + 2 * F 6))), (2, .int (nI (tvl b n (tn b n 3 e))))] [] (mk w p r I3 L) kr
        refine Wf.gc tkX7_walkerLine [] ?_
        conv => whnf
        refine y_must (i := 19) (d := d) (by decide) (RX_sN r1 hs3) (tn_b he 4) hc3 g3 (by decide) (fun q5 I4 hs4 hc4 => ?_) (fun q5 => ?_)
        · have hs4 : sN I1 I4 := hs3.tr hs4
          have hc4 : TR b n (tn b n 5 e) I4 := hc4
          have e2 : lab b n 19 0 (F 0 * F 1 - 1) (tn b n 4 e) = (bnd b n 0 (F 0 * F 1 - 1) (tn b n 5 e), tst b n (tn b n 5 e)) := by unfold lab; rw [if_pos q5]; rfl
          rw [e2] at hE hO
          conv => whnf
          refine y_openCell (d := d + 3) hB hT (RX_sN r1 hs4) (FR_sN f1 hs4) (tn_b he 5) hc4 ((sN13 hs4).trans g1) (fun q6 q7 I5 hs5 hc5 => ?_) (fun q6 => ?_) (fun q6 q7 => ?_)
          · rw [if_neg (fun z => z q6), if_neg (by rw [q7]; decide)] at hO
            have hs5 : sN I1 I5 := hs4.tr hs5
            have hc5 : TR b n (tn b n 6 e) I5 := hc5
            have g5 : I5 150 13 = 0 := (sN13 hs5).trans g1
            have f5 := FR_sN f1 hs5
            conv => whnf
            refine b1' g5 ?_
            conv => whnf
            refine ⟨45 + 2 * F 6, ⟨rfl, by omega, show 45 + 2 * F 6 < 202 by omega⟩, ?_⟩
            conv => whnf
            refine ⟨46 + 2 * F 6, ⟨by show (nI (45 + 2 * F 6) + 1 : Int32) = nI (46 + 2 * F 6); rw [nI_1, show 45 + 2 * F 6 + 1 = 46 + 2 * F 6 by omega], by omega, show 46 + 2 * F 6 < 202 by omega⟩, ?_⟩
            conv => whnf
            refine ⟨6, ⟨rfl, by decide, show 6 < 202 by decide⟩, ?_⟩
            conv => whnf
            refine ⟨6, ⟨rfl, by decide, show 6 < 202 by decide⟩, ?_⟩
            conv => whnf
            show kr none (mk w p r (u2 (u2 (u2 I5 154 (45 + 2 * F 6) (nI (tvl b n (tn b n 3 e)))) 154 (46 + 2 * F 6) (nI (tvl b n (tn b n 5 e)))) 154 6 (u2 (u2 I5 154 (45 + 2 * F 6) (nI (tvl b n (tn b n 3 e)))) 154 (46 + 2 * F 6) (nI (tvl b n (tn b n 5 e))) 154 6 + 1)) L)
            rw [u2_o (by omega), u2_o (by omega), f5.1 6 (by decide) (by decide), nI_1]
            have sp : sP I5 (u2 (u2 (u2 I5 154 (45 + 2 * F 6) (nI (tvl b n (tn b n 3 e)))) 154 (46 + 2 * F 6) (nI (tvl b n (tn b n 5 e)))) 154 6 (nI (F 6 + 1))) := ((sP_4 (by omega)).tr (sP_4 (by omega))).tr (sP_4 (by decide))
            have km : KM (uF (uF (uF F (45 + 2 * F 6) (tvl b n (tn b n 3 e))) (46 + 2 * F 6) (tvl b n (tn b n 5 e))) 6 (F 6 + 1)) (nm ++ [nw b n (tn b n 1 e) 3 (F 6)]) := KM_a (KM_c hk (Nat.le_of_eq (by rw [uF_o (by decide), uF_o (by omega), uF_o (by omega)])) (Nat.le_of_eq (by rw [uF_o (by decide), uF_o (by omega), uF_o (by omega)])) (by rw [uF_s]; omega)) ⟨fun z => absurd (show (3 : Nat) = 1 from z) (by decide), fun z => absurd (show (3 : Nat) = 2 from z) (by decide), fun _ => by rw [uF_s]; exact Nat.lt_succ_self _⟩
            have k9 : uF (uF (uF F (45 + 2 * F 6) (tvl b n (tn b n 3 e))) (46 + 2 * F 6) (tvl b n (tn b n 5 e))) 6 (F 6 + 1) 9 = 0 ↔ uF (uF (uF F (45 + 2 * F 6) (tvl b n (tn b n 3 e))) (46 + 2 * F 6) (tvl b n (tn b n 5 e))) 6 (F 6 + 1) 0 = 0 := by
              rw [uF_o (by decide), uF_o (by omega), uF_o (by omega), uF_o (by decide), uF_o (by omega), uF_o (by omega)]
              exact h9
            exact hO _ rfl _ (hs1.sQ.tr (hs5.sQ.tr sp.sQ)) ⟨RX_sP (RX_sN r1 hs5) sp, tn_b he 6, TR_sP hc5 sp, by rw [sp 150 13 (by omega) (by decide)]; exact g5, FR_s (FR_s (FR_s f5 (by omega) (by omega)) (by omega) (by omega)) (by decide) (by decide), RN_sP (RN_sN hn1 hs5) sp, SI_a hs (Or.inr (Or.inr ⟨rfl, show F 6 < 4 by omega⟩)), UN_a hu q fr6, km, k9⟩
          · rw [if_pos q6] at hE
            have fe := hE _ rfl _ (FE_fl (I := I) (I1 := I4) (k := bnd b n 0 (F 0 * F 1 - 1) (tn b n 5 e)) (s := tst b n (tn b n 5 e)) (hs1.sQ.tr hs4.sQ))
            conv => whnf
            refine b2' (flR_n (I := I4) (k := bnd b n 0 (F 0 * F 1 - 1) (tn b n 5 e)) (s := tst b n (tn b n 5 e))) ?_
            conv => whnf
            exact fe
          · rw [if_neg (fun z => z q6), if_pos q7] at hE
            have fe := hE _ rfl _ (FE_fl (I := I) (I1 := I4) (k := 7) (s := tst b n (tn b n 5 e)) (hs1.sQ.tr hs4.sQ))
            conv => whnf
            refine b2' (flR_n (I := I4) (k := 7) (s := tst b n (tn b n 5 e))) ?_
            conv => whnf
            exact fe
        · have e2 : lab b n 19 0 (F 0 * F 1 - 1) (tn b n 4 e) = (1, tst b n (tn b n 4 e)) := by unfold lab; rw [if_neg (by rw [q5]; decide)]
          rw [e2, if_pos (show (1 : Nat) ≠ 0 by decide)] at hE
          have fe := hE _ rfl _ (FE_fl (I := I) (I1 := I3) (k := 1) (s := tst b n (tn b n 4 e)) (hs1.sQ.tr hs3.sQ))
          conv => whnf
          refine y_openCell_f (d := d + 3) flR_n ?_
          conv => whnf
          refine b2' (flR_n (I := I3) (k := 1) (s := tst b n (tn b n 4 e))) ?_
          conv => whnf
          exact fe
      · rw [if_pos q3] at hE
        have fe := hE _ rfl _ (FE_fl (I := I) (I1 := I2) (k := bnd b n 0 (F 0 * F 1 - 1) (tn b n 3 e)) (s := tst b n (tn b n 3 e)) (hs1.sQ.tr hs2.sQ))
        conv => whnf
        exact wk_41 flR_n fe
      · rw [if_neg (fun z => z q3), if_pos q4] at hE
        have fe := hE _ rfl _ (FE_fl (I := I) (I1 := I2) (k := 7) (s := tst b n (tn b n 3 e)) (hs1.sQ.tr hs2.sQ))
        conv => whnf
        exact wk_41 flR_n fe
    · have e1 : lab b n 18 0 (F 0 * F 1 - 1) (tn b n 2 e) = (1, tst b n (tn b n 2 e)) := by unfold lab; rw [if_neg (by rw [q2]; decide)]
      rw [e1, if_pos (show (1 : Nat) ≠ 0 by decide)] at hE
      have fe := hE _ rfl _ (FE_fl (I := I) (I1 := I1) (k := 1) (s := tst b n (tn b n 2 e)) hs1.sQ)
      conv => whnf
      refine y_openCell_f (d := d + 3) flR_n ?_
      conv => whnf
      exact wk_41 flR_n fe
  · rw [if_pos q] at hE
    conv => whnf
    exact wk_35 flR_n (hE _ rfl _ (FE_fl sQ.rf))
theorem us_80 {v u t : Int32} {bs : Nat × Nat} {J : Nat → Nat → Int32} (hJ : ¬ J 150 13 = 0) (q : kr none (mk w p r J L)) : Wf l X uX7_unsureLine (d + 8) true bs 80 [(0, .ref 150), (1, .int v), (2, .int u), (3, .int t)] [] (mk w p r J L) kr := by
  refine Wf.gc tkX7_unsureLine [] ?_
  conv => whnf
  refine y_pass_f (d := d + 4) hJ ?_
  conv => whnf
  refine y_number_f (d := d + 3) hJ ?_
  conv => whnf
  refine b2' hJ ?_
  conv => whnf
  exact q
theorem us_32 {v u : Int32} {m : Nat} {bs : Nat × Nat} {J : Nat → Nat → Int32} (hm : m ≤ 4) (h7 : J 154 7 = nI m) (hJ : ¬ J 150 13 = 0) (q : kr none (mk w p r J L)) : ∀ j, j ≤ m → Wf l X uX7_unsureLine (d + 8) true bs 32 [(0, .ref 150), (1, .int v), (2, .int u), (3, .int (nI j))] [] (mk w p r J L) kr := by
  refine down (fun j => Wf l X uX7_unsureLine (d + 8) true bs 32 [(0, .ref 150), (1, .int v), (2, .int u), (3, .int (nI j))] [] (mk w p r J L) kr) m ?_ ?_
  · refine Wf.gc tkX7_unsureLine [80] ?_
    conv => whnf
    refine ⟨7, ⟨rfl, by decide, show 7 < 202 by decide⟩, ?_⟩
    conv => whnf
    refine b1' (by show J 154 7 ≤ nI m; rw [h7]; exact Int32.le_refl _) ?_
    conv => whnf
    exact us_80 hJ q
  · intro j hj ih
    rw [← nI_1] at ih
    refine Wf.gc tkX7_unsureLine [32] ?_
    conv => whnf
    refine ⟨7, ⟨rfl, by decide, show 7 < 202 by decide⟩, ?_⟩
    conv => whnf
    refine b2' (by show ¬ J 154 7 ≤ nI j; rw [h7]; exact nI_ge hj (by omega)) ?_
    conv => whnf
    refine b1 hJ ?_
    conv => whnf
    exact ih
set_option maxHeartbeats 4000000 in
set_option maxRecDepth 20000 in
theorem y_unsureLine (hB : Bd F W nm) (h4 : ¬ 4 ≤ F 7) (hS : SF b n (F, W, nm, tn b n 1 e) I) (he : e ≤ n) (hE : ∀ er, lnUnsure b n F W nm e = .inl er → ∀ I', FE I er I' → kr none (mk w p r I' L)) (hO : ∀ P', lnUnsure b n F W nm e = .inr P' → ∀ I', sQ I I' → SF b n P' I' → kr none (mk w p r I' L)) : Ev l X uX7_unsureLine (d + 8) true 0 0 [.ref 150] (mk w p r I L) kr := by
  obtain ⟨hr, he1, hc, h0, hf, hn, hs, hu, hk, h9⟩ := hS
  have he1 : tn b n 1 e ≤ n := he1
  have hc : TR b n (tn b n 1 e) I := hc
  have hf : FR F W I := hf
  have hk : KM F nm := hk
  have h9 : F 9 = 0 ↔ F 0 = 0 := h9
  have BF := hB.2.1
  have f6 : (nam b n nm 2 (tn b n 1 e)).2 < 6 := nam_6 (fun i hi => (hB.2.2.2.2.1 i hi).2)
  unfold lnUnsure at hE hO
  rw [if_neg h4] at hE hO
  have v7 : I 154 7 = nI (F 7) := hf.1 7 (by decide) (by decide)
  have i1 : (53 + 2 * nI (F 7) : Int32) = nI (53 + 2 * F 7) := by rw [show (2 : Int32) = nI 2 from rfl, nI_mul, show (53 : Int32) = nI 53 from rfl, nI_add]
  refine Ev.of (by decide) (Nat.le_of_ble_eq_true rfl) ?_
  refine Wf.gc tkX7_unsureLine [32] ?_
  conv => whnf
  refine b1' h0 ?_
  conv => whnf
  refine ⟨7, ⟨rfl, by decide, show 7 < 202 by decide⟩, ?_⟩
  conv => whnf
  refine y_named (so := 2) (lo := 6) (hi := 10) (d := d) (by omega) hr he1 hc h0 hs hu hn (fun q => ?_) (fun q => ?_)
  · rw [if_neg (fun z => z q)] at hE hO
    generalize (nam b n nm 2 (tn b n 1 e)).2 = c at hE hO f6 ⊢
    conv => whnf
    show Wf l X uX7_unsureLine (d + 8) true (mC (mk w p r I L) + 0, mS (mk w p r I L) + 0) 32 [(0, .ref 150), (1, .int (53 + 2 * I 154 7)), (2, .int (nI c)), (3, .int (nI 0))] [] (mk w p r I L) kr
    rw [v7, i1]
    have loop := srch (e := F 7) (P := fun u => Nat.beq (F (53 + 2 * u)) c) (Wi := fun j => Wf l X uX7_unsureLine (d + 8) true (mC (mk w p r I L) + 0, mS (mk w p r I L) + 0) 32 [(0, .ref 150), (1, .int (nI (53 + 2 * F 7))), (2, .int (nI c)), (3, .int (nI j))] [] (mk w p r I L) kr) (K := fun o => o = usd F c) ?_ ?_ 0 (Nat.zero_le _)
    · exact loop rfl
    · intro ho
      rw [if_neg (by rw [← ho]; decide)] at hE hO
      refine Wf.gc tkX7_unsureLine [80] ?_
      conv => whnf
      refine ⟨7, ⟨rfl, by decide, show 7 < 202 by decide⟩, ?_⟩
      conv => whnf
      refine b1' (by show I 154 7 ≤ nI (F 7); rw [v7]; exact Int32.le_refl _) ?_
      conv => whnf
      show Wf l X uX7_unsureLine (d + 8) true (mC (mk w p r I L) + 0, mS (mk w p r I L) + 0) 80 [(0, .ref 150), (1, .int (nI (53 + 2 * F 7))), (2, .int (nI c)), (3, .int (nI (F 7)))] [] (mk w p r I L) kr
      refine Wf.gc tkX7_unsureLine [] ?_
      conv => whnf
      refine y_pass (d := d + 4) hr he1 hc h0 (fun I1 hs1 hc1 => ?_)
      have hc1 : TR b n (tn b n 2 e) I1 := hc1
      have g1 : I1 150 13 = 0 := (sN13 hs1).trans h0
      conv => whnf
      refine y_number (lo := 1) (hi := 30) (d := d + 3) (by decide) (by decide) (RX_sN hr hs1) (tn_b he 2) hc1 g1 (fun q2 I2 hs2 hc2 => ?_) (fun q2 => ?_)
      · rw [if_neg (fun z => z q2)] at hO
        have hs2 : sN I I2 := hs1.tr hs2
        have hc2 : TR b n (tn b n 3 e) I2 := hc2
        have g2 : I2 150 13 = 0 := (sN13 hs2).trans h0
        have f2 := FR_sN hf hs2
        conv => whnf
        refine b1' g2 ?_
        conv => whnf
        refine ⟨53 + 2 * F 7, ⟨rfl, by omega, show 53 + 2 * F 7 < 202 by omega⟩, ?_⟩
        conv => whnf
        refine ⟨54 + 2 * F 7, ⟨by show (nI (53 + 2 * F 7) + 1 : Int32) = nI (54 + 2 * F 7); rw [nI_1, show 53 + 2 * F 7 + 1 = 54 + 2 * F 7 by omega], by omega, show 54 + 2 * F 7 < 202 by omega⟩, ?_⟩
        conv => whnf
        refine ⟨7, ⟨rfl, by decide, show 7 < 202 by decide⟩, ?_⟩
        conv => whnf
        refine ⟨7, ⟨rfl, by decide, show 7 < 202 by decide⟩, ?_⟩
        conv => whnf
        show kr none (mk w p r (u2 (u2 (u2 I2 154 (53 + 2 * F 7) (nI c)) 154 (54 + 2 * F 7) (nI (tvl b n (tn b n 2 e)))) 154 7 (u2 (u2 I2 154 (53 + 2 * F 7) (nI c)) 154 (54 + 2 * F 7) (nI (tvl b n (tn b n 2 e))) 154 7 + 1)) L)
        rw [u2_o (by omega), u2_o (by omega), f2.1 7 (by decide) (by decide), nI_1]
        have sp : sP I2 (u2 (u2 (u2 I2 154 (53 + 2 * F 7) (nI c)) 154 (54 + 2 * F 7) (nI (tvl b n (tn b n 2 e)))) 154 7 (nI (F 7 + 1))) := ((sP_4 (by omega)).tr (sP_4 (by omega))).tr (sP_4 (by decide))
        have km : KM (uF (uF (uF F (53 + 2 * F 7) c) (54 + 2 * F 7) (tvl b n (tn b n 2 e))) 7 (F 7 + 1)) nm := KM_c hk (Nat.le_of_eq (by rw [uF_o (by decide), uF_o (by omega), uF_o (by omega)])) (Nat.le_of_eq (by rw [uF_o (by decide), uF_o (by omega), uF_o (by omega)])) (Nat.le_of_eq (by rw [uF_o (by decide), uF_o (by omega), uF_o (by omega)]))
        have k9 : uF (uF (uF F (53 + 2 * F 7) c) (54 + 2 * F 7) (tvl b n (tn b n 2 e))) 7 (F 7 + 1) 9 = 0 ↔ uF (uF (uF F (53 + 2 * F 7) c) (54 + 2 * F 7) (tvl b n (tn b n 2 e))) 7 (F 7 + 1) 0 = 0 := by
          rw [uF_o (by decide), uF_o (by omega), uF_o (by omega), uF_o (by decide), uF_o (by omega), uF_o (by omega)]
          exact h9
        exact hO _ rfl _ (hs2.sQ.tr sp.sQ) ⟨RX_sP (RX_sN hr hs2) sp, tn_b he 3, TR_sP hc2 sp, by rw [sp 150 13 (by omega) (by decide)]; exact g2, FR_s (FR_s (FR_s f2 (by omega) (by omega)) (by omega) (by omega)) (by decide) (by decide), RN_sP (RN_sN hn hs2) sp, hs, hu, km, k9⟩
      · rw [if_pos q2] at hE
        have fe := hE _ rfl _ (FE_fl (I := I) (I1 := I1) (k := bnd b n 1 30 (tn b n 2 e)) (s := tst b n (tn b n 2 e)) hs1.sQ)
        conv => whnf
        refine b2' (flR_n (I := I1) (k := bnd b n 1 30 (tn b n 2 e)) (s := tst b n (tn b n 2 e))) ?_
        conv => whnf
        exact fe
    · intro j hj
      have vj : I 154 (53 + 2 * j) = nI (F (53 + 2 * j)) := hf.1 _ (by omega) (by omega)
      have bj := BF (53 + 2 * j)
      have stp : (F (53 + 2 * j) = c → Wf l X uX7_unsureLine (d + 8) true (mC (mk w p r I L) + 0, mS (mk w p r I L) + 0) 32 [(0, .ref 150), (1, .int (nI (53 + 2 * F 7))), (2, .int (nI c)), (3, .int (nI (j + 1)))] [] (mk w p r (flR I 3 (tst b n (tn b n 1 e))) L) kr) → (¬ F (53 + 2 * j) = c → Wf l X uX7_unsureLine (d + 8) true (mC (mk w p r I L) + 0, mS (mk w p r I L) + 0) 32 [(0, .ref 150), (1, .int (nI (53 + 2 * F 7))), (2, .int (nI c)), (3, .int (nI (j + 1)))] [] (mk w p r I L) kr) → Wf l X uX7_unsureLine (d + 8) true (mC (mk w p r I L) + 0, mS (mk w p r I L) + 0) 32 [(0, .ref 150), (1, .int (nI (53 + 2 * F 7))), (2, .int (nI c)), (3, .int (nI j))] [] (mk w p r I L) kr := by
        intro g1 g2
        rw [← nI_1] at g1 g2
        refine Wf.gc tkX7_unsureLine [32] ?_
        conv => whnf
        refine ⟨7, ⟨rfl, by decide, show 7 < 202 by decide⟩, ?_⟩
        conv => whnf
        refine b2' (by show ¬ I 154 7 ≤ nI j; rw [v7]; exact nI_ge hj (by omega)) ?_
        conv => whnf
        refine b2 (fun z => z h0) ?_
        conv => whnf
        refine ⟨53 + 2 * j, ⟨by show (53 + 2 * nI j : Int32) = nI (53 + 2 * j); rw [show (2 : Int32) = nI 2 from rfl, nI_mul, show (53 : Int32) = nI 53 from rfl, nI_add], by omega, show 53 + 2 * j < 202 by omega⟩, ?_⟩
        conv => whnf
        refine ⟨fun z => ?_, fun z => ?_⟩
        · have z : ¬ I 154 (53 + 2 * j) = nI c := z
          rw [vj, nI_eq (by omega) (by omega)] at z
          conv => whnf
          exact g2 z
        · have z : I 154 (53 + 2 * j) = nI c := z
          rw [vj, nI_eq (by omega) (by omega)] at z
          conv => whnf
          refine y_wrong0 h0 ?_
          conv => whnf
          have eJ : u2 (u2 (u2 I 150 13 1) 150 9 3) 150 10 (I 150 4) = flR I 3 (tst b n (tn b n 1 e)) := by unfold flR; rw [← hc.2.1]; rfl
          have g1 := g1 z
          rw [← eJ] at g1
          exact g1
      refine ⟨fun hP ho => stp (fun z => ?_) (fun z => ?_), fun hP ih => stp (fun z => ?_) (fun _ => ih)⟩
      · rw [if_pos (by rw [← ho]; rfl)] at hE
        exact us_32 (m := F 7) (by omega) (by unfold flR; rw [u2_o (by decide), u2_o (by decide), u2_o (by decide)]; exact v7) flR_n (hE _ rfl _ (FE_fl sQ.rf)) (j + 1) (by omega)
      · exact absurd (Nat.eq_of_beq_eq_true hP) z
      · have hP : Nat.beq (F (53 + 2 * j)) c = false := hP
        rw [z, Nat.beq_refl] at hP
        cases hP
  · rw [if_pos q] at hE
    conv => whnf
    show Wf l X uX7_unsureLine (d + 8) true (mC (mk w p r I L) + 0, mS (mk w p r I L) + 0) 32 [(0, .ref 150), (1, .int (53 + 2 * I 154 7)), (2, .int 0), (3, .int (nI 0))] [] (mk w p r (flR I (nam b n nm 2 (tn b n 1 e)).1 (tst b n (tn b n 1 e))) L) kr
    exact us_32 (m := F 7) (by omega) (by unfold flR; rw [u2_o (by decide), u2_o (by decide), u2_o (by decide)]; exact v7) flR_n (hE _ rfl _ (FE_fl sQ.rf)) 0 (Nat.zero_le _)
end RL3
