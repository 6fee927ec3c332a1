/-! the reference's lines: dropped, unsure, walker -/
section RL2
variable {l : Launch} {X : Nat × (Nat → Int32)} {d : Nat} {w : Nat × Nat} {p r : Nat} {I : Nat → Nat → Int32} {L : Nat → Nat → Int64} {kr : KR} {b : Nat → Nat} {n e : Nat} {nm : List Nm} {F : Nat → Nat} {W : Int32}
theorem y_wallLine_f (hf : ¬ I 150 13 = 0) (h : kr none (mk w p r I L)) : Ev l X uX7_wallLine (d + 4) true 0 0 [.ref 150] (mk w p r I L) kr := by
  refine Ev.of (by decide) (Nat.le_of_ble_eq_true rfl) ?_
  refine Wf.gc tkX7_wallLine [] ?_
  conv => whnf
  refine b2' hf ?_
  conv => whnf
  exact h
theorem y_unsureLine_f (hf : ¬ I 150 13 = 0) (h : kr none (mk w p r I L)) : Ev l X uX7_unsureLine (d + 8) true 0 0 [.ref 150] (mk w p r I L) kr := by
  refine Ev.of (by decide) (Nat.le_of_ble_eq_true rfl) ?_
  refine Wf.gc tkX7_unsureLine [] ?_
  conv => whnf
  refine b2' hf ?_
  conv => whnf
  exact h
theorem y_walkerLine_f (hf : ¬ I 150 13 = 0) (h : kr none (mk w p r I L)) : Ev l X uX7_walkerLine (d + 8) true 0 0 [.ref 150] (mk w p r I L) kr := by
  refine Ev.of (by decide) (Nat.le_of_ble_eq_true rfl) ?_
  refine Wf.gc tkX7_walkerLine [] ?_
  conv => whnf
  refine b2' hf ?_
  conv => whnf
  exact h
theorem y_faceLine_f (hf : ¬ I 150 13 = 0) (h : kr none (mk w p r I L)) : Ev l X uX7_faceLine (d + 9) true 0 0 [.ref 150] (mk w p r I L) kr := by
  refine Ev.of (by decide) (Nat.le_of_ble_eq_true rfl) ?_
  refine Wf.gc tkX7_faceLine [] ?_
  conv => whnf
  refine b2' hf ?_
  conv => whnf
  exact h
theorem y_canonLine_f (hf : ¬ I 150 13 = 0) (h : kr none (mk w p r I L)) : Ev l X uX7_canonLine (d + 9) true 0 0 [.ref 150] (mk w p r I L) kr := by
  refine Ev.of (by decide) (Nat.le_of_ble_eq_true rfl) ?_
  refine Wf.gc tkX7_canonLine [] ?_
  conv => whnf
  refine b2' hf ?_
  conv => whnf
  exact h
theorem dr_35 {v : Int32} {bs : Nat × Nat} {J : Nat → Nat → Int32} (hJ : ¬ J 150 13 = 0) (q : kr none (mk w p r J L)) : Wf l X uX7_droppedLine (d + 9) true bs 35 [(0, .ref 150), (1, .int v)] [] (mk w p r J L) kr := by
  refine Wf.gc tkX7_droppedLine [] ?_
  conv => whnf
  refine y_pass_f (d := d + 5) hJ ?_
  conv => whnf
  refine y_after_f (d := d) (by decide) hJ ?_
  conv => whnf
  refine b2' hJ ?_
  conv => whnf
  exact q
theorem y_droppedLine_f (hf : ¬ I 150 13 = 0) (h : kr none (mk w p r I L)) : Ev l X uX7_droppedLine (d + 9) true 0 0 [.ref 150] (mk w p r I L) kr := by
  refine Ev.of (by decide) (Nat.le_of_ble_eq_true rfl) ?_
  refine Wf.gc tkX7_droppedLine [35] ?_
  conv => whnf
  refine y_named_f (d := d + 1) hf ?_
  conv => whnf
  refine b1 hf ?_
  conv => whnf
  exact dr_35 hf h
set_option maxHeartbeats 2000000 in
set_option maxRecDepth 20000 in
theorem y_droppedLine (hB : Bd F W nm) (hS : SF b n (F, W, nm, tn b n 1 e) I) (he : e ≤ n) (hE : ∀ er, lnDropped b n F W nm e = .inl er → ∀ I', FE I er I' → kr none (mk w p r I' L)) (hO : ∀ P', lnDropped b n F W nm e = .inr P' → ∀ I', sQ I I' → SF b n P' I' → kr none (mk w p r I' L)) : Ev l X uX7_droppedLine (d + 9) true 0 0 [.ref 150] (mk w p r I L) kr := by
  obtain ⟨hr, he1, hc, h0, hf, hn, hs, hu, hk, h9⟩ := hS
  have he1 : tn b n 1 e ≤ n := he1
  have hc : TR b n (tn b n 1 e) I := hc
  have hf : FR F W I := hf
  have h9 : F 9 = 0 ↔ F 0 = 0 := h9
  have BF := hB.2.1
  have f6 : (nam b n nm 1 (tn b n 1 e)).2 < 6 := nam_6 (fun i hi => (hB.2.2.2.2.1 i hi).2)
  unfold lnDropped at hE hO
  refine Ev.of (by decide) (Nat.le_of_ble_eq_true rfl) ?_
  refine Wf.gc tkX7_droppedLine [35] ?_
  conv => whnf
  refine y_named (so := 1) (lo := 0) (hi := 5) (d := d + 1) (by omega) hr he1 hc h0 hs hu hn (fun q => ?_) (fun q => ?_)
  · rw [if_neg (fun z => z q)] at hE hO
    generalize (nam b n nm 1 (tn b n 1 e)).2 = f at hE hO f6 ⊢
    have v6 : I 154 (61 + f) = nI (F (61 + f)) := hf.1 _ (by omega) (by omega)
    have b6 := BF (61 + f)
    conv => whnf
    refine b2 (fun z => z h0) ?_
    conv => whnf
    refine ⟨61 + f, ⟨nI_add 61 f, by omega, show 61 + f < 202 by omega⟩, ?_⟩
    conv => whnf
    refine ⟨fun z => ?_, fun z => ?_⟩
    · have z : I 154 (61 + f) ≤ 0 := z
      rw [v6, show (0 : Int32) = nI 0 from rfl, nI_leI (by omega) (by decide)] at z
      rw [if_neg (by omega)] at hE hO
      conv => whnf
      show Wf l X uX7_droppedLine (d + 9) true (mC (mk w p r I L) + 0, mS (mk w p r I L) + 0) 35 [(0, .ref 150), (1, .int (nI f))] [] (mk w p r I L) kr
      refine Wf.gc tkX7_droppedLine [] ?_
      conv => whnf
      refine y_pass (d := d + 5) hr he1 hc h0 (fun I1 hs1 hc1 => ?_)
      have hc1 : TR b n (tn b n 2 e) I1 := hc1
      have g1 : I1 150 13 = 0 := (sN13 hs1).trans h0
      conv => whnf
      refine y_after (i := 20) (lo := 1) (hi := 40) (d := d) (by decide) (by decide) (by decide) (RX_sN hr hs1) (tn_b he 2) hc1 g1 (by decide) (fun q I2 hs2 hc2 z1 z2 => ?_) (fun q I2 hs2 => ?_)
      · rw [if_neg (fun z => z q)] at hO
        have hs2 : sN I I2 := hs1.tr hs2
        have hc2 : TR b n (tn b n 4 e) I2 := hc2
        have g2 : I2 150 13 = 0 := (sN13 hs2).trans h0
        have f2 := FR_sN hf hs2
        conv => whnf
        refine b1' g2 ?_
        conv => whnf
        refine ⟨61 + f, ⟨nI_add 61 f, by omega, show 61 + f < 202 by omega⟩, ?_⟩
        conv => whnf
        refine ⟨8, ⟨rfl, by decide, show 8 < 202 by decide⟩, ?_⟩
        conv => whnf
        refine ⟨8, ⟨rfl, by decide, show 8 < 202 by decide⟩, ?_⟩
        conv => whnf
        show kr none (mk w p r (u2 (u2 I2 154 (61 + f) (nI (tvl b n (tn b n 3 e)))) 154 8 (u2 I2 154 (61 + f) (nI (tvl b n (tn b n 3 e))) 154 8 + 1)) L)
        rw [u2_o (by omega), f2.1 8 (by decide) (by decide), nI_1]
        have sp : sP I2 (u2 (u2 I2 154 (61 + f) (nI (tvl b n (tn b n 3 e)))) 154 8 (nI (F 8 + 1))) := (sP_4 (by omega)).tr (sP_4 (by decide))
        have km : KM (uF (uF F (61 + f) (tvl b n (tn b n 3 e))) 8 (F 8 + 1)) nm := KM_c hk (Nat.le_of_eq (by rw [uF_o (by decide), uF_o (by omega)])) (Nat.le_of_eq (by rw [uF_o (by decide), uF_o (by omega)])) (Nat.le_of_eq (by rw [uF_o (by decide), uF_o (by omega)]))
        have k9 : uF (uF F (61 + f) (tvl b n (tn b n 3 e))) 8 (F 8 + 1) 9 = 0 ↔ uF (uF F (61 + f) (tvl b n (tn b n 3 e))) 8 (F 8 + 1) 0 = 0 := by
          rw [uF_o (by decide), uF_o (by omega), uF_o (by decide), uF_o (by omega)]
          exact h9
        exact hO _ rfl _ (hs2.sQ.tr sp.sQ) ⟨RX_sP (RX_sN hr hs2) sp, tn_b he 4, TR_sP hc2 sp, by rw [sp 150 13 (by omega) (by decide)]; exact g2, FR_s (FR_s f2 (by omega) (by omega)) (by decide) (by decide), RN_sP (RN_sN hn hs2) sp, hs, hu, km, k9⟩
      · rw [if_pos q] at hE
        have fe := hE _ rfl _ (FE_fl (I := I) (I1 := I2) (k := (lab b n 20 1 40 (tn b n 2 e)).1) (s := (lab b n 20 1 40 (tn b n 2 e)).2) (hs1.tr hs2).sQ)
        conv => whnf
        refine b2' (flR_n (I := I2) (k := (lab b n 20 1 40 (tn b n 2 e)).1) (s := (lab b n 20 1 40 (tn b n 2 e)).2)) ?_
        conv => whnf
        exact fe
    · have z : ¬ I 154 (61 + f) ≤ 0 := z
      rw [v6, show (0 : Int32) = nI 0 from rfl, nI_leI (by omega) (by decide)] at z
      rw [if_pos (by omega)] at hE
      conv => whnf
      refine y_wrong0 h0 ?_
      conv => whnf
      have eJ : u2 (u2 (u2 I 150 13 1) 150 9 3) 150 10 (I 150 4) = flR I 3 (tst b n (tn b n 1 e)) := by unfold flR; rw [← hc.2.1]; rfl
      show Wf l X uX7_droppedLine (d + 9) true (mC (mk w p r I L) + 0, mS (mk w p r I L) + 0) 35 [(0, .ref 150), (1, .int (nI f))] [] (mk w p r (u2 (u2 (u2 I 150 13 1) 150 9 3) 150 10 (I 150 4)) L) kr
      rw [eJ]
      exact dr_35 flR_n (hE _ rfl _ (FE_fl sQ.rf))
  · rw [if_pos q] at hE
    conv => whnf
    refine b1 (flR_n (I := I) (k := (nam b n nm 1 (tn b n 1 e)).1) (s := tst b n (tn b n 1 e))) ?_
    conv => whnf
    exact dr_35 flR_n (hE _ rfl _ (FE_fl sQ.rf))
theorem wk_41 {v u : Int32} {bs : Nat × Nat} {J : Nat → Nat → Int32} (hJ : ¬ J 150 13 = 0) (q : kr none (mk w p r J L)) : Wf l X uX7_walkerLine (d + 8) true bs 46 [(0, .ref 150), (1, .int v), (2, .int u)] [] (mk w p r J L) kr := by
  refine Wf.gc tkX7_walkerLine [] ?_
  conv => whnf
  refine y_must_f (d := d) hJ ?_
  conv => whnf
  refine y_openCell_f (d := d + 3) hJ ?_
  conv => whnf
  refine b2' hJ ?_
  conv => whnf
  exact q
theorem wk_35 {v : Int32} {bs : Nat × Nat} {J : Nat → Nat → Int32} (hJ : ¬ J 150 13 = 0) (q : kr none (mk w p r J L)) : Wf l X uX7_walkerLine (d + 8) true bs 35 [(0, .ref 150), (1, .int v)] [] (mk w p r J L) kr := by
  refine Wf.gc tkX7_walkerLine [46] ?_
  conv => whnf
  refine y_must_f (d := d) hJ ?_
  conv => whnf
  refine y_openCell_f (d := d + 3) hJ ?_
  conv => whnf
  exact wk_41 hJ q
theorem sl_fr (hs : SI nm) (hk : KM F nm) (h4 : F 4 < 6) : ∀ i, i < nm.length → sl (nmD nm i) ≠ F 4 := fun i hi => by
  obtain ⟨k1, k2, k3⟩ := hk i hi
  unfold sl
  rcases hs i hi with ⟨h1, h2⟩ | ⟨h1, h2⟩ | ⟨h1, h2⟩
  · rw [if_pos h1]; have := k1 h1; omega
  · rw [if_neg (by omega), if_pos h1]; omega
  · rw [if_neg (by omega), if_neg (by omega)]; omega
theorem sl_fr5 (hs : SI nm) (hk : KM F nm) (h5 : F 5 < 5) : ∀ i, i < nm.length → sl (nmD nm i) ≠ 6 + F 5 := fun i hi => by
  obtain ⟨k1, k2, k3⟩ := hk i hi
  unfold sl
  rcases hs i hi with ⟨h1, h2⟩ | ⟨h1, h2⟩ | ⟨h1, h2⟩
  · rw [if_pos h1]; omega
  · rw [if_neg (by omega), if_pos h1]; have := k2 h1; omega
  · rw [if_neg (by omega), if_neg (by omega)]; omega
theorem sl_fr6 (hs : SI nm) (hk : KM F nm) : ∀ i, i < nm.length → sl (nmD nm i) ≠ 11 + F 6 := fun i hi => by
  obtain ⟨k1, k2, k3⟩ := hk i hi
  unfold sl
  rcases hs i hi with ⟨h1, h2⟩ | ⟨h1, h2⟩ | ⟨h1, h2⟩
  · rw [if_pos h1]; omega
  · rw [if_neg (by omega), if_pos h1]; omega
  · rw [if_neg (by omega), if_neg (by omega)]; have := k3 h1; omega
end RL2
