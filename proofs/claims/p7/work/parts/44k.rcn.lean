/-! the reference's canon line -/
section RL4
variable {l : Launch} {X : Nat × (Nat → Int32)} {d : Nat} {w : Nat × Nat} {p r : Nat} {I : Nat → Nat → Int32} {L : Nat → Nat → Int64} {kr : KR} {b : Nat → Nat} {n e : Nat} {nm : List Nm} {F : Nat → Nat} {W : Int32}
set_option maxRecDepth 20000 in
theorem cn_72 {v u t : Int32} {bs : Nat × Nat} {J : Nat → Nat → Int32} (hJ : ¬ J 150 13 = 0) (q : kr none (mk w p r J L)) : Wf l X uX7_canonLine (d + 9) true bs 72 [(0, .ref 150), (1, .int v), (2, .int u), (3, .int t)] [] (mk w p r J L) kr := by
  refine Wf.gc tkX7_canonLine [] ?_
  conv => whnf
  refine y_pass_f (d := d + 5) hJ ?_
  conv => whnf
  refine y_after_f (d := d) (by decide) hJ ?_
  conv => whnf
  refine y_after_f (d := d) (by decide) hJ ?_
  conv => whnf
  refine b2' hJ ?_
  conv => whnf
  exact q
set_option maxRecDepth 20000 in
theorem cn_32 {u : Int32} {m : Nat} {bs : Nat × Nat} {J : Nat → Nat → Int32} (hm : m ≤ 5) (hJ : ¬ J 150 13 = 0) (q : kr none (mk w p r J L)) : ∀ j, j ≤ m → Wf l X uX7_canonLine (d + 9) true bs 32 [(0, .ref 150), (1, .int (nI m)), (2, .int u), (3, .int (nI j))] [] (mk w p r J L) kr := by
  refine down (fun j => Wf l X uX7_canonLine (d + 9) true bs 32 [(0, .ref 150), (1, .int (nI m)), (2, .int u), (3, .int (nI j))] [] (mk w p r J L) kr) m ?_ ?_
  · refine Wf.gc tkX7_canonLine [72] ?_
    conv => whnf
    refine b1' (Int32.le_refl _) ?_
    conv => whnf
    exact cn_72 hJ q
  · intro j hj ih
    rw [← nI_1] at ih
    refine Wf.gc tkX7_canonLine [32] ?_
    conv => whnf
    refine b2' (nI_ge hj (by omega)) ?_
    conv => whnf
    refine b1 hJ ?_
    conv => whnf
    exact ih
set_option maxRecDepth 20000 in
theorem cn_23 {m : Nat} {bs : Nat × Nat} {J : Nat → Nat → Int32} (hm : m ≤ 5) (hJ : ¬ J 150 13 = 0) (q : kr none (mk w p r J L)) : Wf l X uX7_canonLine (d + 9) true bs 23 [(0, .ref 150), (1, .int (nI m))] [] (mk w p r J L) kr := by
  refine Wf.gc tkX7_canonLine [32] ?_
  conv => whnf
  refine y_named_f (d := d + 1) hJ ?_
  conv => whnf
  exact cn_32 hm hJ q 0 (Nat.zero_le _)
set_option maxHeartbeats 4000000 in
set_option maxRecDepth 20000 in
theorem y_canonLine (hB : Bd F W nm) (h5 : ¬ 5 ≤ F 5) (hS : SF b n (F, W, nm, tn b n 1 e) I) (he : e ≤ n) (hE : ∀ er, lnCanon b n F W nm e = .inl er → ∀ I', FE I er I' → kr none (mk w p r I' L)) (hO : ∀ P', lnCanon b n F W nm e = .inr P' → ∀ I', sQ I I' → SF b n P' I' → kr none (mk w p r I' L)) : Ev l X uX7_canonLine (d + 9) true 0 0 [.ref 150] (mk w p r I L) kr := by
  obtain ⟨hr, he1, hc, h0, hf, hn, hs, hu, hk, h9⟩ := hS
  have he1 : tn b n 1 e ≤ n := he1
  have hc : TR b n (tn b n 1 e) I := hc
  have hf : FR F W I := hf
  have hk : KM F nm := hk
  have hs : SI nm := hs
  have hu : UN b nm := hu
  have hn : RN b nm I := hn
  have h9 : F 9 = 0 ↔ F 0 = 0 := h9
  have BF := hB.2.1
  unfold lnCanon at hE hO
  rw [if_neg h5] at hE hO
  have v5 : I 154 5 = nI (F 5) := hf.1 5 (by decide) (by decide)
  refine Ev.of (by decide) (Nat.le_of_ble_eq_true rfl) ?_
  refine Wf.gc tkX7_canonLine [23] ?_
  conv => whnf
  refine b1' h0 ?_
  conv => whnf
  refine ⟨5, ⟨rfl, by decide, show 5 < 202 by decide⟩, ?_⟩
  conv => whnf
  show Ev l X uX7_newName (d + 8) true 0 0 [.ref 150, .int (6 + I 154 5)] (mk w p r I L) _
  rw [v5, show (6 + nI (F 5) : Int32) = nI (6 + F 5) from nI_add 6 (F 5)]
  have fr5 := sl_fr5 hs hk (by omega)
  refine y_newName (so := 2) (k := F 5) (d := d + 1) (by omega) rfl fr5 hr he1 hc h0 hs hu hn (fun q I1 hs1 hc1 hn1 => ?_) (fun q => ?_)
  · rw [if_neg (fun z => z q)] at hE hO
    have hc1 : TR b n (tn b n 2 e) I1 := hc1
    have g1 : I1 150 13 = 0 := (hs1 150 13 (by omega) (by decide) (by omega)).trans h0
    have r1 := RX_sM hr hs1
    have f1 := FR_sM hf hs1
    have si1 : SI (nm ++ [nw b n (tn b n 1 e) 2 (F 5)]) := SI_a hs (Or.inr (Or.inl ⟨rfl, show F 5 < 5 by omega⟩))
    have un1 : UN b (nm ++ [nw b n (tn b n 1 e) 2 (F 5)]) := UN_a hu q fr5
    have f6 : (nam b n (nm ++ [nw b n (tn b n 1 e) 2 (F 5)]) 1 (tn b n 2 e)).2 < 6 := nam_6 (fun i hi => (nms_a hB.2.2.2.2.1 ⟨show 2 < 10 by decide, show F 5 < 6 by omega⟩ i hi).2)
    conv => whnf
    show Wf l X uX7_canonLine (d + 9) true (mC (mk w p r I L) + 0, mS (mk w p r I L) + 0) 23 [(0, .ref 150), (1, .int (I 154 5))] [] (mk w p r I1 L) kr
    rw [v5]
    refine Wf.gc tkX7_canonLine [32] ?_
    conv => whnf
    refine y_named (so := 1) (lo := 0) (hi := 5) (d := d + 1) (by omega) r1 (tn_b he 2) hc1 g1 si1 un1 hn1 (fun q2 => ?_) (fun q2 => ?_)
    · rw [if_neg (fun z => z q2)] at hE hO
      generalize (nam b n (nm ++ [nw b n (tn b n 1 e) 2 (F 5)]) 1 (tn b n 2 e)).2 = f at hE hO f6 ⊢
      conv => whnf
      show Wf l X uX7_canonLine (d + 9) true (mC (mk w p r I L) + 0, mS (mk w p r I L) + 0) 32 [(0, .ref 150), (1, .int (nI (F 5))), (2, .int (nI f)), (3, .int (nI 0))] [] (mk w p r I1 L) kr
      have loop := srch (e := F 5) (P := fun c => Nat.beq (F (300 + c)) f) (Wi := fun j => Wf l X uX7_canonLine (d + 9) true (mC (mk w p r I L) + 0, mS (mk w p r I L) + 0) 32 [(0, .ref 150), (1, .int (nI (F 5))), (2, .int (nI f)), (3, .int (nI j))] [] (mk w p r I1 L) kr) (K := fun o => o = toc F f) ?_ ?_ 0 (Nat.zero_le _)
      · exact loop rfl
      · intro ho
        rw [if_neg (by rw [← ho]; decide)] at hE hO
        refine Wf.gc tkX7_canonLine [72] ?_
        conv => whnf
        refine b1' (Int32.le_refl _) ?_
        conv => whnf
        show Wf l X uX7_canonLine (d + 9) true (mC (mk w p r I L) + 0, mS (mk w p r I L) + 0) 72 [(0, .ref 150), (1, .int (nI (F 5))), (2, .int (nI f)), (3, .int (nI (F 5)))] [] (mk w p r I1 L) kr
        refine Wf.gc tkX7_canonLine [] ?_
        conv => whnf
        refine y_pass (d := d + 5) r1 (tn_b he 2) hc1 g1 (fun I2 hs2 hc2 => ?_)
        have hc2 : TR b n (tn b n 3 e) I2 := hc2
        have g2 : I2 150 13 = 0 := (sN13 hs2).trans g1
        conv => whnf
        refine y_after (i := 16) (lo := 1) (hi := 30) (d := d) (by decide) (by decide) (by decide) (RX_sN r1 hs2) (tn_b he 3) hc2 g2 (by decide) (fun q3 I4 hs4 hc4 _ _ => ?_) (fun q3 I4 hs4 => ?_)
        · rw [if_neg (fun z => z q3)] at hE hO
          have hs4 : sN I1 I4 := hs2.tr hs4
          have hc4 : TR b n (tn b n 5 e) I4 := hc4
          have g4 : I4 150 13 = 0 := (sN13 hs4).trans g1
          conv => whnf
          refine y_after (i := 17) (lo := 1) (hi := 9) (d := d) (by decide) (by decide) (by decide) (RX_sN r1 hs4) (tn_b he 5) hc4 g4 (by decide) (fun q4 I3 hs3 hc3 _ _ => ?_) (fun q4 I3 hs3 => ?_)
          · rw [if_neg (fun z => z q4)] at hO
            have hs3 : sN I1 I3 := hs4.tr hs3
            have hc3 : TR b n (tn b n 7 e) I3 := hc3
            have g3 : I3 150 13 = 0 := (sN13 hs3).trans g1
            have f3 := FR_sN f1 hs3
            conv => whnf
            refine b1' g3 ?_
            conv => whnf
            refine ⟨18 + F 5, ⟨nI_add 18 (F 5), by omega, show 18 + F 5 < 25 by omega⟩, ?_⟩
            conv => whnf
            refine ⟨35 + 2 * F 5, ⟨by show (35 + 2 * nI (F 5) : Int32) = nI (35 + 2 * F 5); rw [show (2 : Int32) = nI 2 from rfl, nI_mul, show (35 : Int32) = nI 35 from rfl, nI_add], by omega, show 35 + 2 * F 5 < 202 by omega⟩, ?_⟩
            conv => whnf
            refine ⟨36 + 2 * F 5, ⟨by show (35 + 2 * nI (F 5) + 1 : Int32) = nI (36 + 2 * F 5); rw [show (2 : Int32) = nI 2 from rfl, nI_mul, show (35 : Int32) = nI 35 from rfl, nI_add, nI_1, show 35 + 2 * F 5 + 1 = 36 + 2 * F 5 by omega], by omega, show 36 + 2 * F 5 < 202 by omega⟩, ?_⟩
            conv => whnf
            refine ⟨5, ⟨rfl, by decide, show 5 < 202 by decide⟩, ?_⟩
            conv => whnf
            refine ⟨5, ⟨rfl, by decide, show 5 < 202 by decide⟩, ?_⟩
            conv => whnf
            show kr none (mk w p r (u2 (u2 (u2 (u2 I3 156 (18 + F 5) (nI f)) 154 (35 + 2 * F 5) (nI (tvl b n (tn b n 4 e)))) 154 (36 + 2 * F 5) (nI (tvl b n (tn b n 6 e)))) 154 5 ((u2 (u2 (u2 I3 156 (18 + F 5) (nI f)) 154 (35 + 2 * F 5) (nI (tvl b n (tn b n 4 e)))) 154 (36 + 2 * F 5) (nI (tvl b n (tn b n 6 e)))) 154 5 + 1)) L)
            rw [u2_o (by omega), u2_o (by omega), u2_o (by omega), f3.1 5 (by decide) (by decide), nI_1]
            have sp : sP I3 (u2 (u2 (u2 (u2 I3 156 (18 + F 5) (nI f)) 154 (35 + 2 * F 5) (nI (tvl b n (tn b n 4 e)))) 154 (36 + 2 * F 5) (nI (tvl b n (tn b n 6 e)))) 154 5 (nI (F 5 + 1))) := ((sP_6.tr (sP_4 (by omega))).tr (sP_4 (by omega))).tr (sP_4 (by decide))
            have km : KM (uF (uF (uF (uF F (300 + F 5) f) (35 + 2 * F 5) (tvl b n (tn b n 4 e))) (36 + 2 * F 5) (tvl b n (tn b n 6 e))) 5 (F 5 + 1)) (nm ++ [nw b n (tn b n 1 e) 2 (F 5)]) := KM_a (KM_c hk (Nat.le_of_eq (by rw [uF_o (by decide), uF_o (by omega), uF_o (by omega), uF_o (by omega)])) (by rw [uF_s]; omega) (Nat.le_of_eq (by rw [uF_o (by decide), uF_o (by omega), uF_o (by omega), uF_o (by omega)]))) ⟨fun z => absurd (show (2 : Nat) = 1 from z) (by decide), fun _ => by rw [uF_s]; exact Nat.lt_succ_self _, fun z => absurd (show (2 : Nat) = 3 from z) (by decide)⟩
            have k9 : (uF (uF (uF (uF F (300 + F 5) f) (35 + 2 * F 5) (tvl b n (tn b n 4 e))) (36 + 2 * F 5) (tvl b n (tn b n 6 e))) 5 (F 5 + 1)) 9 = 0 ↔ (uF (uF (uF (uF F (300 + F 5) f) (35 + 2 * F 5) (tvl b n (tn b n 4 e))) (36 + 2 * F 5) (tvl b n (tn b n 6 e))) 5 (F 5 + 1)) 0 = 0 := by
              rw [uF_o (by decide), uF_o (by omega), uF_o (by omega), uF_o (by omega), uF_o (by decide), uF_o (by omega), uF_o (by omega), uF_o (by omega)]
              exact h9
            exact hO _ rfl _ (hs1.sQ.tr (hs3.sQ.tr sp.sQ)) ⟨RX_sP (RX_sN r1 hs3) sp, tn_b he 7, TR_sP hc3 sp, by rw [sp 150 13 (by omega) (by decide)]; exact g3, FR_s (FR_s (FR_s (FR_c f3 (by omega)) (by omega) (by omega)) (by omega) (by omega)) (by decide) (by decide), RN_sP (RN_sN hn1 hs3) sp, si1, un1, km, k9⟩
          · rw [if_pos q4] at hE
            have fe := hE _ rfl _ (FE_fl (I := I) (I1 := I3) (k := (lab b n 17 1 9 (tn b n 5 e)).1) (s := (lab b n 17 1 9 (tn b n 5 e)).2) (hs1.sQ.tr (hs4.tr hs3).sQ))
            conv => whnf
            refine b2' (flR_n (I := I3) (k := (lab b n 17 1 9 (tn b n 5 e)).1) (s := (lab b n 17 1 9 (tn b n 5 e)).2)) ?_
            conv => whnf
            exact fe
        · rw [if_pos q3] at hE
          have fe := hE _ rfl _ (FE_fl (I := I) (I1 := I4) (k := (lab b n 16 1 30 (tn b n 3 e)).1) (s := (lab b n 16 1 30 (tn b n 3 e)).2) (hs1.sQ.tr (hs2.tr hs4).sQ))
          conv => whnf
          refine y_after_f (d := d) (by decide) flR_n ?_
          conv => whnf
          refine b2' (flR_n (I := I4) (k := (lab b n 16 1 30 (tn b n 3 e)).1) (s := (lab b n 16 1 30 (tn b n 3 e)).2)) ?_
          conv => whnf
          exact fe
      · intro j hj
        have vj : I1 156 (18 + j) = nI (F (300 + j)) := f1.2.2.1 j (by omega)
        have bj := BF (300 + j)
        have stp : (F (300 + j) = f → Wf l X uX7_canonLine (d + 9) true (mC (mk w p r I L) + 0, mS (mk w p r I L) + 0) 32 [(0, .ref 150), (1, .int (nI (F 5))), (2, .int (nI f)), (3, .int (nI (j + 1)))] [] (mk w p r (flR I1 3 (tst b n (tn b n 2 e))) L) kr) → (¬ F (300 + j) = f → Wf l X uX7_canonLine (d + 9) true (mC (mk w p r I L) + 0, mS (mk w p r I L) + 0) 32 [(0, .ref 150), (1, .int (nI (F 5))), (2, .int (nI f)), (3, .int (nI (j + 1)))] [] (mk w p r I1 L) kr) → Wf l X uX7_canonLine (d + 9) true (mC (mk w p r I L) + 0, mS (mk w p r I L) + 0) 32 [(0, .ref 150), (1, .int (nI (F 5))), (2, .int (nI f)), (3, .int (nI j))] [] (mk w p r I1 L) kr := by
          intro a1 a2
          rw [← nI_1] at a1 a2
          refine Wf.gc tkX7_canonLine [32] ?_
          conv => whnf
          refine b2' (nI_ge hj (by omega)) ?_
          conv => whnf
          refine b2 (fun z => z g1) ?_
          conv => whnf
          refine ⟨18 + j, ⟨nI_add 18 j, by omega, show 18 + j < 25 by omega⟩, ?_⟩
          conv => whnf
          refine ⟨fun z => ?_, fun z => ?_⟩
          · have z : ¬ I1 156 (18 + j) = nI f := z
            rw [vj, nI_eq (by omega) (by omega)] at z
            conv => whnf
            exact a2 z
          · have z : I1 156 (18 + j) = nI f := z
            rw [vj, nI_eq (by omega) (by omega)] at z
            conv => whnf
            refine y_wrong0 g1 ?_
            conv => whnf
            have eJ : u2 (u2 (u2 I1 150 13 1) 150 9 3) 150 10 (I1 150 4) = flR I1 3 (tst b n (tn b n 2 e)) := by unfold flR; rw [← hc1.2.1]; rfl
            have a1 := a1 z
            rw [← eJ] at a1
            exact a1
        refine ⟨fun hP ho => stp (fun z => ?_) (fun z => ?_), fun hP ih => stp (fun z => ?_) (fun _ => ih)⟩
        · rw [if_pos (by rw [← ho]; rfl)] at hE
          exact cn_32 (m := F 5) (by omega) flR_n (hE _ rfl _ (FE_fl hs1.sQ)) (j + 1) (by omega)
        · exact absurd (Nat.eq_of_beq_eq_true hP) z
        · have hP : Nat.beq (F (300 + j)) f = false := hP
          rw [z, Nat.beq_refl] at hP
          cases hP
    · rw [if_pos q2] at hE
      have fe := hE _ rfl _ (FE_fl (I := I) (I1 := I1) (k := (nam b n (nm ++ [nw b n (tn b n 1 e) 2 (F 5)]) 1 (tn b n 2 e)).1) (s := tst b n (tn b n 2 e)) hs1.sQ)
      conv => whnf
      exact cn_32 (m := F 5) (by omega) flR_n fe 0 (Nat.zero_le _)
  · rw [if_pos q] at hE
    have fe := hE _ rfl _ (FE_fl (I := I) (I1 := I) (k := tel b n nm (tn b n 1 e)) (s := tst b n (tn b n 1 e)) sQ.rf)
    conv => whnf
    show Wf l X uX7_canonLine (d + 9) true (mC (mk w p r I L) + 0, mS (mk w p r I L) + 0) 23 [(0, .ref 150), (1, .int (I 154 5))] [] (mk w p r (flR I (tel b n nm (tn b n 1 e)) (tst b n (tn b n 1 e))) L) kr
    rw [v5]
    exact cn_23 (by omega) flR_n fe
end RL4
