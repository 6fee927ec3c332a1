/-! the reference's face line -/
section RL5
variable {l : Launch} {X : Nat × (Nat → Int32)} {d : Nat} {w : Nat × Nat} {p r : Nat} {I : Nat → Nat → Int32} {L : Nat → Nat → Int64} {kr : KR} {b : Nat → Nat} {n e : Nat} {nm : List Nm} {F : Nat → Nat} {W : Int32}
theorem u2_cm {a i a' i' : Nat} {v v' : Int32} (h : ¬ (a = a' ∧ i = i')) : u2 (u2 I a i v) a' i' v' = u2 (u2 I a' i' v') a i v := by
  funext x y
  by_cases h1 : x = a ∧ y = i
  · obtain ⟨rfl, rfl⟩ := h1
    rw [u2_o h, u2_s, u2_s]
  · by_cases h2 : x = a' ∧ y = i'
    · obtain ⟨rfl, rfl⟩ := h2
      rw [u2_s, u2_o h1, u2_s]
    · rw [u2_o h2, u2_o h1, u2_o h1, u2_o h2]
theorem FR_h {f v : Nat} (h : FR F W I) (hf : f < 6) : FR (uF F (12 + 4 * f) v) W (u2 (u2 I 154 (12 + 4 * f) (nI v)) 156 f (nI v)) := by
  refine ⟨fun j z1 z2 => ?_, by rw [u2_o (by omega), u2_o (by omega)]; exact h.2.1, fun c hc => by rw [u2_o (by omega), u2_o (by omega), uF_o (by omega)]; exact h.2.2.1 c hc, fun g hg => ?_, fun i z1 z2 z3 => by rw [u2_o (by omega), u2_o (by omega)]; exact h.2.2.2.2 i z1 z2 z3⟩
  · rw [u2_o (by omega)]
    by_cases q : j = 12 + 4 * f
    · subst q
      rw [u2_s, uF_s]
    · rw [u2_o (by omega), uF_o q]
      exact h.1 j z1 z2
  · by_cases q : g = f
    · subst q
      rw [u2_s, uF_s]
    · rw [u2_o (by omega), u2_o (by omega), uF_o (by omega)]
      exact h.2.2.2.1 g hg
set_option maxRecDepth 20000 in
theorem fc_161 {a1 a2 a3 a4 a5 a6 : Int32} {bs : Nat × Nat} {J : Nat → Nat → Int32} (hJ : ¬ J 150 13 = 0) (q : kr none (mk w p r J L)) : Wf l X uX7_faceLine (d + 9) true bs 161 [(0, .ref 150), (1, .int a1), (2, .int a2), (3, .int a3), (4, .int a4), (5, .int a5), (6, .int a6)] [] (mk w p r J L) kr := by
  refine Wf.gc tkX7_faceLine [] ?_
  conv => whnf
  refine y_pass_f (d := d + 5) hJ ?_
  conv => whnf
  refine b2' hJ ?_
  conv => whnf
  exact q
set_option maxRecDepth 20000 in
theorem fc_114 {a2 a3 a4 a5 : Int32} {m : Nat} {bs : Nat × Nat} {J : Nat → Nat → Int32} (hm : m ≤ 6) (hJ : ¬ J 150 13 = 0) (q : kr none (mk w p r J L)) : ∀ j, j ≤ m → Wf l X uX7_faceLine (d + 9) true bs 114 [(0, .ref 150), (1, .int (nI m)), (2, .int a2), (3, .int a3), (4, .int a4), (5, .int a5), (6, .int (nI j))] [] (mk w p r J L) kr := by
  refine down (fun j => Wf l X uX7_faceLine (d + 9) true bs 114 [(0, .ref 150), (1, .int (nI m)), (2, .int a2), (3, .int a3), (4, .int a4), (5, .int a5), (6, .int (nI j))] [] (mk w p r J L) kr) m ?_ ?_
  · refine Wf.gc tkX7_faceLine [161] ?_
    conv => whnf
    refine b1' (Int32.le_refl _) ?_
    conv => whnf
    exact fc_161 hJ q
  · intro j hj ih
    rw [← nI_1] at ih
    refine Wf.gc tkX7_faceLine [114] ?_
    conv => whnf
    refine b2' (nI_ge hj (by omega)) ?_
    conv => whnf
    refine b1 hJ ?_
    conv => whnf
    exact ih
set_option maxRecDepth 20000 in
theorem fc_99 {a2 a3 a4 : Int32} {m : Nat} {bs : Nat × Nat} {J : Nat → Nat → Int32} (hm : m ≤ 6) (hJ : ¬ J 150 13 = 0) (q : kr none (mk w p r J L)) : Wf l X uX7_faceLine (d + 9) true bs 99 [(0, .ref 150), (1, .int (nI m)), (2, .int a2), (3, .int a3), (4, .int a4)] [] (mk w p r J L) kr := by
  refine Wf.gc tkX7_faceLine [114] ?_
  conv => whnf
  refine y_must_f (d := d + 1) hJ ?_
  conv => whnf
  refine y_cellHere_f (d := d + 6) hJ ?_
  conv => whnf
  exact fc_114 hm hJ q 0 (Nat.zero_le _)
set_option maxRecDepth 20000 in
theorem fc_88 {a2 a3 : Int32} {m : Nat} {bs : Nat × Nat} {J : Nat → Nat → Int32} (hm : m ≤ 6) (hJ : ¬ J 150 13 = 0) (q : kr none (mk w p r J L)) : Wf l X uX7_faceLine (d + 9) true bs 88 [(0, .ref 150), (1, .int (nI m)), (2, .int a2), (3, .int a3)] [] (mk w p r J L) kr := by
  refine Wf.gc tkX7_faceLine [99] ?_
  conv => whnf
  refine y_after_f (d := d) (by decide) hJ ?_
  conv => whnf
  exact fc_99 hm hJ q
set_option maxRecDepth 20000 in
theorem fc_74 {a2 : Int32} {m : Nat} {bs : Nat × Nat} {J : Nat → Nat → Int32} (hm : m ≤ 6) (hJ : ¬ J 150 13 = 0) (q : kr none (mk w p r J L)) : Wf l X uX7_faceLine (d + 9) true bs 74 [(0, .ref 150), (1, .int (nI m)), (2, .int a2)] [] (mk w p r J L) kr := by
  refine Wf.gc tkX7_faceLine [88] ?_
  conv => whnf
  refine y_pass_f (d := d + 5) hJ ?_
  conv => whnf
  refine y_after_f (d := d) (by decide) hJ ?_
  conv => whnf
  exact fc_88 hm hJ q
set_option maxRecDepth 20000 in
theorem fc_20 {m : Nat} {bs : Nat × Nat} {J : Nat → Nat → Int32} (hm : m ≤ 6) (hJ : ¬ J 150 13 = 0) (q : kr none (mk w p r J L)) : Wf l X uX7_faceLine (d + 9) true bs 20 [(0, .ref 150), (1, .int (nI m))] [] (mk w p r J L) kr := by
  refine Wf.gc tkX7_faceLine [74] ?_
  conv => whnf
  refine y_isWord_f (d := d + 3) (by decide) hJ ?_
  conv => whnf
  refine b1' rfl ?_
  conv => whnf
  refine y_isWord_f (d := d + 3) (by decide) hJ ?_
  conv => whnf
  refine b1' rfl ?_
  conv => whnf
  refine y_isWord_f (d := d + 3) (by decide) hJ ?_
  conv => whnf
  refine b1' rfl ?_
  conv => whnf
  refine b2' (by decide) ?_
  conv => whnf
  refine y_wrong1 hJ ?_
  conv => whnf
  exact fc_74 hm hJ q
set_option maxHeartbeats 8000000 in
set_option maxRecDepth 20000 in
theorem y_faceLine (hB : Bd F W nm) (hT : 0 < F 0) (h6 : ¬ 6 ≤ F 4) (hS : SF b n (F, W, nm, tn b n 1 e) I) (he : e ≤ n) (hE : ∀ er, lnFace b n F W nm e = .inl er → ∀ I', FE I er I' → kr none (mk w p r I' L)) (hO : ∀ P', lnFace b n F W nm e = .inr P' → ∀ I', sQ I I' → SF b n P' I' → kr none (mk w p r I' L)) : Ev l X uX7_faceLine (d + 9) true 0 0 [.ref 150] (mk w p r I L) kr := by
  obtain ⟨hr, he1, hc, h0, hf, hn, hs, hu, hk, h9⟩ := hS
  have he1 : tn b n 1 e ≤ n := he1
  have hc : TR b n (tn b n 1 e) I := hc
  have hf : FR F W I := hf
  have hk : KM F nm := hk
  have hs : SI nm := hs
  have hu : UN b nm := hu
  have hn : RN b nm I := hn
  have h9 : F 9 = 0 ↔ F 0 = 0 := h9
  have BF := hB.2.1
  unfold lnFace at hE hO
  rw [if_neg h6] at hE hO
  have v4 : I 154 4 = nI (F 4) := hf.1 4 (by decide) (by decide)
  refine Ev.of (by decide) (Nat.le_of_ble_eq_true rfl) ?_
  refine Wf.gc tkX7_faceLine [20] ?_
  conv => whnf
  refine b1' h0 ?_
  conv => whnf
  refine ⟨4, ⟨rfl, by decide, show 4 < 202 by decide⟩, ?_⟩
  conv => whnf
  show Ev l X uX7_newName (d + 8) true 0 0 [.ref 150, .int (I 154 4)] (mk w p r I L) _
  rw [v4]
  have s0 : sl (nw b n (tn b n 1 e) 1 (F 4)) = F 4 := Nat.zero_add _
  have fr4 := sl_fr hs hk (by omega)
  refine y_newName (so := 1) (k := F 4) (d := d + 1) (by omega) s0 fr4 hr he1 hc h0 hs hu hn (fun q I1 hs1 hc1 hn1 => ?_) (fun q => ?_)
  · rw [if_neg (fun z => z q)] at hE hO
    have hc1 : TR b n (tn b n 2 e) I1 := hc1
    have g1 : I1 150 13 = 0 := (hs1 150 13 (by omega) (by decide) (by omega)).trans h0
    have r1 := RX_sM hr hs1
    have f1 := FR_sM hf hs1
    have si1 : SI (nm ++ [nw b n (tn b n 1 e) 1 (F 4)]) := SI_a hs (Or.inl ⟨rfl, show F 4 < 6 by omega⟩)
    have un1 : UN b (nm ++ [nw b n (tn b n 1 e) 1 (F 4)]) := UN_a hu q (fun i hi z => fr4 i hi (z.trans s0))
    -- from the kind on
    have go : ∀ kd, kd < 3 → kin b n (tn b n 2 e) = some kd → Wf l X uX7_faceLine (d + 9) true (mC (mk w p r I L) + 0, mS (mk w p r I L) + 0) 74 [(0, .ref 150), (1, .int (nI (F 4))), (2, .int (nI kd))] [] (mk w p r I1 L) kr := by
      intro kd k3 hkd
      rw [hkd] at hE hO
      have hE : ∀ er, (if (lab b n 10 1 99 (tn b n 3 e)).1 ≠ 0 then (.inl (lab b n 10 1 99 (tn b n 3 e)) : Rs) else if (lab b n 11 0 9 (tn b n 5 e)).1 ≠ 0 then .inl (lab b n 11 0 9 (tn b n 5 e)) else if (lab b n 12 0 (F 0 * F 1 - 1) (tn b n 7 e)).1 ≠ 0 then .inl (lab b n 12 0 (F 0 * F 1 - 1) (tn b n 7 e)) else if (fov F (tvl b n (tn b n 8 e))).isSome = true then .inl (3, tst b n (tn b n 8 e)) else .inr ((uF (uF (uF (uF (uF F (11 + 4 * F 4) kd) (12 + 4 * F 4) (tvl b n (tn b n 4 e))) (13 + 4 * F 4) (tvl b n (tn b n 6 e))) (14 + 4 * F 4) (tvl b n (tn b n 8 e))) 4 (F 4 + 1)), W, (nm ++ [nw b n (tn b n 1 e) 1 (F 4)]), tn b n 9 e)) = .inl er → ∀ I', FE I er I' → kr none (mk w p r I' L) := hE
      have hO : ∀ P', (if (lab b n 10 1 99 (tn b n 3 e)).1 ≠ 0 then (.inl (lab b n 10 1 99 (tn b n 3 e)) : Rs) else if (lab b n 11 0 9 (tn b n 5 e)).1 ≠ 0 then .inl (lab b n 11 0 9 (tn b n 5 e)) else if (lab b n 12 0 (F 0 * F 1 - 1) (tn b n 7 e)).1 ≠ 0 then .inl (lab b n 12 0 (F 0 * F 1 - 1) (tn b n 7 e)) else if (fov F (tvl b n (tn b n 8 e))).isSome = true then .inl (3, tst b n (tn b n 8 e)) else .inr ((uF (uF (uF (uF (uF F (11 + 4 * F 4) kd) (12 + 4 * F 4) (tvl b n (tn b n 4 e))) (13 + 4 * F 4) (tvl b n (tn b n 6 e))) (14 + 4 * F 4) (tvl b n (tn b n 8 e))) 4 (F 4 + 1)), W, (nm ++ [nw b n (tn b n 1 e) 1 (F 4)]), tn b n 9 e)) = .inr P' → ∀ I', sQ I I' → SF b n P' I' → kr none (mk w p r I' L) := hO
      refine Wf.gc tkX7_faceLine [88] ?_
      conv => whnf
      refine y_pass (d := d + 5) r1 (tn_b he 2) hc1 g1 (fun I2 hs2 hc2 => ?_)
      have hc2 : TR b n (tn b n 3 e) I2 := hc2
      have g2 : I2 150 13 = 0 := (sN13 hs2).trans g1
      conv => whnf
      refine y_after (i := 10) (lo := 1) (hi := 99) (d := d) (by decide) (by decide) (by decide) (RX_sN r1 hs2) (tn_b he 3) hc2 g2 (by decide) (fun q3 I4 hs4 hc4 _ _ => ?_) (fun q3 I4 hs4 => ?_)
      · rw [if_neg (fun z => z q3)] at hE hO
        have hs4 : sN I1 I4 := hs2.tr hs4
        have hc4 : TR b n (tn b n 5 e) I4 := hc4
        have g4 : I4 150 13 = 0 := (sN13 hs4).trans g1
        conv => whnf
        show Wf l X uX7_faceLine (d + 9) true (mC (mk w p r I L) + 0, mS (mk w p r I L) + 0) 88 [(0, .ref 150), (1, .int (nI (F 4))), (2, .int (nI kd)), (3, .int (nI (tvl b n (tn b n 4 e))))] [] (mk w p r I4 L) kr
        refine Wf.gc tkX7_faceLine [99] ?_
        conv => whnf
        refine y_after (i := 11) (lo := 0) (hi := 9) (d := d) (by decide) (by decide) (by decide) (RX_sN r1 hs4) (tn_b he 5) hc4 g4 (by decide) (fun q4 I6 hs6 hc6 _ _ => ?_) (fun q4 I6 hs6 => ?_)
        · rw [if_neg (fun z => z q4)] at hE hO
          have hs6 : sN I1 I6 := hs4.tr hs6
          have hc6 : TR b n (tn b n 7 e) I6 := hc6
          have g6 : I6 150 13 = 0 := (sN13 hs6).trans g1
          conv => whnf
          show Wf l X uX7_faceLine (d + 9) true (mC (mk w p r I L) + 0, mS (mk w p r I L) + 0) 99 [(0, .ref 150), (1, .int (nI (F 4))), (2, .int (nI kd)), (3, .int (nI (tvl b n (tn b n 4 e)))), (4, .int (nI (tvl b n (tn b n 6 e))))] [] (mk w p r I6 L) kr
          refine Wf.gc tkX7_faceLine [114] ?_
          conv => whnf
          refine y_must (i := 12) (d := d + 1) (by decide) (RX_sN r1 hs6) (tn_b he 7) hc6 g6 (by decide) (fun q5 I8 hs8 hc8 => ?_) (fun q5 => ?_)
          · have hs8 : sN I1 I8 := hs6.tr hs8
            have hc8 : TR b n (tn b n 8 e) I8 := hc8
            have g8 : I8 150 13 = 0 := (sN13 hs8).trans g1
            have f8 := FR_sN f1 hs8
            have e1 : lab b n 12 0 (F 0 * F 1 - 1) (tn b n 7 e) = (bnd b n 0 (F 0 * F 1 - 1) (tn b n 8 e), tst b n (tn b n 8 e)) := by unfold lab; rw [if_pos q5]; rfl
            rw [e1] at hE hO
            conv => whnf
            refine y_cellHere (d := d + 6) f8 hB hT (tn_b he 8) hc8 g8 (fun q6 => ?_) (fun q6 => ?_)
            · rw [if_neg (fun z => z q6)] at hE hO
              have b8 : tvl b n (tn b n 8 e) < 1000 := by have := (bnd_v q6).2; have hm : F 0 * F 1 ≤ 5 * 4 := Nat.mul_le_mul hB.1.1 hB.1.2.1; omega
              conv => whnf
              show Wf l X uX7_faceLine (d + 9) true (mC (mk w p r I L) + 0, mS (mk w p r I L) + 0) 114 [(0, .ref 150), (1, .int (nI (F 4))), (2, .int (nI kd)), (3, .int (nI (tvl b n (tn b n 4 e)))), (4, .int (nI (tvl b n (tn b n 6 e)))), (5, .int (nI (tvl b n (tn b n 8 e)))), (6, .int (nI 0))] [] (mk w p r I8 L) kr
              have loop := srch (e := F 4) (P := fun g => Nat.beq (F (14 + 4 * g)) (tvl b n (tn b n 8 e))) (Wi := fun j => Wf l X uX7_faceLine (d + 9) true (mC (mk w p r I L) + 0, mS (mk w p r I L) + 0) 114 [(0, .ref 150), (1, .int (nI (F 4))), (2, .int (nI kd)), (3, .int (nI (tvl b n (tn b n 4 e)))), (4, .int (nI (tvl b n (tn b n 6 e)))), (5, .int (nI (tvl b n (tn b n 8 e)))), (6, .int (nI j))] [] (mk w p r I8 L) kr) (K := fun o => o = fov F (tvl b n (tn b n 8 e))) ?_ ?_ 0 (Nat.zero_le _)
              · exact loop rfl
              · intro ho
                rw [if_neg (by rw [← ho]; decide)] at hO
                refine Wf.gc tkX7_faceLine [161] ?_
                conv => whnf
                refine b1' (Int32.le_refl _) ?_
                conv => whnf
                show Wf l X uX7_faceLine (d + 9) true (mC (mk w p r I L) + 0, mS (mk w p r I L) + 0) 161 [(0, .ref 150), (1, .int (nI (F 4))), (2, .int (nI kd)), (3, .int (nI (tvl b n (tn b n 4 e)))), (4, .int (nI (tvl b n (tn b n 6 e)))), (5, .int (nI (tvl b n (tn b n 8 e)))), (6, .int (nI (F 4)))] [] (mk w p r I8 L) kr
                refine Wf.gc tkX7_faceLine [] ?_
                conv => whnf
                refine y_pass (d := d + 5) (RX_sN r1 hs8) (tn_b he 8) hc8 g8 (fun I9 hs9 hc9 => ?_)
                have hs9 : sN I1 I9 := hs8.tr hs9
                have hc9 : TR b n (tn b n 9 e) I9 := hc9
                have g9 : I9 150 13 = 0 := (sN13 hs9).trans g1
                have f9 := FR_sN f1 hs9
                conv => whnf
                refine b1' g9 ?_
                conv => whnf
                refine ⟨11 + 4 * F 4, ⟨by show (11 + 4 * nI (F 4) : Int32) = nI (11 + 4 * F 4); rw [show (4 : Int32) = nI 4 from rfl, nI_mul, show (11 : Int32) = nI 11 from rfl, nI_add], by omega, show 11 + 4 * F 4 < 202 by omega⟩, ?_⟩
                conv => whnf
                refine ⟨12 + 4 * F 4, ⟨by show (11 + 4 * nI (F 4) + 1 : Int32) = nI (12 + 4 * F 4); rw [show (4 : Int32) = nI 4 from rfl, nI_mul, show (11 : Int32) = nI 11 from rfl, nI_add, show (1 : Int32) = nI 1 from rfl, nI_add, show 11 + 4 * F 4 + 1 = 12 + 4 * F 4 by omega], by omega, show 12 + 4 * F 4 < 202 by omega⟩, ?_⟩
                conv => whnf
                refine ⟨13 + 4 * F 4, ⟨by show (11 + 4 * nI (F 4) + 2 : Int32) = nI (13 + 4 * F 4); rw [show (4 : Int32) = nI 4 from rfl, nI_mul, show (11 : Int32) = nI 11 from rfl, nI_add, show (2 : Int32) = nI 2 from rfl, nI_add, show 11 + 4 * F 4 + 2 = 13 + 4 * F 4 by omega], by omega, show 13 + 4 * F 4 < 202 by omega⟩, ?_⟩
                conv => whnf
                refine ⟨14 + 4 * F 4, ⟨by show (11 + 4 * nI (F 4) + 3 : Int32) = nI (14 + 4 * F 4); rw [show (4 : Int32) = nI 4 from rfl, nI_mul, show (11 : Int32) = nI 11 from rfl, nI_add, show (3 : Int32) = nI 3 from rfl, nI_add, show 11 + 4 * F 4 + 3 = 14 + 4 * F 4 by omega], by omega, show 14 + 4 * F 4 < 202 by omega⟩, ?_⟩
                conv => whnf
                refine ⟨F 4, ⟨rfl, by omega, show F 4 < 25 by omega⟩, ?_⟩
                conv => whnf
                refine ⟨4, ⟨rfl, by decide, show 4 < 202 by decide⟩, ?_⟩
                conv => whnf
                refine ⟨4, ⟨rfl, by decide, show 4 < 202 by decide⟩, ?_⟩
                conv => whnf
                show kr none (mk w p r (u2 (u2 (u2 (u2 (u2 (u2 I9 154 (11 + 4 * F 4) (nI kd)) 154 (12 + 4 * F 4) (nI (tvl b n (tn b n 4 e)))) 154 (13 + 4 * F 4) (nI (tvl b n (tn b n 6 e)))) 154 (14 + 4 * F 4) (nI (tvl b n (tn b n 8 e)))) 156 (F 4) (nI (tvl b n (tn b n 4 e)))) 154 4 ((u2 (u2 (u2 (u2 (u2 I9 154 (11 + 4 * F 4) (nI kd)) 154 (12 + 4 * F 4) (nI (tvl b n (tn b n 4 e)))) 154 (13 + 4 * F 4) (nI (tvl b n (tn b n 6 e)))) 154 (14 + 4 * F 4) (nI (tvl b n (tn b n 8 e)))) 156 (F 4) (nI (tvl b n (tn b n 4 e)))) 154 4 + 1)) L)
                rw [u2_o (by omega), u2_o (by omega), u2_o (by omega), u2_o (by omega), u2_o (by omega), f9.1 4 (by decide) (by decide), nI_1]
                have sp : sP I9 (u2 (u2 (u2 (u2 (u2 (u2 I9 154 (11 + 4 * F 4) (nI kd)) 154 (12 + 4 * F 4) (nI (tvl b n (tn b n 4 e)))) 154 (13 + 4 * F 4) (nI (tvl b n (tn b n 6 e)))) 154 (14 + 4 * F 4) (nI (tvl b n (tn b n 8 e)))) 156 (F 4) (nI (tvl b n (tn b n 4 e)))) 154 4 (nI (F 4 + 1))) := (((((sP_4 (by omega)).tr (sP_4 (by omega))).tr (sP_4 (by omega))).tr (sP_4 (by omega))).tr sP_6).tr (sP_4 (by decide))
                have fE : FR (uF (uF (uF (uF (uF F (11 + 4 * F 4) kd) (12 + 4 * F 4) (tvl b n (tn b n 4 e))) (13 + 4 * F 4) (tvl b n (tn b n 6 e))) (14 + 4 * F 4) (tvl b n (tn b n 8 e))) 4 (F 4 + 1)) W (u2 (u2 (u2 (u2 (u2 (u2 I9 154 (11 + 4 * F 4) (nI kd)) 154 (12 + 4 * F 4) (nI (tvl b n (tn b n 4 e)))) 154 (13 + 4 * F 4) (nI (tvl b n (tn b n 6 e)))) 154 (14 + 4 * F 4) (nI (tvl b n (tn b n 8 e)))) 156 (F 4) (nI (tvl b n (tn b n 4 e)))) 154 4 (nI (F 4 + 1))) := by
                  rw [u2_cm (I := (u2 (u2 (u2 I9 154 (11 + 4 * F 4) (nI kd)) 154 (12 + 4 * F 4) (nI (tvl b n (tn b n 4 e)))) 154 (13 + 4 * F 4) (nI (tvl b n (tn b n 6 e))))) (a := 154) (i := 14 + 4 * F 4) (a' := 156) (i' := F 4) (by omega), u2_cm (I := (u2 (u2 I9 154 (11 + 4 * F 4) (nI kd)) 154 (12 + 4 * F 4) (nI (tvl b n (tn b n 4 e))))) (a := 154) (i := 13 + 4 * F 4) (a' := 156) (i' := F 4) (by omega)]
                  exact FR_s (FR_s (FR_s (FR_h (FR_s f9 (by omega) (by omega)) (by omega)) (by omega) (by omega)) (by omega) (by omega)) (by decide) (by decide)
                have km : KM (uF (uF (uF (uF (uF F (11 + 4 * F 4) kd) (12 + 4 * F 4) (tvl b n (tn b n 4 e))) (13 + 4 * F 4) (tvl b n (tn b n 6 e))) (14 + 4 * F 4) (tvl b n (tn b n 8 e))) 4 (F 4 + 1)) (nm ++ [nw b n (tn b n 1 e) 1 (F 4)]) := KM_a (KM_c hk (by rw [uF_s]; omega) (Nat.le_of_eq (by rw [uF_o (by decide), uF_o (by omega), uF_o (by omega), uF_o (by omega), uF_o (by omega)])) (Nat.le_of_eq (by rw [uF_o (by decide), uF_o (by omega), uF_o (by omega), uF_o (by omega), uF_o (by omega)]))) ⟨fun _ => by rw [uF_s]; exact Nat.lt_succ_self _, fun z => absurd (show (1 : Nat) = 2 from z) (by decide), fun z => absurd (show (1 : Nat) = 3 from z) (by decide)⟩
                have k9 : (uF (uF (uF (uF (uF F (11 + 4 * F 4) kd) (12 + 4 * F 4) (tvl b n (tn b n 4 e))) (13 + 4 * F 4) (tvl b n (tn b n 6 e))) (14 + 4 * F 4) (tvl b n (tn b n 8 e))) 4 (F 4 + 1)) 9 = 0 ↔ (uF (uF (uF (uF (uF F (11 + 4 * F 4) kd) (12 + 4 * F 4) (tvl b n (tn b n 4 e))) (13 + 4 * F 4) (tvl b n (tn b n 6 e))) (14 + 4 * F 4) (tvl b n (tn b n 8 e))) 4 (F 4 + 1)) 0 = 0 := by
                  rw [uF_o (by decide), uF_o (by omega), uF_o (by omega), uF_o (by omega), uF_o (by omega), uF_o (by decide), uF_o (by omega), uF_o (by omega), uF_o (by omega), uF_o (by omega)]
                  exact h9
                exact hO _ rfl _ (hs1.sQ.tr (hs9.sQ.tr sp.sQ)) ⟨RX_sP (RX_sN r1 hs9) sp, tn_b he 9, TR_sP hc9 sp, by rw [sp 150 13 (by omega) (by decide)]; exact g9, fE, RN_sP (RN_sN hn1 hs9) sp, si1, un1, km, k9⟩
              · intro j hj
                have vj : I8 154 (14 + 4 * j) = nI (F (14 + 4 * j)) := f8.1 _ (by omega) (by omega)
                have bj := BF (14 + 4 * j)
                have stp : (F (14 + 4 * j) = tvl b n (tn b n 8 e) → Wf l X uX7_faceLine (d + 9) true (mC (mk w p r I L) + 0, mS (mk w p r I L) + 0) 114 [(0, .ref 150), (1, .int (nI (F 4))), (2, .int (nI kd)), (3, .int (nI (tvl b n (tn b n 4 e)))), (4, .int (nI (tvl b n (tn b n 6 e)))), (5, .int (nI (tvl b n (tn b n 8 e)))), (6, .int (nI (j + 1)))] [] (mk w p r (flR I8 3 (tst b n (tn b n 8 e))) L) kr) → (¬ F (14 + 4 * j) = tvl b n (tn b n 8 e) → Wf l X uX7_faceLine (d + 9) true (mC (mk w p r I L) + 0, mS (mk w p r I L) + 0) 114 [(0, .ref 150), (1, .int (nI (F 4))), (2, .int (nI kd)), (3, .int (nI (tvl b n (tn b n 4 e)))), (4, .int (nI (tvl b n (tn b n 6 e)))), (5, .int (nI (tvl b n (tn b n 8 e)))), (6, .int (nI (j + 1)))] [] (mk w p r I8 L) kr) → Wf l X uX7_faceLine (d + 9) true (mC (mk w p r I L) + 0, mS (mk w p r I L) + 0) 114 [(0, .ref 150), (1, .int (nI (F 4))), (2, .int (nI kd)), (3, .int (nI (tvl b n (tn b n 4 e)))), (4, .int (nI (tvl b n (tn b n 6 e)))), (5, .int (nI (tvl b n (tn b n 8 e)))), (6, .int (nI j))] [] (mk w p r I8 L) kr := by
                  intro a1 a2
                  rw [← nI_1] at a1 a2
                  refine Wf.gc tkX7_faceLine [114] ?_
                  conv => whnf
                  refine b2' (nI_ge hj (by omega)) ?_
                  conv => whnf
                  refine b2 (fun z => z g8) ?_
                  conv => whnf
                  refine ⟨14 + 4 * j, ⟨by show (11 + 4 * nI j + 3 : Int32) = nI (14 + 4 * j); rw [show (4 : Int32) = nI 4 from rfl, nI_mul, show (11 : Int32) = nI 11 from rfl, nI_add, show (3 : Int32) = nI 3 from rfl, nI_add, show 11 + 4 * j + 3 = 14 + 4 * j by omega], by omega, show 14 + 4 * j < 202 by omega⟩, ?_⟩
                  conv => whnf
                  refine ⟨fun z => ?_, fun z => ?_⟩
                  · have z : ¬ I8 154 (14 + 4 * j) = (nI (tvl b n (tn b n 8 e))) := z
                    rw [vj, nI_eq (by omega) (by omega)] at z
                    conv => whnf
                    exact a2 z
                  · have z : I8 154 (14 + 4 * j) = (nI (tvl b n (tn b n 8 e))) := z
                    rw [vj, nI_eq (by omega) (by omega)] at z
                    conv => whnf
                    refine y_wrong0 g8 ?_
                    conv => whnf
                    have eJ : u2 (u2 (u2 I8 150 13 1) 150 9 3) 150 10 (I8 150 4) = flR I8 3 (tst b n (tn b n 8 e)) := by unfold flR; rw [← hc8.2.1]; rfl
                    have a1 := a1 z
                    rw [← eJ] at a1
                    exact a1
                refine ⟨fun hP ho => stp (fun z => ?_) (fun z => ?_), fun hP ih => stp (fun z => ?_) (fun _ => ih)⟩
                · rw [if_pos (by rw [← ho]; rfl)] at hE
                  exact fc_114 (m := F 4) (by omega) flR_n (hE _ rfl _ (FE_fl (hs1.sQ.tr hs8.sQ))) (j + 1) (by omega)
                · exact absurd (Nat.eq_of_beq_eq_true hP) z
                · have hP : Nat.beq (F (14 + 4 * j)) (tvl b n (tn b n 8 e)) = false := hP
                  rw [z, Nat.beq_refl] at hP
                  cases hP
            · rw [if_pos q6] at hE
              have fe := hE _ rfl _ (FE_fl (I := I) (I1 := I8) (k := bnd b n 0 (F 0 * F 1 - 1) (tn b n 8 e)) (s := tst b n (tn b n 8 e)) (hs1.sQ.tr hs8.sQ))
              conv => whnf
              exact fc_114 (m := F 4) (by omega) flR_n fe 0 (Nat.zero_le _)
          · have e1 : lab b n 12 0 (F 0 * F 1 - 1) (tn b n 7 e) = (1, tst b n (tn b n 7 e)) := by unfold lab; rw [if_neg (by rw [q5]; decide)]
            rw [e1, if_pos (show (1 : Nat) ≠ 0 by decide)] at hE
            have fe := hE _ rfl _ (FE_fl (I := I) (I1 := I6) (k := 1) (s := tst b n (tn b n 7 e)) (hs1.sQ.tr hs6.sQ))
            conv => whnf
            refine y_cellHere_f (d := d + 6) flR_n ?_
            conv => whnf
            exact fc_114 (m := F 4) (by omega) flR_n fe 0 (Nat.zero_le _)
        · rw [if_pos q4] at hE
          have fe := hE _ rfl _ (FE_fl (I := I) (I1 := I6) (k := (lab b n 11 0 9 (tn b n 5 e)).1) (s := (lab b n 11 0 9 (tn b n 5 e)).2) (hs1.sQ.tr (hs4.tr hs6).sQ))
          conv => whnf
          exact fc_99 (m := F 4) (by omega) flR_n fe
      · rw [if_pos q3] at hE
        have fe := hE _ rfl _ (FE_fl (I := I) (I1 := I4) (k := (lab b n 10 1 99 (tn b n 3 e)).1) (s := (lab b n 10 1 99 (tn b n 3 e)).2) (hs1.sQ.tr (hs2.tr hs4).sQ))
        conv => whnf
        exact fc_88 (m := F 4) (by omega) flR_n fe
    conv => whnf
    show Wf l X uX7_faceLine (d + 9) true (mC (mk w p r I L) + 0, mS (mk w p r I L) + 0) 20 [(0, .ref 150), (1, .int (I 154 4))] [] (mk w p r I1 L) kr
    rw [v4]
    refine Wf.gc tkX7_faceLine [74] ?_
    conv => whnf
    refine y_isWord (wd := 5034) (d := d + 3) r1 (tn_b he 2) hc1 g1 (by decide) ?_
    rw [show isW b n (5034 - 5000) (tn b n 2 e) = isW b n 13 (tn b n 2 e) from wd21 (wd := 5034) (i := 13) (by decide)]
    cases k0 : isW b n 13 (tn b n 2 e) with
    | true =>
      conv => whnf
      refine b2' (by decide) ?_
      conv => whnf
      refine b1' (by decide) ?_
      conv => whnf
      exact go 0 (by decide) (by unfold kin; rw [if_pos k0])
    | false =>
      conv => whnf
      refine b1' rfl ?_
      conv => whnf
      refine y_isWord (wd := 5035) (d := d + 3) r1 (tn_b he 2) hc1 g1 (by decide) ?_
      rw [show isW b n (5035 - 5000) (tn b n 2 e) = isW b n 14 (tn b n 2 e) from wd21 (wd := 5035) (i := 14) (by decide)]
      cases k1 : isW b n 14 (tn b n 2 e) with
      | true =>
        conv => whnf
        refine b2' (by decide) ?_
        conv => whnf
        refine b1' (by decide) ?_
        conv => whnf
        exact go 1 (by decide) (by unfold kin; rw [if_neg (by rw [k0]; decide), if_pos k1])
      | false =>
        conv => whnf
        refine b1' rfl ?_
        conv => whnf
        refine y_isWord (wd := 5036) (d := d + 3) r1 (tn_b he 2) hc1 g1 (by decide) ?_
        rw [show isW b n (5036 - 5000) (tn b n 2 e) = isW b n 15 (tn b n 2 e) from wd21 (wd := 5036) (i := 15) (by decide)]
        cases k2 : isW b n 15 (tn b n 2 e) with
        | true =>
          conv => whnf
          refine b2' (by decide) ?_
          conv => whnf
          refine b1' (by decide) ?_
          conv => whnf
          exact go 2 (by decide) (by unfold kin; rw [if_neg (by rw [k0]; decide), if_neg (by rw [k1]; decide), if_pos k2])
        | false =>
          have kn : kin b n (tn b n 2 e) = none := by unfold kin; rw [if_neg (by rw [k0]; decide), if_neg (by rw [k1]; decide), if_neg (by rw [k2]; decide)]
          rw [kn] at hE
          have fe := hE _ rfl _ (FE_fl (I := I) (I1 := I1) (k := 1) (s := tst b n (tn b n 2 e)) hs1.sQ)
          conv => whnf
          refine b1' rfl ?_
          conv => whnf
          refine b2' (by decide) ?_
          conv => whnf
          refine y_wrong0 g1 ?_
          conv => whnf
          have eJ : u2 (u2 (u2 I1 150 13 1) 150 9 1) 150 10 (I1 150 4) = flR I1 1 (tst b n (tn b n 2 e)) := by unfold flR; rw [← hc1.2.1]; rfl
          show Wf l X uX7_faceLine (d + 9) true (mC (mk w p r I L) + 0, mS (mk w p r I L) + 0) 74 [(0, .ref 150), (1, .int (nI (F 4))), (2, .int (-1))] [] (mk w p r (u2 (u2 (u2 I1 150 13 1) 150 9 1) 150 10 (I1 150 4)) L) kr
          rw [eJ]
          exact fc_74 (by omega) flR_n fe
  · rw [if_pos q] at hE
    have fe := hE _ rfl _ (FE_fl (I := I) (I1 := I) (k := tel b n nm (tn b n 1 e)) (s := tst b n (tn b n 1 e)) sQ.rf)
    conv => whnf
    show Wf l X uX7_faceLine (d + 9) true (mC (mk w p r I L) + 0, mS (mk w p r I L) + 0) 20 [(0, .ref 150), (1, .int (I 154 4))] [] (mk w p r (flR I (tel b n nm (tn b n 1 e)) (tst b n (tn b n 1 e))) L) kr
    rw [v4]
    exact fc_20 (by omega) flR_n fe
end RL5
