section
/-! the reference's face line -/
section RL5
variable {l : Launch} {X : Nat × (Nat → Int32)} {d : Nat} {w : Nat × Nat} {p r : Nat} {I : Nat → Nat → Int32} {L : Nat → Nat → Int64} {kr : KR} {b : Nat → Nat} {n e : Nat} {nm : List Nm} {F : Nat → Nat} {W : Int32}
theorem u2_cm {a i a' i' : Nat} {v v' : Int32} (h : ¬ (a = a' ∧ i = i')) : u2 (u2 I a i v) a' i' v' = u2 (u2 I a' i' v') a i v := by
  funext x y
  by_cases h1 : x = a ∧ y = i
  · obtain ⟨rfl, rfl⟩ := h1
    rw [u2_o h, u2_s, u2_s]
  · by_cases h2 : x = a' ∧ y = i'
    · obtain ⟨rfl, rfl⟩ := h2
      rw [u2_s, u2_o h1, u2_s]
    · rw [u2_o h2, u2_o h1, u2_o h1, u2_o h2]
theorem FR_h {f v : Nat} (h : FR F W I) (hf : f < 6) : FR (uF F (12 + 4 * f) v) W (u2 (u2 I 154 (12 + 4 * f) (nI v)) 156 f (nI v)) := by
  refine ⟨fun j z1 z2 => ?_, by rw [u2_o (by omega), u2_o (by omega)]; exact h.2.1, fun c hc => by rw [u2_o (by omega), u2_o (by omega), uF_o (by omega)]; exact h.2.2.1 c hc, fun g hg => ?_, fun i z1 z2 z3 => by rw [u2_o (by omega), u2_o (by omega)]; exact h.2.2.2.2 i z1 z2 z3⟩
  · rw [u2_o (by omega)]
    by_cases q : j = 12 + 4 * f
    · subst q
      rw [u2_s, uF_s]
    · rw [u2_o (by omega), uF_o q]
      exact h.1 j z1 z2
  · by_cases q : g = f
    · subst q
      rw [u2_s, uF_s]
    · rw [u2_o (by omega), u2_o (by omega), uF_o (by omega)]
      exact h.2.2.2.1 g hg
set_option maxRecDepth 20000 in
theorem fc_161 {a1 a2 a3 a4 a5 a6 : Int32} {bs : Nat × Nat} {J : Nat → Nat → Int32} (hJ : ¬ J 150 13 = 0) (q : kr none (mk w p r J L)) : Wf l X uX7_faceLine (d + 9) true bs 161 [(0, .ref 150), (1, .int a1), (2, .int a2), (3, .int a3), (4, .int a4), (5, .int a5), (6, .int a6)] [] (mk w p r J L) kr := by
  refine Wf.gc tkX7_faceLine [] ?_
  conv => whnf
  refine y_pass_f (d := d + 5) hJ ?_
  conv => whnf
  refine b2' hJ ?_
  conv => whnf
  exact q
set_option maxRecDepth 20000 in
theorem fc_114 {a2 a3 a4 a5 : Int32} {m : Nat} {bs : Nat × Nat} {J : Nat → Nat → Int32} (hm : m ≤ 6) (hJ : ¬ J 150 13 = 0) (q : kr none (mk w p r J L)) : ∀ j, j ≤ m → Wf l X uX7_faceLine (d + 9) true bs 114 [(0, .ref 150), (1, .int (nI m)), (2, .int a2), (3, .int a3), (4, .int a4), (5, .int a5), (6, .int (nI j))] [] (mk w p r J L) kr := by
  refine down (fun j => Wf l X uX7_faceLine (d + 9) true bs 114 [(0, .ref 150), (1, .int (nI m)), (2, .int a2), (3, .int a3), (4, .int a4), (5, .int a5), (6, .int (nI j))] [] (mk w p r J L) kr) m ?_ ?_
  · refine Wf.gc tkX7_faceLine [161] ?_
    conv => whnf
    refine b1' (Int32.le_refl _) ?_
    conv => whnf
    exact fc_161 hJ q
  · intro j hj ih
    rw [← nI_1] at ih
    refine Wf.gc tkX7_faceLine [114] ?_
    conv => whnf
    refine b2' (nI_ge hj (by omega)) ?_
    conv => whnf
    refine b1 hJ ?_
    conv => whnf
    exact ih
set_option maxRecDepth 20000 in
theorem fc_99 {a2 a3 a4 : Int32} {m : Nat} {bs : Nat × Nat} {J : Nat → Nat → Int32} (hm : m ≤ 6) (hJ : ¬ J 150 13 = 0) (q : kr none (mk w p r J L)) : Wf l X uX7_faceLine (d + 9) true bs 99 [(0, .ref 150), (1, .int (nI m)), (2, .int a2), (3, .int a3), (4, .int a4)] [] (mk w p r J L) kr := by
  refine Wf.gc tkX7_faceLine [114] ?_
  conv => whnf
  refine y_must_f (d := d + 1) hJ ?_
  conv => whnf
  refine y_cellHere_f (d := d + 6) hJ ?_
  conv => whnf
  exact fc_114 hm hJ q 0 (Nat.zero_le _)
set_option maxRecDepth 20000 in
theorem fc_88 {a2 a3 : Int32} {m : Nat} {bs : Nat × Nat} {J : Nat → Nat → Int32} (hm : m ≤ 6) (hJ : ¬ J 150 13 = 0) (q : kr none (mk w p r J L)) : Wf l X uX7_faceLine (d + 9) true bs 88 [(0, .ref 150), (1, .int (nI m)), (2, .int a2), (3, .int a3)] [] (mk w p r J L) kr := by
  refine Wf.gc tkX7_faceLine [99] ?_
  conv => whnf
  refine y_after_f (d := d) (by decide) hJ ?_
  conv => whnf
  exact fc_99 hm hJ q
set_option maxRecDepth 20000 in
theorem fc_74 {a2 : Int32} {m : Nat} {bs : Nat × Nat} {J : Nat → Nat → Int32} (hm : m ≤ 6) (hJ : ¬ J 150 13 = 0) (q : kr none (mk w p r J L)) : Wf l X uX7_faceLine (d + 9) true bs 74 [(0, .ref 150), (1, .int (nI m)), (2, .int a2)] [] (mk w p r J L) kr := by
  refine Wf.gc tkX7_faceLine [88] ?_
  conv => whnf
  refine y_pass_f (d := d + 5) hJ ?_
  conv => whnf
  refine y_after_f (d := d) (by decide) hJ ?_
  conv => whnf
  exact fc_88 hm hJ q
set_option maxRecDepth 20000 in
theorem fc_20 {m : Nat} {bs : Nat × Nat} {J : Nat → Nat → Int32} (hm : m ≤ 6) (hJ : ¬ J 150 13 = 0) (q : kr none (mk w p r J L)) : Wf l X uX7_faceLine (d + 9) true bs 20 [(0, .ref 150), (1, .int (nI m))] [] (mk w p r J L) kr := by
  refine Wf.gc tkX7_faceLine [74] ?_
  conv => whnf
  refine y_isWord_f (d := d + 3) (by decide) hJ ?_
  conv => whnf
  refine b1' rfl ?_
  conv => whnf
  refine y_isWord_f (d := d + 3) (by decide) hJ ?_
  conv => whnf
  refine b1' rfl ?_
  conv => whnf
  refine y_isWord_f (d := d + 3) (by decide) hJ ?_
  conv => whnf
  refine b1' rfl ?_
  conv => whnf
  refine b2' (by decide) ?_
  conv => whnf
  refine y_wrong1 hJ ?_
  conv => whnf
  exact fc_74 hm hJ q
set_option maxHeartbeats 8000000 in
set_option maxRecDepth 20000 in
theorem y_faceLine (hB : Bd F W nm) (hT : 0 < F 0) (h6 : ¬ 6 ≤ F 4) (hS : SF b n (F, W, nm, tn b n 1 e) I) (he : e ≤ n) (hE : ∀ er, lnFace b n F W nm e = .inl er → ∀ I', FE I er I' → kr none (mk w p r I' L)) (hO : ∀ P', lnFace b n F W nm e = .inr P' → ∀ I', sQ I I' → SF b n P' I' → kr none (mk w p r I' L)) : Ev l X uX7_faceLine (d + 9) true 0 0 [.ref 150] (mk w p r I L) kr := by
  obtain ⟨hr, he1, hc, h0, hf, hn, hs, hu, hk, h9⟩ := hS
  have he1 : tn b n 1 e ≤ n := he1
  have hc : TR b n (tn b n 1 e) I := hc
  have hf : FR F W I := hf
  have hk : KM F nm := hk
  have hs : SI nm := hs
  have hu : UN b nm := hu
  have hn : RN b nm I := hn
  have h9 : F 9 = 0 ↔ F 0 = 0 := h9
  have BF := hB.2.1
  unfold lnFace at hE hO
  rw [if_neg h6] at hE hO
  have v4 : I 154 4 = nI (F 4) := hf.1 4 (by decide) (by decide)
  refine Ev.of (by decide) (Nat.le_of_ble_eq_true rfl) ?_
  refine Wf.gc tkX7_faceLine [20] ?_
  conv => whnf
  refine b1' h0 ?_
  conv => whnf
  refine ⟨4, ⟨rfl, by decide, show 4 < 202 by decide⟩, ?_⟩
  conv => whnf
  show Ev l X uX7_newName (d + 8) true 0 0 [.ref 150, .int (I 154 4)] (mk w p r I L) _
  rw [v4]
  have s0 : sl (nw b n (tn b n 1 e) 1 (F 4)) = F 4 := Nat.zero_add _
  have fr4 := sl_fr hs hk (by omega)
  refine y_newName (so := 1) (k := F 4) (d := d + 1) (by omega) s0 fr4 hr he1 hc h0 hs hu hn (fun q I1 hs1 hc1 hn1 => ?_) (fun q => ?_)
  · rw [if_neg (fun z => z q)] at hE hO
    have hc1 : TR b n (tn b n 2 e) I1 := hc1
    have g1 : I1 150 13 = 0 := (hs1 150 13 (by omega) (by decide) (by omega)).trans h0
    have r1 := RX_sM hr hs1
    have f1 := FR_sM hf hs1
    have si1 : SI (nm ++ [nw b n (tn b n 1 e) 1 (F 4)]) := SI_a hs (Or.inl ⟨rfl, show F 4 < 6 by omega⟩)
    have un1 : UN b (nm ++ [nw b n (tn b n 1 e) 1 (F 4)]) := UN_a hu q (fun i hi z => fr4 i hi (z.trans s0))
    -- from the kind on
    have go : ∀ kd, kd < 3 → kin b n (tn b n 2 e) = some kd → Wf l X uX7_faceLine (d + 9) true (mC (mk w p r I L) + 0, mS (mk w p r I L) + 0) 74 [(0, .ref 150), (1, .int (nI (F 4))), (2, .int (nI kd))] [] (mk w p r I1 L) kr := by
      intro kd k3 hkd
      rw [hkd] at hE hO
      have hE : ∀ er, (if (lab b n 10 1 99 (tn b n 3 e)).1 ≠ 0 then (.inl (lab b n 10 1 99 (tn b n 3 e)) : Rs) else if (lab b n 11 0 9 (tn b n 5 e)).1 ≠ 0 then .inl (lab b n 11 0 9 (tn b n 5 e)) else if (lab b n 12 0 (F 0 * F 1 - 1) (tn b n 7 e)).1 ≠ 0 then .inl (lab b n 12 0 (F 0 * F 1 - 1) (tn b n 7 e)) else if (fov F (tvl b n (tn b n 8 e))).isSome = true then .inl (3, tst b n (tn b n 8 e)) else .inr ((uF (uF (uF (uF (uF F (11 + 4 * F 4) kd) (12 + 4 * F 4) (tvl b n (tn b n 4 e))) (13 + 4 * F 4) (tvl b n (tn b n 6 e))) (14 + 4 * F 4) (tvl b n (tn b n 8 e))) 4 (F 4 + 1)), W, (nm ++ [nw b n (tn b n 1 e) 1 (F 4)]), tn b n 9 e)) = .inl er → ∀ I', FE I er I' → kr none (mk w p r I' L) := hE
      have hO : ∀ P', (if (lab b n 10 1 99 (tn b n 3 e)).1 ≠ 0 then (.inl (lab b n 10 1 99 (tn b n 3 e)) : Rs) else if (lab b n 11 0 9 (tn b n 5 e)).1 ≠ 0 then .inl (lab b n 11 0 9 (tn b n 5 e)) else if (lab b n 12 0 (F 0 * F 1 - 1) (tn b n 7 e)).1 ≠ 0 then .inl (lab b n 12 0 (F 0 * F 1 - 1) (tn b n 7 e)) else if (fov F (tvl b n (tn b n 8 e))).isSome = true then .inl (3, tst b n (tn b n 8 e)) else .inr ((uF (uF (uF (uF (uF F (11 + 4 * F 4) kd) (12 + 4 * F 4) (tvl b n (tn b n 4 e))) (13 + 4 * F 4) (tvl b n (tn b n 6 e))) (14 + 4 * F 4) (tvl b n (tn b n 8 e))) 4 (F 4 + 1)), W, (nm ++ [nw b n (tn b n 1 e) 1 (F 4)]), tn b n 9 e)) = .inr P' → ∀ I', sQ I I' → SF b n P' I' → kr none (mk w p r I' L) := hO
      refine Wf.gc tkX7_faceLine [88] ?_
      conv => whnf
      refine y_pass (d := d + 5) r1 (tn_b he 2) hc1 g1 (fun I2 hs2 hc2 => ?_)
      have hc2 : TR b n (tn b n 3 e) I2 := hc2
      have g2 : I2 150 13 = 0 := (sN13 hs2).trans g1
      conv => whnf
      refine y_after (i := 10) (lo := 1) (hi := 99) (d := d) (by decide) (by decide) (by decide) (RX_sN r1 hs2) (tn_b he 3) hc2 g2 (by decide) (fun q3 I4 hs4 hc4 _ _ => ?_) (fun q3 I4 hs4 => ?_)
      · rw [if_neg (fun z => z q3)] at hE hO
        have hs4 : sN I1 I4 := hs2.tr hs4
        have hc4 : TR b n (tn b n 5 e) I4 := hc4
        have g4 : I4 150 13 = 0 := (sN13 hs4).trans g1
        conv => whnf
        show Wf l X uX7_faceLine (d + 9) true (mC (mk w p r I L) + 0, mS (mk w p r I L) + 0) 88 [(0, .ref 150), (1, .int (nI (F 4))), (2, .int (nI kd)), (3, .int (nI (tvl b n (tn b n 4 e))))] [] (mk w p r I4 L) kr
        refine Wf.gc tkX7_faceLine [99] ?_
        conv => whnf
        refine y_after (i := 11) (lo := 0) (hi := 9) (d := d) (by decide) (by decide) (by decide) (RX_sN r1 hs4) (tn_b he 5) hc4 g4 (by decide) (fun q4 I6 hs6 hc6 _ _ => ?_) (fun q4 I6 hs6 => ?_)
        · rw [if_neg (fun z => z q4)] at hE hO
          have hs6 : sN I1 I6 := hs4.tr hs6
          have hc6 : TR b n (tn b n 7 e) I6 := hc6
          have g6 : I6 150 13 = 0 := (sN13 hs6).trans g1
          conv => whnf
          show Wf l X uX7_faceLine (d + 9) true (mC (mk w p r I L) + 0, mS (mk w p r I L) + 0) 99 [(0, .ref 150), (1, .int (nI (F 4))), (2, .int (nI kd)), (3, .int (nI (tvl b n (tn b n 4 e)))), (4, .int (nI (tvl b n (tn b n 6 e))))] [] (mk w p r I6 L) kr
          refine Wf.gc tkX7_faceLine [114] ?_
          conv => whnf
          refine y_must (i := 12) (d := d + 1) (by decide) (RX_sN r1 hs6) (tn_b he 7) hc6 g6 (by decide) (fun q5 I8 hs8 hc8 => ?_) (fun q5 => ?_)
          · have hs8 : sN I1 I8 := hs6.tr hs8
            have hc8 : TR b n (tn b n 8 e) I8 := hc8
            have g8 : I8 150 13 = 0 := (sN13 hs8).trans g1
            have f8 := FR_sN f1 hs8
            have e1 : lab b n 12 0 (F 0 * F 1 - 1) (tn b n 7 e) = (bnd b n 0 (F 0 * F 1 - 1) (tn b n 8 e), tst b n (tn b n 8 e)) := by unfold lab; rw [if_pos q5]; rfl
            rw [e1] at hE hO
            conv => whnf
            refine y_cellHere (d := d + 6) f8 hB hT (tn_b he 8) hc8 g8 (fun q6 => ?_) (fun q6 => ?_)
            · rw [if_neg (fun z => z q6)] at hE hO
              have b8 : tvl b n (tn b n 8 e) < 1000 := by have := (bnd_v q6).2; have hm : F 0 * F 1 ≤ 5 * 4 := Nat.mul_le_mul hB.1.1 hB.1.2.1; omega
              conv => whnf
              show Wf l X uX7_faceLine (d + 9) true (mC (mk w p r I L) + 0, mS (mk w p r I L) + 0) 114 [(0, .ref 150), (1, .int (nI (F 4))), (2, .int (nI kd)), (3, .int (nI (tvl b n (tn b n 4 e)))), (4, .int (nI (tvl b n (tn b n 6 e)))), (5, .int (nI (tvl b n (tn b n 8 e)))), (6, .int (nI 0))] [] (mk w p r I8 L) kr
              have loop := srch (e := F 4) (P := fun g => Nat.beq (F (14 + 4 * g)) (tvl b n (tn b n 8 e))) (Wi := fun j => Wf l X uX7_faceLine (d + 9) true (mC (mk w p r I L) + 0, mS (mk w p r I L) + 0) 114 [(0, .ref 150), (1, .int (nI (F 4))), (2, .int (nI kd)), (3, .int (nI (tvl b n (tn b n 4 e)))), (4, .int (nI (tvl b n (tn b n 6 e)))), (5, .int (nI (tvl b n (tn b n 8 e)))), (6, .int (nI j))] [] (mk w p r I8 L) kr) (K := fun o => o = fov F (tvl b n (tn b n 8 e))) ?_ ?_ 0 (Nat.zero_le _)
              · exact loop rfl
              · intro ho
                rw [if_neg (by rw [← ho]; decide)] at hO
                refine Wf.gc tkX7_faceLine [161] ?_
                conv => whnf
                refine b1' (Int32.le_refl _) ?_
                conv => whnf
                show Wf l X uX7_faceLine (d + 9) true (mC (mk w p r I L) + 0, mS (mk w p r I L) + 0) 161 [(0, .ref 150), (1, .int (nI (F 4))), (2, .int (nI kd)), (3, .int (nI (tvl b n (tn b n 4 e)))), (4, .int (nI (tvl b n (tn b n 6 e)))), (5, .int (nI (tvl b n (tn b n 8 e)))), (6, .int (nI (F 4)))] [] (mk w p r I8 L) kr
                refine Wf.gc tkX7_faceLine [] ?_
                conv => whnf
                refine y_pass (d := d + 5) (RX_sN r1 hs8) (tn_b he 8) hc8 g8 (fun I9 hs9 hc9 => ?_)
                have hs9 : sN I1 I9 := hs8.tr hs9
                have hc9 : TR b n (tn b n 9 e) I9 := hc9
                have g9 : I9 150 13 = 0 := (sN13 hs9).trans g1
                have f9 := FR_sN f1 hs9
                conv => whnf
                refine b1' g9 ?_
                conv => whnf
                refine ⟨11 + 4 * F 4, ⟨by show (11 + 4 * nI (F 4) : Int32) = nI (11 + 4 * F 4); rw [show (4 : Int32) = nI 4 from rfl, nI_mul, show (11 : Int32) = nI 11 from rfl, nI_add], by omega, show 11 + 4 * F 4 < 202 by omega⟩, ?_⟩
                conv => whnf
                refine ⟨12 + 4 * F 4, ⟨by show (11 + 4 * nI (F 4) + 1 : Int32) = nI (12 + 4 * F 4); rw [show (4 : Int32) = nI 4 from rfl, nI_mul, show (11 : Int32) = nI 11 from rfl, nI_add, show (1 : Int32) = nI 1 from rfl, nI_add, show 11 + 4 * F 4 + 1 = 12 + 4 * F 4 by omega], by omega, show 12 + 4 * F 4 < 202 by omega⟩, ?_⟩
                conv => whnf
                refine ⟨13 + 4 * F 4, ⟨by show (11 + 4 * nI (F 4) + 2 : Int32) = nI (13 + 4 * F 4); rw [show (4 : Int32) = nI 4 from rfl, nI_mul, show (11 : Int32) = nI 11 from rfl, nI_add, show (2 : Int32) = nI 2 from rfl, nI_add, show 11 + 4 * F 4 + 2 = 13 + 4 * F 4 by omega], by omega, show 13 + 4 * F 4 < 202 by omega⟩, ?_⟩
                conv => whnf
                refine ⟨14 + 4 * F 4, ⟨by show (11 + 4 * nI (F 4) + 3 : Int32) = nI (14 + 4 * F 4); rw [show (4 : Int32) = nI 4 from rfl, nI_mul, show (11 : Int32) = nI 11 from rfl, nI_add, show (3 : Int32) = nI 3 from rfl, nI_add, show 11 + 4 * F 4 + 3 = 14 + 4 * F 4 by omega], by omega, show 14 + 4 * F 4 < 202 by omega⟩, ?_⟩
                conv => whnf
                refine ⟨F 4, ⟨rfl, by omega, show F 4 < 25 by omega⟩, ?_⟩
                conv => whnf
                refine ⟨4, ⟨rfl, by decide, show 4 < 202 by decide⟩, ?_⟩
                conv => whnf
                refine ⟨4, ⟨rfl, by decide, show 4 < 202 by decide⟩, ?_⟩
                conv => whnf
                show kr none (mk w p r (u2 (u2 (u2 (u2 (u2 (u2 I9 154 (11 + 4 * F 4) (nI kd)) 154 (12 + 4 * F 4) (nI (tvl b n (tn b n 4 e)))) 154 (13 + 4 * F 4) (nI (tvl b n (tn b n 6 e)))) 154 (14 + 4 * F 4) (nI (tvl b n (tn b n 8 e)))) 156 (F 4) (nI (tvl b n (tn b n 4 e)))) 154 4 ((u2 (u2 (u2 (u2 (u2 I9 154 (11 + 4 * F 4) (nI kd)) 154 (12 + 4 * F 4) (nI (tvl b n (tn b n 4 e)))) 154 (13 + 4 * F 4) (nI (tvl b n (tn b n 6 e)))) 154 (14 + 4 * F 4) (nI (tvl b n (tn b n 8 e)))) 156 (F 4) (nI (tvl b n (tn b n 4 e)))) 154 4 + 1)) L)
                rw [u2_o (by omega), u2_o (by omega), u2_o (by omega), u2_o (by omega), u2_o (by omega), f9.1 4 (by decide) (by decide), nI_1]
                have sp : sP I9 (u2 (u2 (u2 (u2 (u2 (u2 I9 154 (11 + 4 * F 4) (nI kd)) 154 (12 + 4 * F 4) (nI (tvl b n (tn b n 4 e)))) 154 (13 + 4 * F 4) (nI (tvl b n (tn b n 6 e)))) 154 (14 + 4 * F 4) (nI (tvl b n (tn b n 8 e)))) 156 (F 4) (nI (tvl b n (tn b n 4 e)))) 154 4 (nI (F 4 + 1))) := (((((sP_4 (by omega)).tr (sP_4 (by omega))).tr (sP_4 (by omega))).tr (sP_4 (by omega))).tr sP_6).tr (sP_4 (by decide))
                have fE : FR (uF (uF (uF (uF (uF F (11 + 4 * F 4) kd) (12 + 4 * F 4) (tvl b n (tn b n 4 e))) (13 + 4 * F 4) (tvl b n (tn b n 6 e))) (14 + 4 * F 4) (tvl b n (tn b n 8 e))) 4 (F 4 + 1)) W (u2 (u2 (u2 (u2 (u2 (u2 I9 154 (11 + 4 * F 4) (nI kd)) 154 (12 + 4 * F 4) (nI (tvl b n (tn b n 4 e)))) 154 (13 + 4 * F 4) (nI (tvl b n (tn b n 6 e)))) 154 (14 + 4 * F 4) (nI (tvl b n (tn b n 8 e)))) 156 (F 4) (nI (tvl b n (tn b n 4 e)))) 154 4 (nI (F 4 + 1))) := by
                  rw [u2_cm (I := (u2 (u2 (u2 I9 154 (11 + 4 * F 4) (nI kd)) 154 (12 + 4 * F 4) (nI (tvl b n (tn b n 4 e)))) 154 (13 + 4 * F 4) (nI (tvl b n (tn b n 6 e))))) (a := 154) (i := 14 + 4 * F 4) (a' := 156) (i' := F 4) (by omega), u2_cm (I := (u2 (u2 I9 154 (11 + 4 * F 4) (nI kd)) 154 (12 + 4 * F 4) (nI (tvl b n (tn b n 4 e))))) (a := 154) (i := 13 + 4 * F 4) (a' := 156) (i' := F 4) (by omega)]
                  exact FR_s (FR_s (FR_s (FR_h (FR_s f9 (by omega) (by omega)) (by omega)) (by omega) (by omega)) (by omega) (by omega)) (by decide) (by decide)
                have km : KM (uF (uF (uF (uF (uF F (11 + 4 * F 4) kd) (12 + 4 * F 4) (tvl b n (tn b n 4 e))) (13 + 4 * F 4) (tvl b n (tn b n 6 e))) (14 + 4 * F 4) (tvl b n (tn b n 8 e))) 4 (F 4 + 1)) (nm ++ [nw b n (tn b n 1 e) 1 (F 4)]) := KM_a (KM_c hk (by rw [uF_s]; omega) (Nat.le_of_eq (by rw [uF_o (by decide), uF_o (by omega), uF_o (by omega), uF_o (by omega), uF_o (by omega)])) (Nat.le_of_eq (by rw [uF_o (by decide), uF_o (by omega), uF_o (by omega), uF_o (by omega), uF_o (by omega)]))) ⟨fun _ => by rw [uF_s]; exact Nat.lt_succ_self _, fun z => absurd (show (1 : Nat) = 2 from z) (by decide), fun z => absurd (show (1 : Nat) = 3 from z) (by decide)⟩
                have k9 : (uF (uF (uF (uF (uF F (11 + 4 * F 4) kd) (12 + 4 * F 4) (tvl b n (tn b n 4 e))) (13 + 4 * F 4) (tvl b n (tn b n 6 e))) (14 + 4 * F 4) (tvl b n (tn b n 8 e))) 4 (F 4 + 1)) 9 = 0 ↔ (uF (uF (uF (uF (uF F (11 + 4 * F 4) kd) (12 + 4 * F 4) (tvl b n (tn b n 4 e))) (13 + 4 * F 4) (tvl b n (tn b n 6 e))) (14 + 4 * F 4) (tvl b n (tn b n 8 e))) 4 (F 4 + 1)) 0 = 0 := by
                  rw [uF_o (by decide), uF_o (by omega), uF_o (by omega), uF_o (by omega), uF_o (by omega), uF_o (by decide), uF_o (by omega), uF_o (by omega), uF_o (by omega), uF_o (by omega)]
                  exact h9
                exact hO _ rfl _ (hs1.sQ.tr (hs9.sQ.tr sp.sQ)) ⟨RX_sP (RX_sN r1 hs9) sp, tn_b he 9, TR_sP hc9 sp, by rw [sp 150 13 (by omega) (by decide)]; exact g9, fE, RN_sP (RN_sN hn1 hs9) sp, si1, un1, km, k9⟩
              · intro j hj
                have vj : I8 154 (14 + 4 * j) = nI (F (14 + 4 * j)) := f8.1 _ (by omega) (by omega)
                have bj := BF (14 + 4 * j)
                have stp : (F (14 + 4 * j) = tvl b n (tn b n 8 e) → Wf l X uX7_faceLine (d + 9) true (mC (mk w p r I L) + 0, mS (mk w p r I L) + 0) 114 [(0, .ref 150), (1, .int (nI (F 4))), (2, .int (nI kd)), (3, .int (nI (tvl b n (tn b n 4 e)))), (4, .int (nI (tvl b n (tn b n 6 e)))), (5, .int (nI (tvl b n (tn b n 8 e)))), (6, .int (nI (j + 1)))] [] (mk w p r (flR I8 3 (tst b n (tn b n 8 e))) L) kr) → (¬ F (14 + 4 * j) = tvl b n (tn b n 8 e) → Wf l X uX7_faceLine (d + 9) true (mC (mk w p r I L) + 0, mS (mk w p r I L) + 0) 114 [(0, .ref 150), (1, .int (nI (F 4))), (2, .int (nI kd)), (3, .int (nI (tvl b n (tn b n 4 e)))), (4, .int (nI (tvl b n (tn b n 6 e)))), (5, .int (nI (tvl b n (tn b n 8 e)))), (6, .int (nI (j + 1)))] [] (mk w p r I8 L) kr) → Wf l X uX7_faceLine (d + 9) true (mC (mk w p r I L) + 0, mS (mk w p r I L) + 0) 114 [(0, .ref 150), (1, .int (nI (F 4))), (2, .int (nI kd)), (3, .int (nI (tvl b n (tn b n 4 e)))), (4, .int (nI (tvl b n (tn b n 6 e)))), (5, .int (nI (tvl b n (tn b n 8 e)))), (6, .int (nI j))] [] (mk w p r I8 L) kr := by
                  intro a1 a2
                  rw [← nI_1] at a1 a2
                  refine Wf.gc tkX7_faceLine [114] ?_
                  conv => whnf
                  refine b2' (nI_ge hj (by omega)) ?_
                  conv => whnf
                  refine b2 (fun z => z g8) ?_
                  conv => whnf
                  refine ⟨14 + 4 * j, ⟨by show (11 + 4 * nI j + 3 : Int32) = nI (14 + 4 * j); rw [show (4 : Int32) = nI 4 from rfl, nI_mul, show (11 : Int32) = nI 11 from rfl, nI_add, show (3 : Int32) = nI 3 from rfl, nI_add, show 11 + 4 * j + 3 = 14 + 4 * j by omega], by omega, show 14 + 4 * j < 202 by omega⟩, ?_⟩
                  conv => whnf
                  refine ⟨fun z => ?_, fun z => ?_⟩
                  · have z : ¬ I8 154 (14 + 4 * j) = (nI (tvl b n (tn b n 8 e))) := z
                    rw [vj, nI_eq (by omega) (by omega)] at z
                    conv => whnf
                    exact a2 z
                  · have z : I8 154 (14 + 4 * j) = (nI (tvl b n (tn b n 8 e))) := z
                    rw [vj, nI_eq (by omega) (by omega)] at z
                    conv => whnf
                    refine y_wrong0 g8 ?_
                    conv => whnf
                    have eJ : u2 (u2 (u2 I8 150 13 1) 150 9 3) 150 10 (I8 150 4) = flR I8 3 (tst b n (tn b n 8 e)) := by unfold flR; rw [← hc8.2.1]; rfl
                    have a1 := a1 z
                    rw [← eJ] at a1
                    exact a1
                refine ⟨fun hP ho => stp (fun z => ?_) (fun z => ?_), fun hP ih => stp (fun z => ?_) (fun _ => ih)⟩
                · rw [if_pos (by rw [← ho]; rfl)] at hE
                  exact fc_114 (m := F 4) (by omega) flR_n (hE _ rfl _ (FE_fl (hs1.sQ.tr hs8.sQ))) (j + 1) (by omega)
                · exact absurd (Nat.eq_of_beq_eq_true hP) z
                · have hP : Nat.beq (F (14 + 4 * j)) (tvl b n (tn b n 8 e)) = false := hP
                  rw [z, Nat.beq_refl] at hP
                  cases hP
            · rw [if_pos q6] at hE
              have fe := hE _ rfl _ (FE_fl (I := I) (I1 := I8) (k := bnd b n 0 (F 0 * F 1 - 1) (tn b n 8 e)) (s := tst b n (tn b n 8 e)) (hs1.sQ.tr hs8.sQ))
              conv => whnf
              exact fc_114 (m := F 4) (by omega) flR_n fe 0 (Nat.zero_le _)
          · have e1 : lab b n 12 0 (F 0 * F 1 - 1) (tn b n 7 e) = (1, tst b n (tn b n 7 e)) := by unfold lab; rw [if_neg (by rw [q5]; decide)]
            rw [e1, if_pos (show (1 : Nat) ≠ 0 by decide)] at hE
            have fe := hE _ rfl _ (FE_fl (I := I) (I1 := I6) (k := 1) (s := tst b n (tn b n 7 e)) (hs1.sQ.tr hs6.sQ))
            conv => whnf
            refine y_cellHere_f (d := d + 6) flR_n ?_
            conv => whnf
            exact fc_114 (m := F 4) (by omega) flR_n fe 0 (Nat.zero_le _)
        · rw [if_pos q4] at hE
          have fe := hE _ rfl _ (FE_fl (I := I) (I1 := I6) (k := (lab b n 11 0 9 (tn b n 5 e)).1) (s := (lab b n 11 0 9 (tn b n 5 e)).2) (hs1.sQ.tr (hs4.tr hs6).sQ))
          conv => whnf
          exact fc_99 (m := F 4) (by omega) flR_n fe
      · rw [if_pos q3] at hE
        have fe := hE _ rfl _ (FE_fl (I := I) (I1 := I4) (k := (lab b n 10 1 99 (tn b n 3 e)).1) (s := (lab b n 10 1 99 (tn b n 3 e)).2) (hs1.sQ.tr (hs2.tr hs4).sQ))
        conv => whnf
        exact fc_88 (m := F 4) (by omega) flR_n fe
    conv => whnf
    show Wf l X uX7_faceLine (d + 9) true (mC (mk w p r I L) + 0, mS (mk w p r I L) + 0) 20 [(0, .ref 150), (1, .int (I 154 4))] [] (mk w p r I1 L) kr
    rw [v4]
    refine Wf.gc tkX7_faceLine [74] ?_
    conv => whnf
    refine y_isWord (wd := 5034) (d := d + 3) r1 (tn_b he 2) hc1 g1 (by decide) ?_
    rw [show isW b n (5034 - 5000) (tn b n 2 e) = isW b n 13 (tn b n 2 e) from wd21 (wd := 5034) (i := 13) (by decide)]
    cases k0 : isW b n 13 (tn b n 2 e) with
    | true =>
      conv => whnf
      refine b2' (by decide) ?_
      conv => whnf
      refine b1' (by decide) ?_
      conv => whnf
      exact go 0 (by decide) (by unfold kin; rw [if_pos k0])
    | false =>
      conv => whnf
      refine b1' rfl ?_
      conv => whnf
      refine y_isWord (wd := 5035) (d := d + 3) r1 (tn_b he 2) hc1 g1 (by decide) ?_
      rw [show isW b n (5035 - 5000) (tn b n 2 e) = isW b n 14 (tn b n 2 e) from wd21 (wd := 5035) (i := 14) (by decide)]
      cases k1 : isW b n 14 (tn b n 2 e) with
      | true =>
        conv => whnf
        refine b2' (by decide) ?_
        conv => whnf
        refine b1' (by decide) ?_
        conv => whnf
        exact go 1 (by decide) (by unfold kin; rw [if_neg (by rw [k0]; decide), if_pos k1])
      | false =>
        conv => whnf
        refine b1' rfl ?_
        conv => whnf
        refine y_isWord (wd := 5036) (d := d + 3) r1 (tn_b he 2) hc1 g1 (by decide) ?_
        rw [show isW b n (5036 - 5000) (tn b n 2 e) = isW b n 15 (tn b n 2 e) from wd21 (wd := 5036) (i := 15) (by decide)]
        cases k2 : isW b n 15 (tn b n 2 e) with
        | true =>
          conv => whnf
          refine b2' (by decide) ?_
          conv => whnf
          refine b1' (by decide) ?_
          conv => whnf
          exact go 2 (by decide) (by unfold kin; rw [if_neg (by rw [k0]; decide), if_neg (by rw [k1]; decide), if_pos k2])
        | false =>
          have kn : kin b n (tn b n 2 e) = none := by unfold kin; rw [if_neg (by rw [k0]; decide), if_neg (by rw [k1]; decide), if_neg (by rw [k2]; decide)]
          rw [kn] at hE
          have fe := hE _ rfl _ (FE_fl (I := I) (I1 := I1) (k := 1) (s := tst b n (tn b n 2 e)) hs1.sQ)
          conv => whnf
          refine b1' rfl ?_
          conv => whnf
          refine b2' (by decide) ?_
          conv => whnf
          refine y_wrong0 g1 ?_
          conv => whnf
          have eJ : u2 (u2 (u2 I1 150 13 1) 150 9 1) 150 10 (I1 150 4) = flR I1 1 (tst b n (tn b n 2 e)) := by unfold flR; rw [← hc1.2.1]; rfl
          show Wf l X uX7_faceLine (d + 9) true (mC (mk w p r I L) + 0, mS (mk w p r I L) + 0) 74 [(0, .ref 150), (1, .int (nI (F 4))), (2, .int (-1))] [] (mk w p r (u2 (u2 (u2 I1 150 13 1) 150 9 1) 150 10 (I1 150 4)) L) kr
          rw [eJ]
          exact fc_74 (by omega) flR_n fe
  · rw [if_pos q] at hE
    have fe := hE _ rfl _ (FE_fl (I := I) (I1 := I) (k := tel b n nm (tn b n 1 e)) (s := tst b n (tn b n 1 e)) sQ.rf)
    conv => whnf
    show Wf l X uX7_faceLine (d + 9) true (mC (mk w p r I L) + 0, mS (mk w p r I L) + 0) 20 [(0, .ref 150), (1, .int (I 154 4))] [] (mk w p r (flR I (tel b n nm (tn b n 1 e)) (tst b n (tn b n 1 e))) L) kr
    rw [v4]
    exact fc_20 (by omega) flR_n fe
end RL5
end
section
/-! the reference's line -/
section RL6
variable {l : Launch} {X : Nat × (Nat → Int32)} {d : Nat} {w : Nat × Nat} {p r : Nat} {I : Nat → Nat → Int32} {L : Nat → Nat → Int64} {kr : KR} {b : Nat → Nat} {n e : Nat} {nm : List Nm} {F : Nat → Nat} {W : Int32}
/-- the fault of a line's first word -/
noncomputable def bgf (b : Nat → Nat) (n : Nat) (F : Nat → Nat) (e : Nat) (cn : Bool) : Nat := if cn = false then 5 else if F 9 = 0 then 6 else if 0 < F 6 ∧ isW b n 1 e = true then 7 else 0
set_option maxRecDepth 20000 in
theorem bg_72 {wd : Nat} {c : Int32} {bs : Nat × Nat} {J : Nat → Nat → Int32} (hJ : ¬ J 150 13 = 0) (q : kr (some (.int 1)) (mk w p r J L)) : Wf l X uX7_begins (d + 6) true bs 72 [(0, .ref 150), (1, .ref wd), (2, .int c)] [] (mk w p r J L) kr := by
  refine Wf.gc tkX7_begins [] ?_
  conv => whnf
  refine y_pass_f (d := d + 2) hJ ?_
  conv => whnf
  exact ⟨Or.inr rfl, q⟩
set_option maxRecDepth 20000 in
theorem bg_43 {wd : Nat} {c : Int32} {bs : Nat × Nat} {J : Nat → Nat → Int32} (hJ : ¬ J 150 13 = 0) (q : kr (some (.int 1)) (mk w p r J L)) : Wf l X uX7_begins (d + 6) true bs 43 [(0, .ref 150), (1, .ref wd), (2, .int c)] [] (mk w p r J L) kr := by
  refine Wf.gc tkX7_begins [72] ?_
  conv => whnf
  refine ⟨6, ⟨rfl, by decide, show 6 < 202 by decide⟩, ?_⟩
  conv => whnf
  refine ⟨fun _ => ?_, fun _ => ?_⟩
  · conv => whnf
    exact bg_72 hJ q
  · conv => whnf
    refine y_isWord_f (d := d) (by decide) hJ ?_
    conv => whnf
    refine b1' rfl ?_
    conv => whnf
    exact bg_72 hJ q
set_option maxRecDepth 20000 in
theorem bg_23 {wd : Nat} {c : Int32} {bs : Nat × Nat} {J : Nat → Nat → Int32} (hJ : ¬ J 150 13 = 0) (q : kr (some (.int 1)) (mk w p r J L)) : Wf l X uX7_begins (d + 6) true bs 23 [(0, .ref 150), (1, .ref wd), (2, .int c)] [] (mk w p r J L) kr := by
  refine Wf.gc tkX7_begins [43] ?_
  conv => whnf
  refine ⟨9, ⟨rfl, by decide, show 9 < 202 by decide⟩, ?_⟩
  conv => whnf
  refine ⟨fun _ => ?_, fun _ => ?_⟩
  · conv => whnf
    exact bg_43 hJ q
  · conv => whnf
    refine y_wrong1 hJ ?_
    conv => whnf
    exact bg_43 hJ q
set_option maxHeartbeats 2000000 in
set_option maxRecDepth 20000 in
theorem y_begins {wd i : Nat} {cn : Bool} (hi : wd - 5000 = 21 + i) (hw : 5000 ≤ wd ∧ wd < 5042) (hr : RX b n I) (he : e ≤ n) (hc : TR b n e I) (h0 : I 150 13 = 0) (hf : FR F W I) (BF : ∀ k, F k < 1000) (h1 : isW b n i e = false → kr (some (.int 0)) (mk w p r I L)) (h2 : isW b n i e = true → bgf b n F e cn = 0 → ∀ I', sN I I' → TR b n (tn b n 1 e) I' → kr (some (.int 1)) (mk w p r I' L)) (h3 : isW b n i e = true → bgf b n F e cn ≠ 0 → kr (some (.int 1)) (mk w p r (flR I (bgf b n F e cn) (tst b n e)) L)) : Ev l X uX7_begins (d + 6) true 0 0 [.ref 150, .ref wd, .int (bI cn)] (mk w p r I L) kr := by
  have p0 : Nat.blt 0 wd = true := Nat.ble_eq_true_of_le (by omega)
  have v9 : I 154 9 = nI (F 9) := hf.1 9 (by decide) (by decide)
  have v6 : I 154 6 = nI (F 6) := hf.1 6 (by decide) (by decide)
  have B9 := BF 9
  have B6 := BF 6
  refine Ev.of (by decide) (Nat.le_of_ble_eq_true rfl) ?_
  refine Wf.sAl tkX7_begins rfl rfl rfl ?_
  refine Wf.sAl tkX7_begins rfl rfl p0 ?_
  refine Wf.sCv (as := [.ref wd]) (rest := []) tkX7_begins rfl rfl rfl rfl ?_
  refine y_isWord (d := d) hr he hc h0 hw ?_
  rw [wd21 hi]
  have fin : (∀ I', sN I I' → TR b n (tn b n 1 e) I' → kr (some (.int 1)) (mk w p r I' L)) → Wf l X uX7_begins (d + 6) true (mC (mk w p r I L) + 0, mS (mk w p r I L) + 0) 72 [(0, .ref 150), (1, .ref wd), (2, .int (bI cn))] [] (mk w p r I L) kr := by
    intro q
    refine Wf.gc tkX7_begins [] ?_
    conv => whnf
    refine y_pass (d := d + 2) hr he hc h0 (fun I' hs' hc' => ?_)
    conv => whnf
    exact ⟨Or.inr rfl, q I' hs' hc'⟩
  have eJ : ∀ (k : Nat) (v : Int32), v = nI k → u2 (u2 (u2 I 150 13 1) 150 9 v) 150 10 (I 150 4) = flR I k (tst b n e) := fun k v hv => by unfold flR; rw [← hc.2.1, hv]
  refine Wf.sIf (x := bI (isW b n i e)) tkX7_begins rfl (fun z => ?_) (fun z => ?_)
  · have hq := bI_t z
    have h2 := h2 hq
    have h3 := h3 hq
    unfold bgf at h2 h3
    cases cn with
    | false =>
      rw [if_pos rfl] at h3
      refine Wf.gc tkX7_begins [23] ?_
      conv => whnf
      refine b2 (fun z => z rfl) ?_
      conv => whnf
      refine y_wrong0 h0 ?_
      conv => whnf
      show Wf l X uX7_begins (d + 6) true (mC (mk w p r I L) + 0, mS (mk w p r I L) + 0) 23 [(0, .ref 150), (1, .ref wd), (2, .int 0)] [] (mk w p r (u2 (u2 (u2 I 150 13 1) 150 9 5) 150 10 (I 150 4)) L) kr
      rw [eJ 5 5 rfl]
      exact bg_23 flR_n (h3 (by decide))
    | true =>
      rw [if_neg (by decide)] at h2 h3
      refine Wf.gc tkX7_begins [23] ?_
      conv => whnf
      refine b1 (by decide) ?_
      conv => whnf
      show Wf l X uX7_begins (d + 6) true (mC (mk w p r I L) + 0, mS (mk w p r I L) + 0) 23 [(0, .ref 150), (1, .ref wd), (2, .int 1)] [] (mk w p r I L) kr
      refine Wf.gc tkX7_begins [43] ?_
      conv => whnf
      refine ⟨9, ⟨rfl, by decide, show 9 < 202 by decide⟩, ?_⟩
      conv => whnf
      refine ⟨fun z => ?_, fun z => ?_⟩
      · have z : ¬ I 154 9 = 0 := z
        rw [v9, show (0 : Int32) = nI 0 from rfl, nI_eq (by omega) (by decide)] at z
        rw [if_neg z] at h2 h3
        conv => whnf
        show Wf l X uX7_begins (d + 6) true (mC (mk w p r I L) + 0, mS (mk w p r I L) + 0) 43 [(0, .ref 150), (1, .ref wd), (2, .int 1)] [] (mk w p r I L) kr
        refine Wf.gc tkX7_begins [72] ?_
        conv => whnf
        refine ⟨6, ⟨rfl, by decide, show 6 < 202 by decide⟩, ?_⟩
        conv => whnf
        refine ⟨fun y => ?_, fun y => ?_⟩
        · have y : I 154 6 ≤ 0 := y
          rw [v6, show (0 : Int32) = nI 0 from rfl, nI_leI (by omega) (by decide)] at y
          rw [if_neg (fun q => by have := q.1; omega)] at h2
          conv => whnf
          exact fin (h2 rfl)
        · have y : ¬ I 154 6 ≤ 0 := y
          rw [v6, show (0 : Int32) = nI 0 from rfl, nI_leI (by omega) (by decide)] at y
          conv => whnf
          refine y_isWord (wd := 5022) (d := d) hr he hc h0 (by decide) ?_
          rw [show isW b n (5022 - 5000) e = isW b n 1 e from wd21 (wd := 5022) (i := 1) (by decide)]
          cases hw1 : isW b n 1 e with
          | true =>
            rw [if_pos ⟨by omega, hw1⟩] at h3
            conv => whnf
            refine b2' (by decide) ?_
            conv => whnf
            refine y_wrong0 h0 ?_
            conv => whnf
            show Wf l X uX7_begins (d + 6) true (mC (mk w p r I L) + 0, mS (mk w p r I L) + 0) 72 [(0, .ref 150), (1, .ref wd), (2, .int 1)] [] (mk w p r (u2 (u2 (u2 I 150 13 1) 150 9 7) 150 10 (I 150 4)) L) kr
            rw [eJ 7 7 rfl]
            exact bg_72 flR_n (h3 (by decide))
          | false =>
            rw [if_neg (fun q => by have := q.2; rw [hw1] at this; cases this)] at h2
            conv => whnf
            refine b1' rfl ?_
            conv => whnf
            exact fin (h2 rfl)
      · have z : I 154 9 = 0 := z
        rw [v9, show (0 : Int32) = nI 0 from rfl, nI_eq (by omega) (by decide)] at z
        rw [if_pos z] at h3
        conv => whnf
        refine y_wrong0 h0 ?_
        conv => whnf
        show Wf l X uX7_begins (d + 6) true (mC (mk w p r I L) + 0, mS (mk w p r I L) + 0) 43 [(0, .ref 150), (1, .ref wd), (2, .int 1)] [] (mk w p r (u2 (u2 (u2 I 150 13 1) 150 9 6) 150 10 (I 150 4)) L) kr
        rw [eJ 6 6 rfl]
        exact bg_43 flR_n (h3 (by decide))
  · refine Wf.gc tkX7_begins [] ?_
    conv => whnf
    exact ⟨Or.inl rfl, h1 (bI_f z)⟩
set_option maxHeartbeats 8000000 in
set_option maxRecDepth 20000 in
theorem y_readLine (hB : Bd F W nm) (hZ : F 0 = 0 → F 3 = 0 ∧ F 4 = 0 ∧ F 5 = 0 ∧ F 6 = 0 ∧ F 7 = 0) (hS : SF b n (F, W, nm, e) I) (hE : ∀ er, ln b n F W nm e = .inl er → ∀ I', FE I er I' → kr none (mk w p r I' L)) (hO : ∀ P', ln b n F W nm e = .inr P' → ∀ I', sQ I I' → SF b n P' I' → kr none (mk w p r I' L)) : Ev l X uX7_readLine (d + 10) true 0 0 [.ref 150] (mk w p r I L) kr := by
  obtain ⟨hr, he, hc, h0, hf, hn, hs, hu, hk, h9⟩ := id hS
  have he : e ≤ n := he
  have hc : TR b n e I := hc
  have hf : FR F W I := hf
  have h9 : F 9 = 0 ↔ F 0 = 0 := h9
  have BF := hB.2.1
  unfold ln at hE hO
  have eJ : ∀ (k : Nat) (v : Int32), v = nI k → u2 (u2 (u2 I 150 13 1) 150 9 v) 150 10 (I 150 4) = flR I k (tst b n e) := fun k v hv => by unfold flR; rw [← hc.2.1, hv]
  have sf1 : ∀ I', sN I I' → TR b n (tn b n 1 e) I' → SF b n (F, W, nm, tn b n 1 e) I' := fun I' hs' hc' => ⟨RX_sN hr hs', tn_b he 1, hc', (sN13 hs').trans h0, FR_sN hf hs', RN_sN hn hs', hs, hu, hk, h9⟩
  have t191 : (isW b n 0 e = false ∧ isW b n 1 e = false ∧ isW b n 2 e = false ∧ isW b n 3 e = false ∧ isW b n 4 e = false ∧ isW b n 5 e = false ∧ isW b n 6 e = false) → Wf l X uX7_readLine (d + 10) true (mC (mk w p r I L) + 0, mS (mk w p r I L) + 0) 191 [(0, .ref 150)] [] (mk w p r I L) kr := by
    rintro ⟨g0, g1, g2, g3, g4, g5, g6⟩
    rw [if_pos (by unfold bgl; rw [g0, g1, g2, g3, g4, g5, g6]; rfl)] at hE
    have fe := hE _ rfl _ (FE_fl (I := I) (I1 := I) (k := 1) (s := tst b n e) sQ.rf)
    refine Wf.gc tkX7_readLine [] ?_
    conv => whnf
    refine y_wrong0 h0 ?_
    conv => whnf
    rw [← eJ 1 1 rfl] at fe
    exact fe
  have t174 : (isW b n 0 e = false ∧ isW b n 1 e = false ∧ isW b n 2 e = false ∧ isW b n 3 e = false ∧ isW b n 4 e = false ∧ isW b n 5 e = false) → Wf l X uX7_readLine (d + 10) true (mC (mk w p r I L) + 0, mS (mk w p r I L) + 0) 174 [(0, .ref 150)] [] (mk w p r I L) kr := by
    rintro ⟨g0, g1, g2, g3, g4, g5⟩
    refine Wf.gc tkX7_readLine [191] ?_
    conv => whnf
    refine y_begins (F := F) (wd := 5027) (i := 6) (cn := true) (d := d + 3) (by decide) (by decide) hr he hc h0 hf BF (fun q => ?_) (fun q q2 I1 hs1 hc1 => ?_) (fun q q2 => ?_)
    · conv => whnf
      refine b1' rfl ?_
      conv => whnf
      exact t191 ⟨g0, g1, g2, g3, g4, g5, q⟩
    · have z9 : ¬ F 0 = 0 := fun z => by unfold bgf at q2; rw [if_neg (by decide), if_pos (h9.mpr z)] at q2; cases q2
      rw [if_neg (by unfold bgl; rw [g0, g1, g2, g3, g4, g5, q]; exact (show ¬ true = false by decide)), if_neg (by rw [g0]; decide), if_neg z9, if_neg (by rw [g1]; decide), if_neg (by rw [g2]; decide), if_neg (by rw [g3]; decide), if_neg (by rw [g4]; decide), if_neg (by rw [g5]; decide)] at hE hO
      conv => whnf
      refine b2' (by decide) ?_
      conv => whnf
      refine y_droppedLine (d := d) hB (sf1 I1 hs1 hc1) he (fun er q3 I2 fe => ?_) (fun P' q3 I2 sq sf => ?_)
      · conv => whnf
        exact hE er q3 I2 (FE_tr hs1.sQ fe)
      · conv => whnf
        exact hO P' q3 I2 (hs1.sQ.tr sq) sf
    · have z9 : F 0 = 0 := Classical.byContradiction (fun z => q2 (by unfold bgf; rw [if_neg (by decide), if_neg (fun y => z (h9.mp y)), if_neg (fun y => by have := y.2; rw [g1] at this; cases this)]))
      have eb : bgf b n F e true = 6 := by unfold bgf; rw [if_neg (by decide), if_pos (h9.mpr z9)]
      rw [if_neg (by unfold bgl; rw [g0, g1, g2, g3, g4, g5, q]; exact (show ¬ true = false by decide)), if_neg (by rw [g0]; decide), if_pos z9] at hE
      rw [eb]
      conv => whnf
      refine b2' (by decide) ?_
      conv => whnf
      refine y_droppedLine_f (d := d) flR_n ?_
      conv => whnf
      exact hE _ rfl _ (FE_fl sQ.rf)
  have t142 : (isW b n 0 e = false ∧ isW b n 1 e = false ∧ isW b n 2 e = false ∧ isW b n 3 e = false ∧ isW b n 4 e = false) → Wf l X uX7_readLine (d + 10) true (mC (mk w p r I L) + 0, mS (mk w p r I L) + 0) 142 [(0, .ref 150)] [] (mk w p r I L) kr := by
    rintro ⟨g0, g1, g2, g3, g4⟩
    by_cases hl : 4 ≤ F 7
    · refine Wf.gc tkX7_readLine [174] ?_
      conv => whnf
      refine ⟨7, ⟨rfl, by decide, show 7 < 202 by decide⟩, ?_⟩
      conv => whnf
      refine b1' (by show (4 : Int32) ≤ I 154 7; rw [hf.1 7 (by decide) (by decide), show (4 : Int32) = nI 4 from rfl, nI_leI (by decide) (by have := BF 7; omega)]; exact hl) ?_
      conv => whnf
      refine y_begins (F := F) (wd := 5026) (i := 5) (cn := false) (d := d + 3) (by decide) (by decide) hr he hc h0 hf BF (fun q => ?_) (fun q q2 I1 hs1 hc1 => ?_) (fun q q2 => ?_)
      · conv => whnf
        refine b1' rfl ?_
        conv => whnf
        exact t174 ⟨g0, g1, g2, g3, g4, q⟩
      · unfold bgf at q2
        rw [if_pos rfl] at q2
        cases q2
      · rw [if_neg (by unfold bgl; rw [g0, g1, g2, g3, g4, q]; exact (show ¬ true = false by decide)), if_neg (by rw [g0]; decide), if_neg (fun z => by have := hZ z; omega), if_neg (by rw [g1]; decide), if_neg (by rw [g2]; decide), if_neg (by rw [g3]; decide), if_neg (by rw [g4]; decide), if_pos q] at hE
        unfold lnUnsure at hE
        rw [if_pos hl] at hE
        unfold bgf
        rw [if_pos rfl]
        conv => whnf
        refine b2' (by decide) ?_
        conv => whnf
        refine y_unsureLine_f (d := d + 1) flR_n ?_
        conv => whnf
        exact hE _ rfl _ (FE_fl sQ.rf)
    · refine Wf.gc tkX7_readLine [174] ?_
      conv => whnf
      refine ⟨7, ⟨rfl, by decide, show 7 < 202 by decide⟩, ?_⟩
      conv => whnf
      refine b2' (by show ¬ (4 : Int32) ≤ I 154 7; rw [hf.1 7 (by decide) (by decide), show (4 : Int32) = nI 4 from rfl, nI_leI (by decide) (by have := BF 7; omega)]; exact hl) ?_
      conv => whnf
      refine y_begins (F := F) (wd := 5026) (i := 5) (cn := true) (d := d + 3) (by decide) (by decide) hr he hc h0 hf BF (fun q => ?_) (fun q q2 I1 hs1 hc1 => ?_) (fun q q2 => ?_)
      · conv => whnf
        refine b1' rfl ?_
        conv => whnf
        exact t174 ⟨g0, g1, g2, g3, g4, q⟩
      · have z9 : ¬ F 0 = 0 := fun z => by unfold bgf at q2; rw [if_neg (by decide), if_pos (h9.mpr z)] at q2; cases q2
        rw [if_neg (by unfold bgl; rw [g0, g1, g2, g3, g4, q]; exact (show ¬ true = false by decide)), if_neg (by rw [g0]; decide), if_neg z9, if_neg (by rw [g1]; decide), if_neg (by rw [g2]; decide), if_neg (by rw [g3]; decide), if_neg (by rw [g4]; decide), if_pos q] at hE hO
        conv => whnf
        refine b2' (by decide) ?_
        conv => whnf
        refine y_unsureLine (d := d + 1) hB hl (sf1 I1 hs1 hc1) he (fun er q3 I2 fe => ?_) (fun P' q3 I2 sq sf => ?_)
        · conv => whnf
          exact hE er q3 I2 (FE_tr hs1.sQ fe)
        · conv => whnf
          exact hO P' q3 I2 (hs1.sQ.tr sq) sf
      · have z9 : F 0 = 0 := Classical.byContradiction (fun z => q2 (by unfold bgf; rw [if_neg (by decide), if_neg (fun y => z (h9.mp y)), if_neg (fun y => by have := y.2; rw [g1] at this; cases this)]))
        have eb : bgf b n F e true = 6 := by unfold bgf; rw [if_neg (by decide), if_pos (h9.mpr z9)]
        rw [if_neg (by unfold bgl; rw [g0, g1, g2, g3, g4, q]; exact (show ¬ true = false by decide)), if_neg (by rw [g0]; decide), if_pos z9] at hE
        rw [eb]
        conv => whnf
        refine b2' (by decide) ?_
        conv => whnf
        refine y_unsureLine_f (d := d + 1) flR_n ?_
        conv => whnf
        exact hE _ rfl _ (FE_fl sQ.rf)
  have t110 : (isW b n 0 e = false ∧ isW b n 1 e = false ∧ isW b n 2 e = false ∧ isW b n 3 e = false) → Wf l X uX7_readLine (d + 10) true (mC (mk w p r I L) + 0, mS (mk w p r I L) + 0) 110 [(0, .ref 150)] [] (mk w p r I L) kr := by
    rintro ⟨g0, g1, g2, g3⟩
    by_cases hl : 4 ≤ F 6
    · refine Wf.gc tkX7_readLine [142] ?_
      conv => whnf
      refine ⟨6, ⟨rfl, by decide, show 6 < 202 by decide⟩, ?_⟩
      conv => whnf
      refine b1' (by show (4 : Int32) ≤ I 154 6; rw [hf.1 6 (by decide) (by decide), show (4 : Int32) = nI 4 from rfl, nI_leI (by decide) (by have := BF 6; omega)]; exact hl) ?_
      conv => whnf
      refine y_begins (F := F) (wd := 5025) (i := 4) (cn := false) (d := d + 3) (by decide) (by decide) hr he hc h0 hf BF (fun q => ?_) (fun q q2 I1 hs1 hc1 => ?_) (fun q q2 => ?_)
      · conv => whnf
        refine b1' rfl ?_
        conv => whnf
        exact t142 ⟨g0, g1, g2, g3, q⟩
      · unfold bgf at q2
        rw [if_pos rfl] at q2
        cases q2
      · rw [if_neg (by unfold bgl; rw [g0, g1, g2, g3, q]; exact (show ¬ true = false by decide)), if_neg (by rw [g0]; decide), if_neg (fun z => by have := hZ z; omega), if_neg (by rw [g1]; decide), if_neg (by rw [g2]; decide), if_neg (by rw [g3]; decide), if_pos q] at hE
        unfold lnWalker at hE
        rw [if_pos hl] at hE
        unfold bgf
        rw [if_pos rfl]
        conv => whnf
        refine b2' (by decide) ?_
        conv => whnf
        refine y_walkerLine_f (d := d + 1) flR_n ?_
        conv => whnf
        exact hE _ rfl _ (FE_fl sQ.rf)
    · refine Wf.gc tkX7_readLine [142] ?_
      conv => whnf
      refine ⟨6, ⟨rfl, by decide, show 6 < 202 by decide⟩, ?_⟩
      conv => whnf
      refine b2' (by show ¬ (4 : Int32) ≤ I 154 6; rw [hf.1 6 (by decide) (by decide), show (4 : Int32) = nI 4 from rfl, nI_leI (by decide) (by have := BF 6; omega)]; exact hl) ?_
      conv => whnf
      refine y_begins (F := F) (wd := 5025) (i := 4) (cn := true) (d := d + 3) (by decide) (by decide) hr he hc h0 hf BF (fun q => ?_) (fun q q2 I1 hs1 hc1 => ?_) (fun q q2 => ?_)
      · conv => whnf
        refine b1' rfl ?_
        conv => whnf
        exact t142 ⟨g0, g1, g2, g3, q⟩
      · have z9 : ¬ F 0 = 0 := fun z => by unfold bgf at q2; rw [if_neg (by decide), if_pos (h9.mpr z)] at q2; cases q2
        rw [if_neg (by unfold bgl; rw [g0, g1, g2, g3, q]; exact (show ¬ true = false by decide)), if_neg (by rw [g0]; decide), if_neg z9, if_neg (by rw [g1]; decide), if_neg (by rw [g2]; decide), if_neg (by rw [g3]; decide), if_pos q] at hE hO
        conv => whnf
        refine b2' (by decide) ?_
        conv => whnf
        refine y_walkerLine (d := d + 1) hB (by omega) hl (sf1 I1 hs1 hc1) he (fun er q3 I2 fe => ?_) (fun P' q3 I2 sq sf => ?_)
        · conv => whnf
          exact hE er q3 I2 (FE_tr hs1.sQ fe)
        · conv => whnf
          exact hO P' q3 I2 (hs1.sQ.tr sq) sf
      · have z9 : F 0 = 0 := Classical.byContradiction (fun z => q2 (by unfold bgf; rw [if_neg (by decide), if_neg (fun y => z (h9.mp y)), if_neg (fun y => by have := y.2; rw [g1] at this; cases this)]))
        have eb : bgf b n F e true = 6 := by unfold bgf; rw [if_neg (by decide), if_pos (h9.mpr z9)]
        rw [if_neg (by unfold bgl; rw [g0, g1, g2, g3, q]; exact (show ¬ true = false by decide)), if_neg (by rw [g0]; decide), if_pos z9] at hE
        rw [eb]
        conv => whnf
        refine b2' (by decide) ?_
        conv => whnf
        refine y_walkerLine_f (d := d + 1) flR_n ?_
        conv => whnf
        exact hE _ rfl _ (FE_fl sQ.rf)
  have t79 : (isW b n 0 e = false ∧ isW b n 1 e = false ∧ isW b n 2 e = false) → Wf l X uX7_readLine (d + 10) true (mC (mk w p r I L) + 0, mS (mk w p r I L) + 0) 79 [(0, .ref 150)] [] (mk w p r I L) kr := by
    rintro ⟨g0, g1, g2⟩
    by_cases hl : 5 ≤ F 5
    · refine Wf.gc tkX7_readLine [110] ?_
      conv => whnf
      refine ⟨5, ⟨rfl, by decide, show 5 < 202 by decide⟩, ?_⟩
      conv => whnf
      refine b1' (by show (5 : Int32) ≤ I 154 5; rw [hf.1 5 (by decide) (by decide), show (5 : Int32) = nI 5 from rfl, nI_leI (by decide) (by have := BF 5; omega)]; exact hl) ?_
      conv => whnf
      refine y_begins (F := F) (wd := 5024) (i := 3) (cn := false) (d := d + 3) (by decide) (by decide) hr he hc h0 hf BF (fun q => ?_) (fun q q2 I1 hs1 hc1 => ?_) (fun q q2 => ?_)
      · conv => whnf
        refine b1' rfl ?_
        conv => whnf
        exact t110 ⟨g0, g1, g2, q⟩
      · unfold bgf at q2
        rw [if_pos rfl] at q2
        cases q2
      · rw [if_neg (by unfold bgl; rw [g0, g1, g2, q]; exact (show ¬ true = false by decide)), if_neg (by rw [g0]; decide), if_neg (fun z => by have := hZ z; omega), if_neg (by rw [g1]; decide), if_neg (by rw [g2]; decide), if_pos q] at hE
        unfold lnCanon at hE
        rw [if_pos hl] at hE
        unfold bgf
        rw [if_pos rfl]
        conv => whnf
        refine b2' (by decide) ?_
        conv => whnf
        refine y_canonLine_f (d := d) flR_n ?_
        conv => whnf
        exact hE _ rfl _ (FE_fl sQ.rf)
    · refine Wf.gc tkX7_readLine [110] ?_
      conv => whnf
      refine ⟨5, ⟨rfl, by decide, show 5 < 202 by decide⟩, ?_⟩
      conv => whnf
      refine b2' (by show ¬ (5 : Int32) ≤ I 154 5; rw [hf.1 5 (by decide) (by decide), show (5 : Int32) = nI 5 from rfl, nI_leI (by decide) (by have := BF 5; omega)]; exact hl) ?_
      conv => whnf
      refine y_begins (F := F) (wd := 5024) (i := 3) (cn := true) (d := d + 3) (by decide) (by decide) hr he hc h0 hf BF (fun q => ?_) (fun q q2 I1 hs1 hc1 => ?_) (fun q q2 => ?_)
      · conv => whnf
        refine b1' rfl ?_
        conv => whnf
        exact t110 ⟨g0, g1, g2, q⟩
      · have z9 : ¬ F 0 = 0 := fun z => by unfold bgf at q2; rw [if_neg (by decide), if_pos (h9.mpr z)] at q2; cases q2
        rw [if_neg (by unfold bgl; rw [g0, g1, g2, q]; exact (show ¬ true = false by decide)), if_neg (by rw [g0]; decide), if_neg z9, if_neg (by rw [g1]; decide), if_neg (by rw [g2]; decide), if_pos q] at hE hO
        conv => whnf
        refine b2' (by decide) ?_
        conv => whnf
        refine y_canonLine (d := d) hB hl (sf1 I1 hs1 hc1) he (fun er q3 I2 fe => ?_) (fun P' q3 I2 sq sf => ?_)
        · conv => whnf
          exact hE er q3 I2 (FE_tr hs1.sQ fe)
        · conv => whnf
          exact hO P' q3 I2 (hs1.sQ.tr sq) sf
      · have z9 : F 0 = 0 := Classical.byContradiction (fun z => q2 (by unfold bgf; rw [if_neg (by decide), if_neg (fun y => z (h9.mp y)), if_neg (fun y => by have := y.2; rw [g1] at this; cases this)]))
        have eb : bgf b n F e true = 6 := by unfold bgf; rw [if_neg (by decide), if_pos (h9.mpr z9)]
        rw [if_neg (by unfold bgl; rw [g0, g1, g2, q]; exact (show ¬ true = false by decide)), if_neg (by rw [g0]; decide), if_pos z9] at hE
        rw [eb]
        conv => whnf
        refine b2' (by decide) ?_
        conv => whnf
        refine y_canonLine_f (d := d) flR_n ?_
        conv => whnf
        exact hE _ rfl _ (FE_fl sQ.rf)
  have t47 : (isW b n 0 e = false ∧ isW b n 1 e = false) → Wf l X uX7_readLine (d + 10) true (mC (mk w p r I L) + 0, mS (mk w p r I L) + 0) 47 [(0, .ref 150)] [] (mk w p r I L) kr := by
    rintro ⟨g0, g1⟩
    by_cases hl : 6 ≤ F 4
    · refine Wf.gc tkX7_readLine [79] ?_
      conv => whnf
      refine ⟨4, ⟨rfl, by decide, show 4 < 202 by decide⟩, ?_⟩
      conv => whnf
      refine b1' (by show (6 : Int32) ≤ I 154 4; rw [hf.1 4 (by decide) (by decide), show (6 : Int32) = nI 6 from rfl, nI_leI (by decide) (by have := BF 4; omega)]; exact hl) ?_
      conv => whnf
      refine y_begins (F := F) (wd := 5023) (i := 2) (cn := false) (d := d + 3) (by decide) (by decide) hr he hc h0 hf BF (fun q => ?_) (fun q q2 I1 hs1 hc1 => ?_) (fun q q2 => ?_)
      · conv => whnf
        refine b1' rfl ?_
        conv => whnf
        exact t79 ⟨g0, g1, q⟩
      · unfold bgf at q2
        rw [if_pos rfl] at q2
        cases q2
      · rw [if_neg (by unfold bgl; rw [g0, g1, q]; exact (show ¬ true = false by decide)), if_neg (by rw [g0]; decide), if_neg (fun z => by have := hZ z; omega), if_neg (by rw [g1]; decide), if_pos q] at hE
        unfold lnFace at hE
        rw [if_pos hl] at hE
        unfold bgf
        rw [if_pos rfl]
        conv => whnf
        refine b2' (by decide) ?_
        conv => whnf
        refine y_faceLine_f (d := d) flR_n ?_
        conv => whnf
        exact hE _ rfl _ (FE_fl sQ.rf)
    · refine Wf.gc tkX7_readLine [79] ?_
      conv => whnf
      refine ⟨4, ⟨rfl, by decide, show 4 < 202 by decide⟩, ?_⟩
      conv => whnf
      refine b2' (by show ¬ (6 : Int32) ≤ I 154 4; rw [hf.1 4 (by decide) (by decide), show (6 : Int32) = nI 6 from rfl, nI_leI (by decide) (by have := BF 4; omega)]; exact hl) ?_
      conv => whnf
      refine y_begins (F := F) (wd := 5023) (i := 2) (cn := true) (d := d + 3) (by decide) (by decide) hr he hc h0 hf BF (fun q => ?_) (fun q q2 I1 hs1 hc1 => ?_) (fun q q2 => ?_)
      · conv => whnf
        refine b1' rfl ?_
        conv => whnf
        exact t79 ⟨g0, g1, q⟩
      · have z9 : ¬ F 0 = 0 := fun z => by unfold bgf at q2; rw [if_neg (by decide), if_pos (h9.mpr z)] at q2; cases q2
        rw [if_neg (by unfold bgl; rw [g0, g1, q]; exact (show ¬ true = false by decide)), if_neg (by rw [g0]; decide), if_neg z9, if_neg (by rw [g1]; decide), if_pos q] at hE hO
        conv => whnf
        refine b2' (by decide) ?_
        conv => whnf
        refine y_faceLine (d := d) hB (by omega) hl (sf1 I1 hs1 hc1) he (fun er q3 I2 fe => ?_) (fun P' q3 I2 sq sf => ?_)
        · conv => whnf
          exact hE er q3 I2 (FE_tr hs1.sQ fe)
        · conv => whnf
          exact hO P' q3 I2 (hs1.sQ.tr sq) sf
      · have z9 : F 0 = 0 := Classical.byContradiction (fun z => q2 (by unfold bgf; rw [if_neg (by decide), if_neg (fun y => z (h9.mp y)), if_neg (fun y => by have := y.2; rw [g1] at this; cases this)]))
        have eb : bgf b n F e true = 6 := by unfold bgf; rw [if_neg (by decide), if_pos (h9.mpr z9)]
        rw [if_neg (by unfold bgl; rw [g0, g1, q]; exact (show ¬ true = false by decide)), if_neg (by rw [g0]; decide), if_pos z9] at hE
        rw [eb]
        conv => whnf
        refine b2' (by decide) ?_
        conv => whnf
        refine y_faceLine_f (d := d) flR_n ?_
        conv => whnf
        exact hE _ rfl _ (FE_fl sQ.rf)
  have t16 : (isW b n 0 e = false) → Wf l X uX7_readLine (d + 10) true (mC (mk w p r I L) + 0, mS (mk w p r I L) + 0) 16 [(0, .ref 150)] [] (mk w p r I L) kr := by
    rintro g0
    by_cases hl : 5 ≤ F 3
    · refine Wf.gc tkX7_readLine [47] ?_
      conv => whnf
      refine ⟨3, ⟨rfl, by decide, show 3 < 202 by decide⟩, ?_⟩
      conv => whnf
      refine b1' (by show (5 : Int32) ≤ I 154 3; rw [hf.1 3 (by decide) (by decide), show (5 : Int32) = nI 5 from rfl, nI_leI (by decide) (by have := BF 3; omega)]; exact hl) ?_
      conv => whnf
      refine y_begins (F := F) (wd := 5022) (i := 1) (cn := false) (d := d + 3) (by decide) (by decide) hr he hc h0 hf BF (fun q => ?_) (fun q q2 I1 hs1 hc1 => ?_) (fun q q2 => ?_)
      · conv => whnf
        refine b1' rfl ?_
        conv => whnf
        exact t47 ⟨g0, q⟩
      · unfold bgf at q2
        rw [if_pos rfl] at q2
        cases q2
      · rw [if_neg (by unfold bgl; rw [g0, q]; exact (show ¬ true = false by decide)), if_neg (by rw [g0]; decide), if_neg (fun z => by have := hZ z; omega), if_pos q] at hE
        unfold lnWall at hE
        rw [if_pos hl] at hE
        unfold bgf
        rw [if_pos rfl]
        conv => whnf
        refine b2' (by decide) ?_
        conv => whnf
        refine y_wallLine_f (d := d + 5) flR_n ?_
        conv => whnf
        exact hE _ rfl _ (FE_fl sQ.rf)
    · refine Wf.gc tkX7_readLine [47] ?_
      conv => whnf
      refine ⟨3, ⟨rfl, by decide, show 3 < 202 by decide⟩, ?_⟩
      conv => whnf
      refine b2' (by show ¬ (5 : Int32) ≤ I 154 3; rw [hf.1 3 (by decide) (by decide), show (5 : Int32) = nI 5 from rfl, nI_leI (by decide) (by have := BF 3; omega)]; exact hl) ?_
      conv => whnf
      refine y_begins (F := F) (wd := 5022) (i := 1) (cn := true) (d := d + 3) (by decide) (by decide) hr he hc h0 hf BF (fun q => ?_) (fun q q2 I1 hs1 hc1 => ?_) (fun q q2 => ?_)
      · conv => whnf
        refine b1' rfl ?_
        conv => whnf
        exact t47 ⟨g0, q⟩
      · have z9 : ¬ F 0 = 0 := fun z => by unfold bgf at q2; rw [if_neg (by decide), if_pos (h9.mpr z)] at q2; cases q2
        have z6 : ¬ 0 < F 6 := fun z => by unfold bgf at q2; rw [if_neg (by decide), if_neg (fun y => z9 (h9.mp y)), if_pos ⟨z, q⟩] at q2; cases q2
        rw [if_neg (by unfold bgl; rw [g0, q]; exact (show ¬ true = false by decide)), if_neg (by rw [g0]; decide), if_neg z9, if_pos q] at hE hO
        conv => whnf
        refine b2' (by decide) ?_
        conv => whnf
        refine y_wallLine (d := d + 5) hB (by omega) hl z6 (sf1 I1 hs1 hc1) he (fun er q3 I2 fe => ?_) (fun P' q3 I2 sq sf => ?_)
        · conv => whnf
          exact hE er q3 I2 (FE_tr hs1.sQ fe)
        · conv => whnf
          exact hO P' q3 I2 (hs1.sQ.tr sq) sf
      · by_cases z9 : F 0 = 0
        · have eb : bgf b n F e true = 6 := by unfold bgf; rw [if_neg (by decide), if_pos (h9.mpr z9)]
          rw [if_neg (by unfold bgl; rw [g0, q]; exact (show ¬ true = false by decide)), if_neg (by rw [g0]; decide), if_pos z9] at hE
          rw [eb]
          conv => whnf
          refine b2' (by decide) ?_
          conv => whnf
          refine y_wallLine_f (d := d + 5) flR_n ?_
          conv => whnf
          exact hE _ rfl _ (FE_fl sQ.rf)
        · have z6 : 0 < F 6 := Nat.pos_of_ne_zero (fun z => q2 (by unfold bgf; rw [if_neg (by decide), if_neg (fun y => z9 (h9.mp y)), if_neg (fun y => by have := y.1; omega)]))
          have eb : bgf b n F e true = 7 := by unfold bgf; rw [if_neg (by decide), if_neg (fun y => z9 (h9.mp y)), if_pos ⟨z6, q⟩]
          rw [if_neg (by unfold bgl; rw [g0, q]; exact (show ¬ true = false by decide)), if_neg (by rw [g0]; decide), if_neg z9, if_pos q] at hE
          unfold lnWall at hE
          rw [if_neg hl, if_pos z6] at hE
          rw [eb]
          conv => whnf
          refine b2' (by decide) ?_
          conv => whnf
          refine y_wallLine_f (d := d + 5) flR_n ?_
          conv => whnf
          exact hE _ rfl _ (FE_fl sQ.rf)
  refine Ev.of (by decide) (Nat.le_of_ble_eq_true rfl) ?_
  refine Wf.gc tkX7_readLine [16] ?_
  conv => whnf
  refine y_isWord (wd := 5021) (d := d + 4) hr he hc h0 (by decide) ?_
  rw [show isW b n (5021 - 5000) e = isW b n 0 e from wd21 (wd := 5021) (i := 0) (by decide)]
  cases g0 : isW b n 0 e with
  | true =>
    rw [if_neg (by unfold bgl; rw [g0]; exact (show ¬ true = false by decide)), if_pos g0] at hE hO
    conv => whnf
    refine b2' (by decide) ?_
    conv => whnf
    refine y_closeLine (d := d) hB hS (fun er q3 I2 fe => ?_) (fun P' q3 I2 sq sf => ?_)
    · conv => whnf
      exact hE er q3 I2 fe
    · conv => whnf
      exact hO P' q3 I2 sq sf
  | false =>
    conv => whnf
    refine b1' rfl ?_
    conv => whnf
    exact t16 g0
end RL6
end
section
/-! the reference's lines, one behind another -/
section RL7
variable {l : Launch} {X : Nat × (Nat → Int32)} {d : Nat} {w : Nat × Nat} {p r : Nat} {I : Nat → Nat → Int32} {L : Nat → Nat → Int64} {kr : KR} {b : Nat → Nat} {n e : Nat} {nm : List Nm} {F : Nat → Nat} {W : Int32}
theorem y_no {v : Int32} (h : kr (some (.int (-1))) (mk w p r (u2 I 150 11 v) L)) : Ev l X uX7_no d true 0 0 [.ref 150, .int v] (mk w p r I L) kr := by
  refine Ev.of (by decide) (Nat.le_of_ble_eq_true rfl) ?_
  refine Wf.gc tkX7_no [] ?_
  conv => whnf
  exact h
theorem ln_pos {P' : Ps} (h : ln b n F W nm e = .inr P') : 0 < P'.1 0 := by
  unfold ln at h
  by_cases c0 : bgl b n e = false
  · rw [if_pos c0] at h; cases h
  rw [if_neg c0] at h
  by_cases c1 : isW b n 0 e = true
  · rw [if_pos c1] at h
    by_cases c2 : 0 < F 0
    · rw [if_pos c2] at h; cases h
    rw [if_neg c2] at h
    unfold lnClose at h
    by_cases c3 : (lab b n 7 2 5 (tn b n 1 e)).1 ≠ 0
    · rw [if_pos c3] at h; cases h
    rw [if_neg c3] at h
    have := (lab_v c3).1
    split at h
    · cases h
    split at h
    · cases h
    cases h
    show 0 < tvl b n (tn b n 2 e)
    have this : 2 ≤ tvl b n (tn b n 2 e) := this
    omega
  rw [if_neg c1] at h
  by_cases c2 : F 0 = 0
  · rw [if_pos c2] at h; cases h
  rw [if_neg c2] at h
  have pos : 0 < F 0 := Nat.pos_of_ne_zero c2
  split at h
  · unfold lnWall at h
    split at h
    · cases h
    split at h
    · cases h
    split at h
    · cases h
    split at h
    · cases h
    cases h
    exact pos
  split at h
  · unfold lnFace at h
    split at h
    · cases h
    split at h
    · cases h
    split at h
    · cases h
    split at h
    · cases h
    split at h
    · cases h
    split at h
    · cases h
    split at h
    · cases h
    cases h
    show 0 < uF _ _ _ 0
    rw [uF_o (by omega), uF_o (by omega), uF_o (by omega), uF_o (by omega)]
    exact pos
  split at h
  · unfold lnCanon at h
    split at h
    · cases h
    split at h
    · cases h
    split at h
    · cases h
    split at h
    · cases h
    split at h
    · cases h
    split at h
    · cases h
    cases h
    show 0 < uF _ _ _ 0
    rw [uF_o (by omega), uF_o (by omega), uF_o (by omega)]
    exact pos
  split at h
  · unfold lnWalker at h
    split at h
    · cases h
    split at h
    · cases h
    split at h
    · cases h
    split at h
    · cases h
    split at h
    · cases h
    split at h
    · cases h
    cases h
    show 0 < uF _ _ _ 0
    rw [uF_o (by omega), uF_o (by omega)]
    exact pos
  split at h
  · unfold lnUnsure at h
    split at h
    · cases h
    split at h
    · cases h
    split at h
    · cases h
    split at h
    · cases h
    cases h
    show 0 < uF _ _ _ 0
    rw [uF_o (by omega), uF_o (by omega)]
    exact pos
  · unfold lnDropped at h
    split at h
    · cases h
    split at h
    · cases h
    split at h
    · cases h
    cases h
    show 0 < uF _ _ _ 0
    rw [uF_o (by omega)]
    exact pos
set_option maxRecDepth 20000 in
theorem cz_184 {a1 a2 : Int32} {bs : Nat × Nat} {J : Nat → Nat → Int32} (hJ : ¬ J 150 13 = 0) (q : kr (some (.int (-1))) (mk w p r (u2 J 150 11 4) L)) : Wf l X uX7_close (d + 11) true bs 184 [(0, .ref 150), (1, .int a1), (2, .int a2)] [] (mk w p r J L) kr := by
  refine Wf.gc tkX7_close [] ?_
  conv => whnf
  refine b2' hJ ?_
  conv => whnf
  refine y_no ?_
  conv => whnf
  exact q
set_option maxRecDepth 20000 in
theorem cz_148 {a1 a2 : Int32} {bs : Nat × Nat} {J : Nat → Nat → Int32} (hJ : ¬ J 150 13 = 0) (q : kr (some (.int (-1))) (mk w p r (u2 J 150 11 4) L)) : Wf l X uX7_close (d + 11) true bs 148 [(0, .ref 150), (1, .int a1), (2, .int a2)] [] (mk w p r J L) kr := by
  refine Wf.gc tkX7_close [184] ?_
  conv => whnf
  refine b1 hJ ?_
  conv => whnf
  exact cz_184 hJ q
set_option maxRecDepth 20000 in
theorem cz_98 {a1 a2 : Int32} {bs : Nat × Nat} {J : Nat → Nat → Int32} (hJ : ¬ J 150 13 = 0) (q : kr (some (.int (-1))) (mk w p r (u2 J 150 11 4) L)) : Wf l X uX7_close (d + 11) true bs 98 [(0, .ref 150), (1, .int a1), (2, .int a2)] [] (mk w p r J L) kr := by
  refine Wf.gc tkX7_close [125] ?_
  conv => whnf
  refine b1 hJ ?_
  conv => whnf
  show Wf l X uX7_close (d + 11) true bs 125 [(0, .ref 150), (1, .int a1), (2, .int a2)] [] (mk w p r J L) kr
  refine Wf.gc tkX7_close [148] ?_
  conv => whnf
  refine b1 hJ ?_
  conv => whnf
  exact cz_148 hJ q
/-- what follows a line -/
noncomputable def aft (b : Nat → Nat) (n f : Nat) (P' : Ps) : Rs := if tso b n P'.2.2.2 = 0 then (if 0 < P'.1 4 then .inr P' else .inl (6, tst b n P'.2.2.2)) else if tso b n P'.2.2.2 = 3 then rdT b n f (P'.1, P'.2.1, P'.2.2.1, tsp b n P'.2.2.2) else .inl (1, tst b n P'.2.2.2)
theorem SF_u {P : Ps} {I' : Nat → Nat → Int32} {e' : Nat} (h : SF b n P I) (hs : sN I I') (he : e' ≤ n) (hc : TR b n e' I') : SF b n (P.1, P.2.1, P.2.2.1, e') I' := by
  obtain ⟨hr, -, -, h0, hf, hn, hi, hu, hk, h9⟩ := h
  exact ⟨RX_sN hr hs, he, hc, (sN13 hs).trans h0, FR_sN hf hs, RN_sN hn hs, hi, hu, hk, h9⟩
set_option maxHeartbeats 4000000 in
set_option maxRecDepth 20000 in
theorem y_cl98 {R : Rs} {J0 : Nat → Nat → Int32} {a1 a2 : Int32} {bs : Nat × Nat} (hE : ∀ er, R = .inl er → ∀ I', FE J0 er I' → kr (some (.int (-1))) (mk w p r (u2 I' 150 11 4) L)) (hO : ∀ P', R = .inr P' → ∀ I', sQ J0 I' → SF b n P' I' → 0 < P'.1 4 → B3 P' → Wf l X uX7_close (d + 11) true bs 197 [(0, .ref 150), (1, .int a1), (2, .int a2)] [] (mk w p r I' L) kr) : ∀ f, ∀ (P : Ps) (I : Nat → Nat → Int32), aft b n f P = R → n + 1 ≤ f + P.2.2.2 → B3 P → 0 < P.1 0 → SF b n P I → sQ J0 I → Wf l X uX7_close (d + 11) true bs 98 [(0, .ref 150), (1, .int a1), (2, .int a2)] [] (mk w p r I L) kr := by
  intro f
  induction f with
  | zero =>
    intro P I _ hn _ _ hS _
    exact absurd hS.2.1 (by omega)
  | succ f ih =>
    intro P I hR hn hB hp hS hq
    obtain ⟨hr, he, hc, h0, hf, -, -, -, -, h9⟩ := id hS
    have s5 := tso_5 (b := b) (n := n) (e := P.2.2.2)
    have BF := hB.1.1.2.1
    have eJ : ∀ (k : Nat) (v : Int32), v = nI k → u2 (u2 (u2 I 150 13 1) 150 9 v) 150 10 (I 150 4) = flR I k (tst b n P.2.2.2) := fun k v hv => by unfold flR; rw [← hc.2.1, hv]
    unfold aft at hR
    by_cases c3 : tso b n P.2.2.2 = 3
    · rw [if_neg (by omega), if_pos c3] at hR
      unfold rdT at hR
      dsimp only at hR
      have hsp := tsp_b (b := b) he
      have hgt := tsp_gt (b := b) he (by omega)
      refine Wf.gc tkX7_close [98] ?_
      conv => whnf
      refine b2 (fun z => z h0) ?_
      conv => whnf
      refine b2 (by show ¬ ¬ I 150 6 = 59; rw [hc.1, c3]; exact fun z => z rfl) ?_
      conv => whnf
      refine y_next (d := d + 8) (e := tsp b n P.2.2.2) hr hsp.2 hc.2.2.1 (fun I1 hs1 hc1 => ?_)
      have hS1 := SF_u hS hs1 hsp.2 hc1
      conv => whnf
      have hB1 : B3 (P.1, P.2.1, P.2.2.1, tsp b n P.2.2.2) := hB
      refine y_readLine (d := d) hB.1.1 (fun z => by omega) hS1 (fun er hl I2 fe => ?_) (fun P2 hl I2 sq sf => ?_)
      · rw [hl] at hR
        conv => whnf
        have fe2 := FE_tr (hq.tr hs1.sQ) fe
        exact cz_98 (FE_0 fe2) (hE er hR.symm I2 fe2)
      · rw [hl] at hR
        obtain ⟨hB2, he2, hg2⟩ := B3_ln hB1 hsp.2 hl
        conv => whnf
        exact ih P2 I2 hR (by omega) hB2 (ln_pos hl) sf ((hq.tr hs1.sQ).tr sq)
    · rw [if_neg c3] at hR
      refine Wf.gc tkX7_close [125] ?_
      conv => whnf
      refine b2 (fun z => z h0) ?_
      conv => whnf
      refine b1 (by
        show ¬ I 150 6 = 59
        rw [hc.1]
        rcases (show tso b n P.2.2.2 = 0 ∨ tso b n P.2.2.2 = 1 ∨ tso b n P.2.2.2 = 2 ∨ tso b n P.2.2.2 = 4 by omega) with z | z | z | z
        · rw [z]; decide
        · rw [z]; decide
        · rw [z]; decide
        · rw [z]; decide) ?_
      conv => whnf
      show Wf l X uX7_close (d + 11) true bs 125 [(0, .ref 150), (1, .int a1), (2, .int a2)] [] (mk w p r I L) kr
      by_cases c0 : tso b n P.2.2.2 = 0
      · rw [if_pos c0] at hR
        refine Wf.gc tkX7_close [148] ?_
        conv => whnf
        refine b2 (fun z => z h0) ?_
        conv => whnf
        refine b1' (by show I 150 6 = 0; rw [hc.1, c0]; rfl) ?_
        conv => whnf
        show Wf l X uX7_close (d + 11) true bs 148 [(0, .ref 150), (1, .int a1), (2, .int a2)] [] (mk w p r I L) kr
        refine Wf.gc tkX7_close [184] ?_
        conv => whnf
        refine b2 (fun z => z h0) ?_
        conv => whnf
        refine ⟨9, ⟨rfl, by decide, show 9 < 202 by decide⟩, ?_⟩
        conv => whnf
        refine b2' (by show ¬ I 154 9 = 0; rw [hf.1 9 (by decide) (by decide), show (0 : Int32) = nI 0 from rfl, nI_eq (by have := BF 9; omega) (by decide)]; omega) ?_
        conv => whnf
        refine ⟨4, ⟨rfl, by decide, show 4 < 202 by decide⟩, ?_⟩
        conv => whnf
        by_cases c4 : 0 < P.1 4
        · rw [if_pos c4] at hR
          refine b1 (by show ¬ I 154 4 = 0; rw [hf.1 4 (by decide) (by decide), show (0 : Int32) = nI 0 from rfl, nI_eq (by have := BF 4; omega) (by decide)]; omega) ?_
          conv => whnf
          show Wf l X uX7_close (d + 11) true bs 184 [(0, .ref 150), (1, .int a1), (2, .int a2)] [] (mk w p r I L) kr
          have fin := hO P hR.symm I hq hS c4 hB
          refine Wf.gc tkX7_close [197] ?_
          conv => whnf
          refine b1' h0 ?_
          conv => whnf
          exact fin
        · rw [if_neg c4] at hR
          refine b2 (by show ¬ ¬ I 154 4 = 0; rw [hf.1 4 (by decide) (by decide), show (0 : Int32) = nI 0 from rfl, nI_eq (by have := BF 4; omega) (by decide)]; omega) ?_
          conv => whnf
          refine y_wrong0 h0 ?_
          conv => whnf
          show Wf l X uX7_close (d + 11) true bs 184 [(0, .ref 150), (1, .int a1), (2, .int a2)] [] (mk w p r (u2 (u2 (u2 I 150 13 1) 150 9 6) 150 10 (I 150 4)) L) kr
          rw [eJ 6 6 rfl]
          exact cz_184 flR_n (hE _ hR.symm _ (FE_fl hq))
      · rw [if_neg c0] at hR
        refine Wf.gc tkX7_close [148] ?_
        conv => whnf
        refine b2 (fun z => z h0) ?_
        conv => whnf
        refine b2' (by
          show ¬ I 150 6 = 0
          rw [hc.1]
          rcases (show tso b n P.2.2.2 = 1 ∨ tso b n P.2.2.2 = 2 ∨ tso b n P.2.2.2 = 4 by omega) with z | z | z
          · rw [z]; decide
          · rw [z]; decide
          · rw [z]; decide) ?_
        conv => whnf
        refine y_wrong0 h0 ?_
        conv => whnf
        show Wf l X uX7_close (d + 11) true bs 148 [(0, .ref 150), (1, .int a1), (2, .int a2)] [] (mk w p r (u2 (u2 (u2 I 150 13 1) 150 9 1) 150 10 (I 150 4)) L) kr
        rw [eJ 1 1 rfl]
        exact cz_148 flR_n (hE _ hR.symm _ (FE_fl hq))
end RL7
end
section
/-! the reference's copies -/
section RL8
variable {l : Launch} {X : Nat × (Nat → Int32)} {d : Nat} {w : Nat × Nat} {p r : Nat} {I : Nat → Nat → Int32} {L : Nat → Nat → Int64} {kr : KR} {b : Nat → Nat} {n e : Nat} {nm : List Nm} {F : Nat → Nat} {W : Int32}
theorem y_good (h : kr none (mk w p r (u2 (u2 I 150 0 0) 150 11 0) L)) : Ev l X uX7_good d true 0 0 [.ref 150] (mk w p r I L) kr := by
  refine Ev.of (by decide) (Nat.le_of_ble_eq_true rfl) ?_
  refine Wf.gc tkX7_good [] ?_
  conv => whnf
  exact h
set_option maxHeartbeats 2000000 in
set_option maxRecDepth 20000 in
theorem y_copy3 (h : ∀ K : Nat → Nat → Int32, (∀ x i, ¬ (x = 153 ∧ i < 202) → K x i = I x i) → (∀ i, i < 202 → K 153 i = I 154 i) → kr none (mk w p r K L)) : Ev l X uX7_copy d true 0 0 [.ref 154, .int 0, .ref 153, .int 0, .int 202] (mk w p r I L) kr := by
  refine Ev.of (by decide) (Nat.le_of_ble_eq_true rfl) ?_
  refine Wf.gc tkX7_copy [3] ?_
  conv => whnf
  have loop := down (fun j => ∀ K : Nat → Nat → Int32, (∀ x i, ¬ (x = 153 ∧ i < 202) → K x i = I x i) → (∀ i, i < j → K 153 i = I 154 i) → Wf l X uX7_copy d true (mC (mk w p r I L) + 0, mS (mk w p r I L) + 0) 3 [(0, .ref 154), (1, .int 0), (2, .ref 153), (3, .int 0), (4, .int 202), (5, .int (nI j))] [] (mk w p r K L) kr) 202 ?_ ?_ 0 (Nat.zero_le _)
  · exact loop I (fun _ _ _ => rfl) (fun i hi => absurd hi (Nat.not_lt_zero _))
  · intro K k1 k2
    refine Wf.gc tkX7_copy [] ?_
    conv => whnf
    refine b1' (by decide) ?_
    conv => whnf
    exact h K k1 k2
  · intro j hj ih K k1 k2
    have ih := ih (u2 K 153 j (K 154 j)) (fun x i z => by rw [u2_o (by omega)]; exact k1 x i z) (fun i hi => by
      rcases Nat.lt_or_ge i j with z | z
      · rw [u2_o (by omega)]; exact k2 i z
      · have : i = j := by omega
        subst this
        rw [u2_s]; exact k1 154 i (by omega))
    rw [← nI_1] at ih
    refine Wf.gc tkX7_copy [3] ?_
    conv => whnf
    refine b2' (by show ¬ (202 : Int32) ≤ nI j; rw [show (202 : Int32) = nI 202 from rfl]; exact nI_ge hj (by decide)) ?_
    conv => whnf
    refine ⟨j, ⟨by show (0 + nI j : Int32) = nI j; exact Int32.zero_add _, by omega, show j < 202 by omega⟩, ?_⟩
    conv => whnf
    refine ⟨j, ⟨by show (0 + nI j : Int32) = nI j; exact Int32.zero_add _, by omega, show j < 202 by omega⟩, ?_⟩
    conv => whnf
    exact ih
set_option maxHeartbeats 2000000 in
set_option maxRecDepth 20000 in
theorem y_copy5 (h : ∀ K : Nat → Nat → Int32, (∀ x i, ¬ (x = 155 ∧ i < 25) → K x i = I x i) → (∀ i, i < 25 → K 155 i = I 156 i) → kr none (mk w p r K L)) : Ev l X uX7_copy d true 0 0 [.ref 156, .int 0, .ref 155, .int 0, .int 25] (mk w p r I L) kr := by
  refine Ev.of (by decide) (Nat.le_of_ble_eq_true rfl) ?_
  refine Wf.gc tkX7_copy [3] ?_
  conv => whnf
  have loop := down (fun j => ∀ K : Nat → Nat → Int32, (∀ x i, ¬ (x = 155 ∧ i < 25) → K x i = I x i) → (∀ i, i < j → K 155 i = I 156 i) → Wf l X uX7_copy d true (mC (mk w p r I L) + 0, mS (mk w p r I L) + 0) 3 [(0, .ref 156), (1, .int 0), (2, .ref 155), (3, .int 0), (4, .int 25), (5, .int (nI j))] [] (mk w p r K L) kr) 25 ?_ ?_ 0 (Nat.zero_le _)
  · exact loop I (fun _ _ _ => rfl) (fun i hi => absurd hi (Nat.not_lt_zero _))
  · intro K k1 k2
    refine Wf.gc tkX7_copy [] ?_
    conv => whnf
    refine b1' (by decide) ?_
    conv => whnf
    exact h K k1 k2
  · intro j hj ih K k1 k2
    have ih := ih (u2 K 155 j (K 156 j)) (fun x i z => by rw [u2_o (by omega)]; exact k1 x i z) (fun i hi => by
      rcases Nat.lt_or_ge i j with z | z
      · rw [u2_o (by omega)]; exact k2 i z
      · have : i = j := by omega
        subst this
        rw [u2_s]; exact k1 156 i (by omega))
    rw [← nI_1] at ih
    refine Wf.gc tkX7_copy [3] ?_
    conv => whnf
    refine b2' (by show ¬ (25 : Int32) ≤ nI j; rw [show (25 : Int32) = nI 25 from rfl]; exact nI_ge hj (by decide)) ?_
    conv => whnf
    refine ⟨j, ⟨by show (0 + nI j : Int32) = nI j; exact Int32.zero_add _, by omega, show j < 25 by omega⟩, ?_⟩
    conv => whnf
    refine ⟨j, ⟨by show (0 + nI j : Int32) = nI j; exact Int32.zero_add _, by omega, show j < 25 by omega⟩, ?_⟩
    conv => whnf
    exact ih
set_option maxHeartbeats 2000000 in
set_option maxRecDepth 20000 in
theorem y_copy7 (h : ∀ K : Nat → Nat → Int32, (∀ x i, ¬ (x = 157 ∧ i < 25) → K x i = I x i) → (∀ i, i < 25 → K 157 i = I 156 i) → kr none (mk w p r K L)) : Ev l X uX7_copy d true 0 0 [.ref 156, .int 0, .ref 157, .int 0, .int 25] (mk w p r I L) kr := by
  refine Ev.of (by decide) (Nat.le_of_ble_eq_true rfl) ?_
  refine Wf.gc tkX7_copy [3] ?_
  conv => whnf
  have loop := down (fun j => ∀ K : Nat → Nat → Int32, (∀ x i, ¬ (x = 157 ∧ i < 25) → K x i = I x i) → (∀ i, i < j → K 157 i = I 156 i) → Wf l X uX7_copy d true (mC (mk w p r I L) + 0, mS (mk w p r I L) + 0) 3 [(0, .ref 156), (1, .int 0), (2, .ref 157), (3, .int 0), (4, .int 25), (5, .int (nI j))] [] (mk w p r K L) kr) 25 ?_ ?_ 0 (Nat.zero_le _)
  · exact loop I (fun _ _ _ => rfl) (fun i hi => absurd hi (Nat.not_lt_zero _))
  · intro K k1 k2
    refine Wf.gc tkX7_copy [] ?_
    conv => whnf
    refine b1' (by decide) ?_
    conv => whnf
    exact h K k1 k2
  · intro j hj ih K k1 k2
    have ih := ih (u2 K 157 j (K 156 j)) (fun x i z => by rw [u2_o (by omega)]; exact k1 x i z) (fun i hi => by
      rcases Nat.lt_or_ge i j with z | z
      · rw [u2_o (by omega)]; exact k2 i z
      · have : i = j := by omega
        subst this
        rw [u2_s]; exact k1 156 i (by omega))
    rw [← nI_1] at ih
    refine Wf.gc tkX7_copy [3] ?_
    conv => whnf
    refine b2' (by show ¬ (25 : Int32) ≤ nI j; rw [show (25 : Int32) = nI 25 from rfl]; exact nI_ge hj (by decide)) ?_
    conv => whnf
    refine ⟨j, ⟨by show (0 + nI j : Int32) = nI j; exact Int32.zero_add _, by omega, show j < 25 by omega⟩, ?_⟩
    conv => whnf
    refine ⟨j, ⟨by show (0 + nI j : Int32) = nI j; exact Int32.zero_add _, by omega, show j < 25 by omega⟩, ?_⟩
    conv => whnf
    exact ih
end RL8
end
section
/-! the reference's close -/
section RL9
variable {l : Launch} {X : Nat × (Nat → Int32)} {d : Nat} {w : Nat × Nat} {p r : Nat} {I : Nat → Nat → Int32} {L : Nat → Nat → Int64} {kr : KR} {b : Nat → Nat} {n e : Nat} {nm : List Nm} {F : Nat → Nat} {W : Int32}
theorem SF_cg {P : Ps} {I' : Nat → Nat → Int32} (h : SF b n P I) (ho : ∀ a i, a ≠ 153 → a ≠ 155 → a ≠ 157 → ¬ (a = 150 ∧ 14 ≤ i) → I' a i = I a i) : SF b n P I' := by
  obtain ⟨hr, he, hc, h0, hf, hn, hi, hu, hk, h9⟩ := h
  have sn : sN I I' → RX b n I' := fun q => RX_sN hr q
  refine ⟨⟨hr.1, by rw [ho 150 3 (by decide) (by decide) (by decide) (by omega)]; exact hr.2.1, fun i hi => ⟨(hr.2.2 i hi).1, by rw [ho 151 i (by decide) (by decide) (by decide) (by omega)]; exact (hr.2.2 i hi).2⟩⟩, he, ⟨by rw [ho 150 6 (by decide) (by decide) (by decide) (by omega)]; exact hc.1, by rw [ho 150 4 (by decide) (by decide) (by decide) (by omega)]; exact hc.2.1, by rw [ho 150 5 (by decide) (by decide) (by decide) (by omega)]; exact hc.2.2.1, fun q => by rw [ho 150 7 (by decide) (by decide) (by decide) (by omega)]; exact hc.2.2.2.1 q, fun q => ⟨by rw [ho 150 8 (by decide) (by decide) (by decide) (by omega)]; exact (hc.2.2.2.2 q).1, fun k hk => by rw [ho 152 k (by decide) (by decide) (by decide) (by omega)]; exact (hc.2.2.2.2 q).2 k hk⟩⟩, by rw [ho 150 13 (by decide) (by decide) (by decide) (by omega)]; exact h0, FR_cg hf (fun k _ => ho 154 k (by decide) (by decide) (by decide) (by omega)) (fun k => ho 156 k (by decide) (by decide) (by decide) (by omega)), RN_cg hn (fun i _ => ho 154 i (by decide) (by decide) (by decide) (by omega)), hi, hu, hk, h9⟩
set_option maxRecDepth 20000 in
theorem y_close2 {v : Int32} (hN : ¬ (0 ≤ v ∧ v ≤ I 150 2)) (h : kr (some (.int (-1))) (mk w p r (u2 (u2 (u2 I 150 0 0) 150 11 0) 150 11 2) L)) : Ev l X uX7_close (d + 11) true 0 0 [.ref 150, .int v] (mk w p r I L) kr := by
  refine Ev.of (by decide) (Nat.le_of_ble_eq_true rfl) ?_
  refine Wf.gc tkX7_close [39] ?_
  conv => whnf
  refine y_good ?_
  conv => whnf
  show Ev l X uX7_in (d + 10) true 0 0 [.int v, .int 0, .int (u2 (u2 I 150 0 0) 150 11 0 150 2)] (mk w p r (u2 (u2 I 150 0 0) 150 11 0) L) _
  rw [u2_o (by decide), u2_o (by decide)]
  refine y_in (fun z1 z2 => absurd ⟨z1, z2⟩ hN) (fun _ => ?_)
  conv => whnf
  refine b2 (fun z => z rfl) ?_
  conv => whnf
  refine y_no ?_
  conv => whnf
  exact h
set_option maxHeartbeats 8000000 in
set_option maxRecDepth 20000 in
theorem y_close {t : Nat} (ht : I 150 2 = nI t) (ht9 : t ≤ 900) (hn : n ≤ t) (hb : ∀ i, i < t → b i < 256 ∧ I 151 i = nI (b i)) (hE : ∀ er, rdT b n (n + 1) P00 = .inl er → ∀ I', (∀ a i, ¬ (a = 150 ∧ i ≤ 13) → a ≠ 152 → a ≠ 154 → a ≠ 156 → I' a i = I a i) → I' 150 0 = 0 → I' 150 2 = 0 → I' 150 9 = nI er.1 → I' 150 10 = nI er.2 → I' 150 11 = 4 → kr (some (.int (-1))) (mk w p r I' L)) (hO : ∀ P', rdT b n (n + 1) P00 = .inr P' → ∀ I', (∀ a i, ¬ (a = 150 ∧ (i ≤ 14 ∨ i = 22 ∨ i = 23)) → ¬ (152 ≤ a ∧ a ≤ 157) → I' a i = I a i) → I' 150 0 = 0 → I' 150 2 = 0 → I' 150 9 = 0 → I' 150 11 = 0 → I' 150 14 = 1 → I' 150 22 = 0 → I' 150 23 = 0 → SF b n P' I' → B3 P' → 0 < P'.1 4 → (∀ i, i < 202 → I' 153 i = I' 154 i) → (∀ i, i < 25 → I' 155 i = I' 156 i ∧ I' 157 i = I' 156 i) → kr (some (.int (nI (P'.1 4)))) (mk w p r I' L)) : Ev l X uX7_close (d + 11) true 0 0 [.ref 150, .int (nI n)] (mk w p r I L) kr := by
  refine Ev.of (by decide) (Nat.le_of_ble_eq_true rfl) ?_
  refine Wf.gc tkX7_close [39] ?_
  conv => whnf
  refine y_good ?_
  conv => whnf
  show Ev l X uX7_in (d + 10) true 0 0 [.int (nI n), .int (nI 0), .int (u2 (u2 I 150 0 0) 150 11 0 150 2)] (mk w p r (u2 (u2 I 150 0 0) 150 11 0) L) _
  rw [u2_o (by decide), u2_o (by decide), ht]
  refine y_in (fun _ _ => ?_) (fun z => absurd ⟨by rw [nI_leI (by decide) (by omega)]; omega, by rw [nI_leI (by omega) (by omega)]; exact hn⟩ z)
  conv => whnf
  refine b1 (by decide) ?_
  conv => whnf
  refine ⟨Or.inl rfl, ?_⟩
  conv => whnf
  show Wf l X uX7_close (d + 11) true (mC (mk w p r I L) + 0, mS (mk w p r I L) + 0) 39 [(0, .ref 150), (1, .int (nI n)), (2, .int (nI 0))] [] (mk w p r (u2 (u2 (u2 (u2 (u2 I 150 0 0) 150 11 0) 150 2 0) 150 9 0) 150 13 0) L) kr
  have jO : ∀ a i, ¬ (a = 150 ∧ (i = 0 ∨ i = 11 ∨ i = 2 ∨ i = 9 ∨ i = 13)) → (u2 (u2 (u2 (u2 (u2 I 150 0 0) 150 11 0) 150 2 0) 150 9 0) 150 13 0) a i = I a i := fun a i z => by rw [u2_o (by omega), u2_o (by omega), u2_o (by omega), u2_o (by omega), u2_o (by omega)]
  have j0 : (u2 (u2 (u2 (u2 (u2 I 150 0 0) 150 11 0) 150 2 0) 150 9 0) 150 13 0) 150 0 = 0 := by rw [u2_o (by decide), u2_o (by decide), u2_o (by decide), u2_o (by decide), u2_s]
  have j11 : (u2 (u2 (u2 (u2 (u2 I 150 0 0) 150 11 0) 150 2 0) 150 9 0) 150 13 0) 150 11 = 0 := by rw [u2_o (by decide), u2_o (by decide), u2_o (by decide), u2_s]
  have j2 : (u2 (u2 (u2 (u2 (u2 I 150 0 0) 150 11 0) 150 2 0) 150 9 0) 150 13 0) 150 2 = 0 := by rw [u2_o (by decide), u2_o (by decide), u2_s]
  have j9 : (u2 (u2 (u2 (u2 (u2 I 150 0 0) 150 11 0) 150 2 0) 150 9 0) 150 13 0) 150 9 = 0 := by rw [u2_o (by decide), u2_s]
  have j13 : (u2 (u2 (u2 (u2 (u2 I 150 0 0) 150 11 0) 150 2 0) 150 9 0) 150 13 0) 150 13 = 0 := u2_s
  generalize (u2 (u2 (u2 (u2 (u2 I 150 0 0) 150 11 0) 150 2 0) 150 9 0) 150 13 0) = J at jO j0 j11 j2 j9 j13 ⊢
  have l1 := down (fun j => ∀ K : Nat → Nat → Int32, (∀ x i, ¬ (x = 154 ∧ i < 202) → K x i = J x i) → (∀ i, i < j → K 154 i = 0) → Wf l X uX7_close (d + 11) true (mC (mk w p r I L) + 0, mS (mk w p r I L) + 0) 39 [(0, .ref 150), (1, .int (nI n)), (2, .int (nI j))] [] (mk w p r K L) kr) 202 ?_ ?_ 0 (Nat.zero_le _)
  · exact l1 J (fun _ _ _ => rfl) (fun i hi => absurd hi (Nat.not_lt_zero _))
  · intro K k1 k2
    refine Wf.gc tkX7_close [61] ?_
    conv => whnf
    refine b1' (by decide) ?_
    conv => whnf
    show Wf l X uX7_close (d + 11) true (mC (mk w p r I L) + 0, mS (mk w p r I L) + 0) 61 [(0, .ref 150), (1, .int (nI n)), (2, .int (nI 0))] [] (mk w p r K L) kr
    have l2 := down (fun j => ∀ M : Nat → Nat → Int32, (∀ x i, ¬ (x = 156 ∧ i < 25) → M x i = K x i) → (∀ i, i < j → M 156 i = 0) → Wf l X uX7_close (d + 11) true (mC (mk w p r I L) + 0, mS (mk w p r I L) + 0) 61 [(0, .ref 150), (1, .int (nI n)), (2, .int (nI j))] [] (mk w p r M L) kr) 25 ?_ ?_ 0 (Nat.zero_le _)
    · exact l2 K (fun _ _ _ => rfl) (fun i hi => absurd hi (Nat.not_lt_zero _))
    · intro M m1 m2
      refine Wf.gc tkX7_close [98] ?_
      conv => whnf
      refine b1' (by decide) ?_
      conv => whnf
      show Ev l X uX7_next (d + 10) true 0 0 [.ref 150] (mk w p r (u2 (u2 M 150 3 (nI n)) 150 5 0) L) _
      have mO : ∀ a i, ¬ (a = 150 ∧ (i = 3 ∨ i = 5)) → (u2 (u2 M 150 3 (nI n)) 150 5 0) a i = M a i := fun a i z => by rw [u2_o (by omega), u2_o (by omega)]
      have M3 : (u2 (u2 M 150 3 (nI n)) 150 5 0) 150 3 = nI n := by rw [u2_o (by decide), u2_s]
      have M5 : (u2 (u2 M 150 3 (nI n)) 150 5 0) 150 5 = nI 0 := u2_s
      generalize (u2 (u2 M 150 3 (nI n)) 150 5 0) = N at mO M3 M5 ⊢
      have nJ : ∀ a i, ¬ (a = 150 ∧ (i = 3 ∨ i = 5)) → ¬ (a = 154 ∧ i < 202) → ¬ (a = 156 ∧ i < 25) → N a i = J a i := fun a i z1 z2 z3 => ((mO a i z1).trans (m1 a i z3)).trans (k1 a i z2)
      have rx : RX b n N := ⟨by omega, M3, fun i hi => ⟨(hb i (by omega)).1, by rw [nJ 151 i (by omega) (by omega) (by omega), jO 151 i (by omega)]; exact (hb i (by omega)).2⟩⟩
      refine y_next (d := d + 8) (e := 0) rx (Nat.zero_le _) M5 (fun I1 hs1 hc1 => ?_)
      have z4 : ∀ i, i < 202 → I1 154 i = 0 := fun i hi => by rw [hs1 154 i (by omega) (by decide), mO 154 i (by omega), m1 154 i (by omega)]; exact k2 i hi
      have z6 : ∀ i, i < 25 → I1 156 i = 0 := fun i hi => by rw [hs1 156 i (by omega) (by decide), mO 156 i (by omega)]; exact m2 i hi
      have hS1 : SF b n (F00, 0, [], 0) I1 := ⟨RX_sN rx hs1, Nat.zero_le _, hc1, by rw [hs1 150 13 (by omega) (by decide), nJ 150 13 (by omega) (by omega) (by omega)]; exact j13, ⟨fun k q1 _ => z4 k (by omega), z4 10 (by decide), fun c hc => z6 _ (by omega), fun f hf => z6 f (by omega), fun i _ q2 _ => z6 i q2⟩, ⟨fun i hi => absurd hi (Nat.not_lt_zero _), fun m hm _ => z4 _ (by omega)⟩, fun i hi => absurd hi (Nat.not_lt_zero _), fun i _ hi => absurd hi (Nat.not_lt_zero _), fun i hi => absurd hi (Nat.not_lt_zero _), Iff.rfl⟩
      obtain ⟨R, hR⟩ : ∃ R, rdT b n (n + 1) P00 = R := ⟨_, rfl⟩
      rw [hR] at hE hO
      unfold rdT at hR
      have bE : ∀ er, R = .inl er → ∀ I', FE N er I' → kr (some (.int (-1))) (mk w p r (u2 I' 150 11 4) L) := fun er hr I' fe => hE er hr (u2 I' 150 11 4) (fun a i q1 q2 q3 q4 => by rw [u2_o (by omega), fe.1.1 a i (by omega) q2 q3 q4, nJ a i (by omega) (by omega) (by omega), jO a i (by omega)]) (by rw [u2_o (by decide), fe.1.1 150 0 (by omega) (by decide) (by decide) (by decide), nJ 150 0 (by omega) (by omega) (by omega)]; exact j0) (by rw [u2_o (by decide), fe.1.1 150 2 (by omega) (by decide) (by decide) (by decide), nJ 150 2 (by omega) (by omega) (by omega)]; exact j2) (by rw [u2_o (by decide)]; exact fe.2.2.1) (by rw [u2_o (by decide)]; exact fe.2.2.2) u2_s
      have bO : ∀ P', R = .inr P' → ∀ I', sQ N I' → SF b n P' I' → 0 < P'.1 4 → B3 P' → Wf l X uX7_close (d + 11) true (mC (mk w p r I L) + 0, mS (mk w p r I L) + 0) 197 [(0, .ref 150), (1, .int (nI n)), (2, .int (nI 25))] [] (mk w p r I' L) kr := by
        intro P' hP I' sq sf h4 hB
        refine Wf.gc tkX7_close [] ?_
        conv => whnf
        refine y_copy3 (fun K1 a1 a2 => ?_)
        conv => whnf
        refine y_copy5 (fun K2 b1 b2 => ?_)
        conv => whnf
        refine y_copy7 (fun K3 c1 c2 => ?_)
        conv => whnf
        refine ⟨Or.inr rfl, ?_⟩
        conv => whnf
        refine ⟨4, ⟨rfl, by decide, show 4 < 202 by decide⟩, ?_⟩
        conv => whnf
        have o1 : ∀ a i, ¬ (a = 150 ∧ (i = 14 ∨ i = 22 ∨ i = 23)) → a ≠ 153 → a ≠ 155 → a ≠ 157 → (u2 (u2 (u2 K3 150 14 1) 150 22 0) 150 23 0) a i = I' a i := fun a i q1 q2 q3 q4 => by rw [u2_o (by omega), u2_o (by omega), u2_o (by omega), c1 a i (by omega), b1 a i (by omega), a1 a i (by omega)]
        have o3 : ∀ i, i < 202 → (u2 (u2 (u2 K3 150 14 1) 150 22 0) 150 23 0) 153 i = (u2 (u2 (u2 K3 150 14 1) 150 22 0) 150 23 0) 154 i := fun i hi => by rw [o1 154 i (by omega) (by decide) (by decide) (by decide), u2_o (by omega), u2_o (by omega), u2_o (by omega), c1 153 i (by omega), b1 153 i (by omega)]; exact a2 i hi
        have o5 : ∀ i, i < 25 → (u2 (u2 (u2 K3 150 14 1) 150 22 0) 150 23 0) 155 i = (u2 (u2 (u2 K3 150 14 1) 150 22 0) 150 23 0) 156 i ∧ (u2 (u2 (u2 K3 150 14 1) 150 22 0) 150 23 0) 157 i = (u2 (u2 (u2 K3 150 14 1) 150 22 0) 150 23 0) 156 i := fun i hi => by
          rw [o1 156 i (by omega) (by decide) (by decide) (by decide), u2_o (by omega), u2_o (by omega), u2_o (by omega), u2_o (by omega), u2_o (by omega), u2_o (by omega), c1 155 i (by omega)]
          exact ⟨(b2 i hi).trans (a1 156 i (by omega)), (c2 i hi).trans ((b1 156 i (by omega)).trans (a1 156 i (by omega)))⟩
        have fin := hO P' hP (u2 (u2 (u2 K3 150 14 1) 150 22 0) 150 23 0) (fun a i q1 q2 => by rw [o1 a i (by omega) (by omega) (by omega) (by omega), sq.1 a i (by omega) (by omega) (by omega) (by omega), nJ a i (by omega) (by omega) (by omega), jO a i (by omega)]) (by rw [o1 150 0 (by omega) (by decide) (by decide) (by decide), sq.1 150 0 (by omega) (by decide) (by decide) (by decide), nJ 150 0 (by omega) (by omega) (by omega)]; exact j0) (by rw [o1 150 2 (by omega) (by decide) (by decide) (by decide), sq.1 150 2 (by omega) (by decide) (by decide) (by decide), nJ 150 2 (by omega) (by omega) (by omega)]; exact j2) (by rw [o1 150 9 (by omega) (by decide) (by decide) (by decide), (sq.2 sf.2.2.2.1).2, nJ 150 9 (by omega) (by omega) (by omega)]; exact j9) (by rw [o1 150 11 (by omega) (by decide) (by decide) (by decide), sq.1 150 11 (by omega) (by decide) (by decide) (by decide), nJ 150 11 (by omega) (by omega) (by omega)]; exact j11) (by rw [u2_o (by decide), u2_o (by decide), u2_s]) (by rw [u2_o (by decide), u2_s]) u2_s (SF_cg sf (fun a i q1 q2 q3 q4 => o1 a i (by omega) q1 q2 q3)) hB h4 o3 o5
        have ev : (u2 (u2 (u2 K3 150 14 1) 150 22 0) 150 23 0) 153 4 = nI (P'.1 4) := by rw [o3 4 (by decide), o1 154 4 (by omega) (by decide) (by decide) (by decide)]; exact sf.2.2.2.2.1.1 4 (by decide) (by decide)
        rw [← ev] at fin
        exact fin
      conv => whnf
      refine y_readLine (d := d) B3_00.1.1 (fun _ => ⟨rfl, rfl, rfl, rfl, rfl⟩) hS1 (fun er hl I2 fe => ?_) (fun P2 hl I2 sq sf => ?_)
      · have hl : ln b n P00.1 P00.2.1 P00.2.2.1 P00.2.2.2 = .inl er := hl
        rw [hl] at hR
        conv => whnf
        have fe2 := FE_tr hs1.sQ fe
        exact cz_98 (FE_0 fe2) (bE er hR.symm I2 fe2)
      · obtain ⟨hB2, he2, hg2⟩ := B3_ln B3_00 (Nat.zero_le n) hl
        have hp := ln_pos hl
        have hl : ln b n P00.1 P00.2.1 P00.2.2.1 P00.2.2.2 = .inr P2 := hl
        rw [hl] at hR
        conv => whnf
        exact y_cl98 bE bO n P2 I2 hR (by omega) hB2 hp sf (hs1.sQ.tr sq)
    · intro j hj ih M m1 m2
      have ih := ih (u2 M 156 j 0) (fun x i z => by rw [u2_o (by omega)]; exact m1 x i z) (fun i hi => by
        rcases Nat.lt_or_ge i j with z | z
        · rw [u2_o (by omega)]; exact m2 i z
        · rw [show i = j by omega, u2_s])
      rw [← nI_1] at ih
      refine Wf.gc tkX7_close [61] ?_
      conv => whnf
      refine b2' (by show ¬ (25 : Int32) ≤ nI j; rw [show (25 : Int32) = nI 25 from rfl]; exact nI_ge hj (by decide)) ?_
      conv => whnf
      refine ⟨j, ⟨rfl, by omega, show j < 25 by omega⟩, ?_⟩
      conv => whnf
      exact ih
  · intro j hj ih K k1 k2
    have ih := ih (u2 K 154 j 0) (fun x i z => by rw [u2_o (by omega)]; exact k1 x i z) (fun i hi => by
      rcases Nat.lt_or_ge i j with z | z
      · rw [u2_o (by omega)]; exact k2 i z
      · rw [show i = j by omega, u2_s])
    rw [← nI_1] at ih
    refine Wf.gc tkX7_close [39] ?_
    conv => whnf
    refine b2' (by show ¬ (202 : Int32) ≤ nI j; rw [show (202 : Int32) = nI 202 from rfl]; exact nI_ge hj (by decide)) ?_
    conv => whnf
    refine ⟨j, ⟨rfl, by omega, show j < 202 by omega⟩, ?_⟩
    conv => whnf
    exact ih
end RL9
end
section
/-! bytes of a word, as both sides take them -/
section BYT
/-- the low byte -/
noncomputable def lb (y : Int32) : Nat := (y &&& 255).toBitVec.toNat
theorem lb_mod (y : Int32) : lb y = y.toBitVec.toNat % 256 := by
  unfold lb
  rw [Int32.toBitVec_and, BitVec.toNat_and]
  exact Nat.and_two_pow_sub_one_eq_mod _ 8
theorem lb_256 (y : Int32) : lb y < 256 := by
  rw [lb_mod]
  exact Nat.mod_lt _ (by decide)
theorem lb_nI (y : Int32) : y &&& 255 = nI (lb y) := by
  apply Int32.toBitVec_inj.mp
  apply BitVec.eq_of_toNat_eq
  show lb y = (nI (lb y)).toBitVec.toNat
  have h := lb_256 y
  generalize lb y = k at h
  revert k
  decide +kernel
theorem sb_256 : ∀ k, k < 256 → (nI k).toInt8.toInt32 = sb k ∧ (nI k).toInt8.toInt32.toInt8.toInt32 = sb k := by decide +kernel
theorem i8_and (y : Int32) : y.toInt8 = (y &&& 255).toInt8 := by
  apply Int8.toBitVec_inj.mp
  rw [Int32.toBitVec_toInt8, Int32.toBitVec_toInt8, Int32.toBitVec_and, BitVec.signExtend_eq_setWidth_of_le _ (by decide), BitVec.signExtend_eq_setWidth_of_le _ (by decide), BitVec.setWidth_and]
  have e : BitVec.setWidth 8 (255 : Int32).toBitVec = BitVec.allOnes 8 := by decide
  rw [e, BitVec.and_allOnes]
theorem sb_lb (y : Int32) : y.toInt8.toInt32 = sb (lb y) ∧ y.toInt8.toInt32.toInt8.toInt32 = sb (lb y) := by
  rw [i8_and, lb_nI]
  exact sb_256 _ (lb_256 y)
end BYT
end
section
/-! the class's tape, with what is on it -/
section FDX
variable {l : Launch} {X : Nat × (Nat → Int32)} {d : Nat} {w : Nat × Nat} {p r : Nat} {I : Nat → Nat → Int32} {L : Nat → Nat → Int64} {kr : KR}
noncomputable def shf : Nat → Int32
  | 0 => 24
  | 1 => 16
  | 2 => 8
  | 3 => 0
  | _ => -8
theorem shf_4 : ∀ j, j < 4 → ¬ shf j < 0 ∧ shf j + (-8) = shf (j + 1) := by decide +kernel
/-- byte j of a word -/
noncomputable def by4 (x : Int32) (j : Nat) : Nat := lb (x >>> (shf j &&& 31))
set_option maxHeartbeats 2000000 in
set_option maxRecDepth 20000 in
theorem x_tape {t : Nat} {x : Int32} (ht : I 2 1 = nI t) (h4 : t + 4 ≤ 900) (h : ∀ I' : Nat → Nat → Int32, (∀ a i, ¬ (a = 2 ∧ i = 1) → ¬ (a = 3 ∧ t ≤ i ∧ i < t + 4) → I' a i = I a i) → I' 2 1 = nI (t + 4) → (∀ j, j < 4 → I' 3 (t + j) = sb (by4 x j)) → kr none (mk w p r I' L)) : Ev l X uX4_tape d true 0 0 [.ref 2, .int x] (mk w p r I L) kr := by
  refine Ev.of (by decide) (Nat.le_of_ble_eq_true rfl) ?_
  refine Wf.gc tkX4_tape [3] ?_
  conv => whnf
  have loop := down (fun j => ∀ K : Nat → Nat → Int32, (∀ a i, ¬ (a = 2 ∧ i = 1) → ¬ (a = 3 ∧ t ≤ i ∧ i < t + 4) → K a i = I a i) → K 2 1 = nI (t + j) → (∀ i, i < j → K 3 (t + i) = sb (by4 x i)) → Wf l X uX4_tape d true (mC (mk w p r I L) + 0, mS (mk w p r I L) + 0) 3 [(0, .ref 2), (1, .int x), (2, .int (shf j))] [] (mk w p r K L) kr) 4 ?_ ?_ 0 (Nat.zero_le _)
  · exact loop I (fun _ _ _ _ => rfl) ht (fun i hi => absurd hi (Nat.not_lt_zero _))
  · intro K k1 k2 k3
    refine Wf.gc tkX4_tape [] ?_
    conv => whnf
    refine b1' (by decide) ?_
    conv => whnf
    exact h K k1 k2 k3
  · intro j hj ih K k1 k2 k3
    obtain ⟨s1, s2⟩ := shf_4 j hj
    have ih := ih (u2 (u2 K 3 (t + j) (x >>> (shf j &&& 31)).toInt8.toInt32.toInt8.toInt32) 2 1 (K 2 1 + 1)) (fun a i z1 z2 => by rw [u2_o (by omega), u2_o (by omega)]; exact k1 a i z1 z2) (by rw [u2_s, k2, nI_1]; rfl) (fun i hi => by
      rcases Nat.lt_or_ge i j with z | z
      · rw [u2_o (by omega), u2_o (by omega)]; exact k3 i z
      · have : i = j := by omega
        subst this
        rw [u2_o (by omega), u2_s]
        exact (sb_lb _).2)
    rw [← s2] at ih
    refine Wf.gc tkX4_tape [3] ?_
    conv => whnf
    refine b2' s1 ?_
    conv => whnf
    refine b2' (by show ¬ (900 : Int32) ≤ K 2 1; rw [k2, show (900 : Int32) = nI 900 from rfl]; exact nI_ge (by omega) (by decide)) ?_
    conv => whnf
    refine ⟨t + j, ⟨k2, by omega, show t + j < 900 by omega⟩, ?_⟩
    conv => whnf
    exact ih
end FDX
end
section
/-! the class's feed, with what is on the tape -/
section FDY
variable {l : Launch} {X : Nat × (Nat → Int32)} {d : Nat} {w : Nat × Nat} {p r : Nat} {I : Nat → Nat → Int32} {L : Nat → Nat → Int64} {kr : KR}
noncomputable def w5 (x1 x2 x3 x4 x5 : Int32) : Nat → Int32
  | 0 => x1
  | 1 => x2
  | 2 => x3
  | 3 => x4
  | _ => x5
/-- byte k of five words -/
noncomputable def b20 (x1 x2 x3 x4 x5 : Int32) (k : Nat) : Nat := by4 (w5 x1 x2 x3 x4 x5 (k / 4)) (k % 4)
set_option maxHeartbeats 2000000 in
set_option maxRecDepth 20000 in
theorem x_feed {t : Nat} {x1 x2 x3 x4 x5 : Int32} (ht : I 2 1 = nI t) (h9 : t ≤ 900) (h0 : 880 < t → kr (some (.int (-1))) (mk w p r I L)) (h1 : t ≤ 880 → ∀ I' : Nat → Nat → Int32, (∀ a i, ¬ (a = 2 ∧ i = 1) → ¬ (a = 3 ∧ t ≤ i ∧ i < t + 20) → I' a i = I a i) → I' 2 1 = nI (t + 20) → (∀ j, j < 20 → I' 3 (t + j) = sb (b20 x1 x2 x3 x4 x5 j)) → kr (some (.int (nI (t + 20)))) (mk w p r I' L)) : Ev l X uX6_feed (d + 1) true 0 0 [.ref 1, .int x1, .int x2, .int x3, .int x4, .int x5] (mk w p r I L) kr := by
  refine Ev.of (by decide) (Nat.le_of_ble_eq_true rfl) ?_
  refine Wf.gc tkX6_feed [] ?_
  conv => whnf
  have ev : (I 2 1 + 20 : Int32) = nI (t + 20) := by rw [ht, show (20 : Int32) = nI 20 from rfl, nI_add]
  by_cases c : t ≤ 880
  · refine b1' (by show I 2 1 + 20 ≤ (900 : Int32); rw [ev, show (900 : Int32) = nI 900 from rfl, nI_leI (by omega) (by decide)]; omega) ?_
    conv => whnf
    refine x_tape (I := I) (t := t) ht (by omega) (fun I1 h1a h1b h1c => ?_)
    have h1b : I1 2 1 = nI (t + 4) := h1b
    conv => whnf
    refine x_tape (I := I1) (t := t + 4) h1b (by omega) (fun I2 h2a h2b h2c => ?_)
    have h2b : I2 2 1 = nI (t + 8) := h2b
    conv => whnf
    refine x_tape (I := I2) (t := t + 8) h2b (by omega) (fun I3 h3a h3b h3c => ?_)
    have h3b : I3 2 1 = nI (t + 12) := h3b
    conv => whnf
    refine x_tape (I := I3) (t := t + 12) h3b (by omega) (fun I4 h4a h4b h4c => ?_)
    have h4b : I4 2 1 = nI (t + 16) := h4b
    conv => whnf
    refine x_tape (I := I4) (t := t + 16) h4b (by omega) (fun I5 h5a h5b h5c => ?_)
    have h5b : I5 2 1 = nI (t + 20) := h5b
    conv => whnf
    have fin := h1 c I5 (fun a i z1 z2 => by rw [h5a a i z1 (by omega), h4a a i z1 (by omega), h3a a i z1 (by omega), h2a a i z1 (by omega), h1a a i z1 (by omega)]) h5b (fun j hj => ?_)
    · rw [← h5b] at fin
      exact fin
    · unfold b20
      rcases (show j / 4 = 0 ∨ j / 4 = 1 ∨ j / 4 = 2 ∨ j / 4 = 3 ∨ j / 4 = 4 by omega) with z | z | z | z | z
      · rw [z, h5a 3 (t + j) (by omega) (by omega), h4a 3 (t + j) (by omega) (by omega), h3a 3 (t + j) (by omega) (by omega), h2a 3 (t + j) (by omega) (by omega), show t + j = t + j % 4 by omega]
        exact h1c (j % 4) (Nat.mod_lt _ (by decide))
      · rw [z, h5a 3 (t + j) (by omega) (by omega), h4a 3 (t + j) (by omega) (by omega), h3a 3 (t + j) (by omega) (by omega), show t + j = t + 4 + j % 4 by omega]
        exact h2c (j % 4) (Nat.mod_lt _ (by decide))
      · rw [z, h5a 3 (t + j) (by omega) (by omega), h4a 3 (t + j) (by omega) (by omega), show t + j = t + 8 + j % 4 by omega]
        exact h3c (j % 4) (Nat.mod_lt _ (by decide))
      · rw [z, h5a 3 (t + j) (by omega) (by omega), show t + j = t + 12 + j % 4 by omega]
        exact h4c (j % 4) (Nat.mod_lt _ (by decide))
      · rw [z, show t + j = t + 16 + j % 4 by omega]
        exact h5c (j % 4) (Nat.mod_lt _ (by decide))
  · refine b2' (by show ¬ I 2 1 + 20 ≤ (900 : Int32); rw [ev, show (900 : Int32) = nI 900 from rfl, nI_leI (by omega) (by decide)]; omega) ?_
    conv => whnf
    exact h0 (by omega)
end FDY
end
section
/-! the reference's feed, with what is on the tape -/
section FDZ
variable {l : Launch} {X : Nat × (Nat → Int32)} {d : Nat} {w : Nat × Nat} {p r : Nat} {I : Nat → Nat → Int32} {L : Nat → Nat → Int64} {kr : KR}
theorem shf_20 : ∀ k, k < 20 → (24 - 8 * (nI k - nI k / 4 * 4) : Int32) = shf (k % 4) := by decide +kernel
set_option maxHeartbeats 4000000 in
set_option maxRecDepth 20000 in
theorem y_feed {t : Nat} {x1 x2 x3 x4 x5 : Int32} (ht : I 150 2 = nI t) (h9 : t ≤ 900) (h0 : 880 < t → kr (some (.int (-1))) (mk w p r (u2 I 150 0 0) L)) (h1 : t ≤ 880 → ∀ I' : Nat → Nat → Int32, (∀ a i, ¬ (a = 150 ∧ (i = 0 ∨ i = 2)) → ¬ (a = 151 ∧ t ≤ i ∧ i < t + 20) → I' a i = I a i) → I' 150 0 = 0 → I' 150 2 = nI (t + 20) → (∀ j, j < 20 → I' 151 (t + j) = nI (b20 x1 x2 x3 x4 x5 j)) → kr (some (.int (nI (t + 20)))) (mk w p r I' L)) : Ev l X uX7_feed d true 0 0 [.ref 150, .int x1, .int x2, .int x3, .int x4, .int x5] (mk w p r I L) kr := by
  refine Ev.of (by decide) (Nat.le_of_ble_eq_true rfl) ?_
  refine Wf.gc tkX7_feed [23] ?_
  conv => whnf
  have ev : (u2 I 150 0 0 150 2 + 20 : Int32) = nI (t + 20) := by rw [u2_o (by decide), ht, show (20 : Int32) = nI 20 from rfl, nI_add]
  by_cases c : t ≤ 880
  · refine b1' (by show u2 I 150 0 0 150 2 + 20 ≤ (900 : Int32); rw [ev, show (900 : Int32) = nI 900 from rfl, nI_leI (by omega) (by decide)]; omega) ?_
    conv => whnf
    have loop := down (fun k => ∀ K : Nat → Nat → Int32, (∀ a i, ¬ (a = 150 ∧ (i = 0 ∨ i = 2)) → ¬ (a = 151 ∧ t ≤ i ∧ i < t + 20) → K a i = I a i) → K 150 0 = 0 → K 150 2 = nI (t + k) → (∀ i, i < k → K 151 (t + i) = nI (b20 x1 x2 x3 x4 x5 i)) → Wf l X uX7_feed d true (mC (mk w p r I L) + 0, mS (mk w p r I L) + 0) 23 [(0, .ref 150), (1, .int x1), (2, .int x2), (3, .int x3), (4, .int x4), (5, .int x5), (6, .int (nI k))] [] (mk w p r K L) kr) 20 ?_ ?_ 0 (Nat.zero_le _)
    · exact loop (u2 I 150 0 0) (fun a i z1 z2 => u2_o (by omega)) u2_s (by rw [u2_o (by decide)]; exact ht) (fun i hi => absurd hi (Nat.not_lt_zero _))
    · intro K k1 k0 k2 k3
      refine Wf.gc tkX7_feed [] ?_
      conv => whnf
      refine b1' (by decide) ?_
      conv => whnf
      have fin := h1 c K k1 k0 k2 k3
      rw [← k2] at fin
      exact fin
    · intro k hk ih K k1 k0 k2 k3
      have mid : ∀ z : Int32, z = w5 x1 x2 x3 x4 x5 (k / 4) → Wf l X uX7_feed d true (mC (mk w p r I L) + 0, mS (mk w p r I L) + 0) 78 [(0, .ref 150), (1, .int x1), (2, .int x2), (3, .int x3), (4, .int x4), (5, .int x5), (6, .int (nI k)), (7, .int z)] [] (mk w p r K L) kr := by
        intro z hz
        have ih := ih (u2 (u2 K 151 (t + k) ((z >>> ((24 - 8 * (nI k - nI k / 4 * 4)) &&& 31)) &&& 255)) 150 2 (K 150 2 + 1)) (fun a i z1 z2 => by rw [u2_o (by omega), u2_o (by omega)]; exact k1 a i z1 z2) (by rw [u2_o (by decide), u2_o (by omega)]; exact k0) (by rw [u2_s, k2, nI_1]; rfl) (fun i hi => by
          rcases Nat.lt_or_ge i k with q | q
          · rw [u2_o (by omega), u2_o (by omega)]; exact k3 i q
          · have : i = k := by omega
            subst this
            rw [u2_o (by omega), u2_s, shf_20 i hk, lb_nI, hz]
            rfl)
        rw [← nI_1] at ih
        refine Wf.gc tkX7_feed [23] ?_
        conv => whnf
        refine ⟨by decide, ?_⟩
        conv => whnf
        refine ⟨t + k, ⟨k2, by omega, show t + k < 900 by omega⟩, ?_⟩
        conv => whnf
        refine Wf.keep [0, 1, 2, 3, 4, 5, 6] ?_
        exact ih
      refine Wf.gc tkX7_feed [78] ?_
      conv => whnf
      refine b2' (by show ¬ (20 : Int32) ≤ nI k; rw [show (20 : Int32) = nI 20 from rfl]; exact nI_ge hk (by decide)) ?_
      conv => whnf
      rcases (show k / 4 = 0 ∨ k / 4 = 1 ∨ k / 4 = 2 ∨ k / 4 = 3 ∨ k / 4 = 4 by omega) with z | z | z | z | z
      · refine b2' (by show ¬ (4 : Int32) ≤ nI k; rw [show (4 : Int32) = nI 4 from rfl]; exact nI_ge (by omega) (by decide)) ?_
        conv => whnf
        exact mid _ (by rw [z]; rfl)
      · refine b1' (by show (4 : Int32) ≤ nI k; rw [show (4 : Int32) = nI 4 from rfl, nI_leI (by decide) (by omega)]; omega) ?_
        conv => whnf
        refine b2' (by show ¬ (8 : Int32) ≤ nI k; rw [show (8 : Int32) = nI 8 from rfl]; exact nI_ge (by omega) (by decide)) ?_
        conv => whnf
        exact mid _ (by rw [z]; rfl)
      · refine b1' (by show (4 : Int32) ≤ nI k; rw [show (4 : Int32) = nI 4 from rfl, nI_leI (by decide) (by omega)]; omega) ?_
        conv => whnf
        refine b1' (by show (8 : Int32) ≤ nI k; rw [show (8 : Int32) = nI 8 from rfl, nI_leI (by decide) (by omega)]; omega) ?_
        conv => whnf
        refine b2' (by show ¬ (12 : Int32) ≤ nI k; rw [show (12 : Int32) = nI 12 from rfl]; exact nI_ge (by omega) (by decide)) ?_
        conv => whnf
        exact mid _ (by rw [z]; rfl)
      · refine b1' (by show (4 : Int32) ≤ nI k; rw [show (4 : Int32) = nI 4 from rfl, nI_leI (by decide) (by omega)]; omega) ?_
        conv => whnf
        refine b1' (by show (8 : Int32) ≤ nI k; rw [show (8 : Int32) = nI 8 from rfl, nI_leI (by decide) (by omega)]; omega) ?_
        conv => whnf
        refine b1' (by show (12 : Int32) ≤ nI k; rw [show (12 : Int32) = nI 12 from rfl, nI_leI (by decide) (by omega)]; omega) ?_
        conv => whnf
        refine b2' (by show ¬ (16 : Int32) ≤ nI k; rw [show (16 : Int32) = nI 16 from rfl]; exact nI_ge (by omega) (by decide)) ?_
        conv => whnf
        exact mid _ (by rw [z]; rfl)
      · refine b1' (by show (4 : Int32) ≤ nI k; rw [show (4 : Int32) = nI 4 from rfl, nI_leI (by decide) (by omega)]; omega) ?_
        conv => whnf
        refine b1' (by show (8 : Int32) ≤ nI k; rw [show (8 : Int32) = nI 8 from rfl, nI_leI (by decide) (by omega)]; omega) ?_
        conv => whnf
        refine b1' (by show (12 : Int32) ≤ nI k; rw [show (12 : Int32) = nI 12 from rfl, nI_leI (by decide) (by omega)]; omega) ?_
        conv => whnf
        refine b1' (by show (16 : Int32) ≤ nI k; rw [show (16 : Int32) = nI 16 from rfl, nI_leI (by decide) (by omega)]; omega) ?_
        conv => whnf
        exact mid _ (by rw [z]; rfl)
  · refine b2' (by show ¬ u2 I 150 0 0 150 2 + 20 ≤ (900 : Int32); rw [ev, show (900 : Int32) = nI 900 from rfl, nI_leI (by omega) (by decide)]; omega) ?_
    conv => whnf
    exact h0 (by omega)
end FDZ
end
section
/-! what a text that was read says: bounds, each canon with a face of his own -/
section PIV
variable {b : Nat → Nat} {n e : Nat} {nm : List Nm} {F F' : Nat → Nat} {W : Int32} {P P' : Ps}
noncomputable def PJ (F : Nat → Nat) : Prop := (∀ f, f < F 4 → (1 ≤ F (12 + 4 * f) ∧ F (12 + 4 * f) ≤ 99) ∧ F (13 + 4 * f) ≤ 9 ∧ F (11 + 4 * f) ≤ 2 ∧ F (14 + 4 * f) ≤ 19) ∧ (∀ c, c < F 5 → F (300 + c) < F 4 ∧ (1 ≤ F (35 + 2 * c) ∧ F (35 + 2 * c) ≤ 30) ∧ 1 ≤ F (36 + 2 * c) ∧ F (36 + 2 * c) ≤ 9) ∧ (∀ c c', c < c' → c' < F 5 → F (300 + c) ≠ F (300 + c')) ∧ ∀ f f', f < f' → f' < F 4 → F (14 + 4 * f) ≠ F (14 + 4 * f')
theorem PJ_cg (h : PJ F) (B4 : F 4 ≤ 6) (B5 : F 5 ≤ 5) (he : ∀ j, (j = 4 ∨ j = 5 ∨ (11 ≤ j ∧ j ≤ 44) ∨ (300 ≤ j ∧ j ≤ 304)) → F' j = F j) : PJ F' := by
  have e4 : F' 4 = F 4 := he 4 (by omega)
  have e5 : F' 5 = F 5 := he 5 (by omega)
  refine ⟨fun f hf => ?_, fun c hc => ?_, fun c c' h1 h2 => ?_, fun f f' h1 h2 => ?_⟩
  · rw [e4] at hf
    rw [he (12 + 4 * f) (by omega), he (13 + 4 * f) (by omega), he (11 + 4 * f) (by omega), he (14 + 4 * f) (by omega)]
    exact h.1 f hf
  · rw [e5] at hc
    rw [he (300 + c) (by omega), he (35 + 2 * c) (by omega), he (36 + 2 * c) (by omega), e4]
    exact h.2.1 c hc
  · rw [e5] at h2
    rw [he (300 + c) (by omega), he (300 + c') (by omega)]
    exact h.2.2.1 c c' h1 h2
  · rw [e4] at h2
    rw [he (14 + 4 * f) (by omega), he (14 + 4 * f') (by omega)]
    exact h.2.2.2 f f' h1 h2
noncomputable def PI (F : Nat → Nat) : Prop := (∀ f, f < F 4 → (1 ≤ F (12 + 4 * f) ∧ F (12 + 4 * f) ≤ 99) ∧ F (13 + 4 * f) ≤ 9 ∧ F (11 + 4 * f) ≤ 2 ∧ F (14 + 4 * f) ≤ 19) ∧ (∀ c, c < F 5 → F (300 + c) < F 4 ∧ (1 ≤ F (35 + 2 * c) ∧ F (35 + 2 * c) ≤ 30) ∧ 1 ≤ F (36 + 2 * c) ∧ F (36 + 2 * c) ≤ 9) ∧ (∀ c c', c < c' → c' < F 5 → F (300 + c) ≠ F (300 + c')) ∧ (∀ f f', f < f' → f' < F 4 → F (14 + 4 * f) ≠ F (14 + 4 * f')) ∧ ∀ u u', u < u' → u' < F 7 → F (53 + 2 * u) ≠ F (53 + 2 * u')
theorem PJ_of (h : PI F) : PJ F := ⟨h.1, h.2.1, h.2.2.1, h.2.2.2.1⟩
theorem PI_of (h : PJ F) (u : ∀ u u', u < u' → u' < F 7 → F (53 + 2 * u) ≠ F (53 + 2 * u')) : PI F := ⟨h.1, h.2.1, h.2.2.1, h.2.2.2, u⟩
theorem PI_cg (h : PI F) (B4 : F 4 ≤ 6) (B5 : F 5 ≤ 5) (B7 : F 7 ≤ 4) (he : ∀ j, (j = 4 ∨ j = 5 ∨ j = 7 ∨ (11 ≤ j ∧ j ≤ 44) ∨ (53 ≤ j ∧ j ≤ 60) ∨ (300 ≤ j ∧ j ≤ 304)) → F' j = F j) : PI F' := by
  refine PI_of (PJ_cg (PJ_of h) B4 B5 (fun j hj => he j (by omega))) (fun u u' h1 h2 => ?_)
  rw [he 7 (by omega)] at h2
  rw [he (53 + 2 * u) (by omega), he (53 + 2 * u') (by omega)]
  exact h.2.2.2.2 u u' h1 h2
theorem nlk_lt {i : Nat} (h : nlk b n nm e = some i) : i < nm.length := by
  have := (ff_lt h).2.1
  omega
theorem nam_F (hk : KM F nm) (h : ¬ (nam b n nm 1 e).1 ≠ 0) : (nam b n nm 1 e).2 < F 4 := by
  revert h
  unfold nam
  split
  · split
    · intro h
      exact absurd (show (2 : Nat) ≠ 0 by decide) h
    · rename_i i hi
      split
      · rename_i hs
        intro _
        exact (hk i (nlk_lt hi)).1 hs
      · intro h
        exact absurd (show (2 : Nat) ≠ 0 by decide) h
  · intro h
    exact absurd (show (1 : Nat) ≠ 0 by decide) h
noncomputable def PK (P : Ps) : Prop := PI P.1 ∧ KM P.1 P.2.2.1
theorem KM_f {F' : Nat → Nat} {m : List Nm} (h : KM F m) (h4 : F' 4 = F 4) (h5 : F' 5 = F 5) (h6 : F' 6 = F 6) : KM F' m := KM_c h (by omega) (by omega) (by omega)
theorem PK_ln (hB : B3 (F, W, nm, e)) (hK : PK (F, W, nm, e)) (h : ln b n F W nm e = .inr P') : PK P' := by
  have hbd : Bd F W nm := hB.1.1
  have B0 : F 0 ≤ 5 := hbd.1.1
  have B1 : F 1 ≤ 4 := hbd.1.2.1
  have B4 : F 4 ≤ 6 := hbd.1.2.2.2.1
  have B5 : F 5 ≤ 5 := hbd.1.2.2.2.2.1
  have B6 : F 6 ≤ 4 := hbd.1.2.2.2.2.2.1
  have B7 : F 7 ≤ 4 := hbd.1.2.2.2.2.2.2
  have hc20 : F 0 * F 1 ≤ 5 * 4 := Nat.mul_le_mul B0 B1
  obtain ⟨hI, hM⟩ := hK
  have hI : PI F := hI
  have hM : KM F nm := hM
  unfold ln at h
  split at h
  · cases h
  split at h
  · split at h
    · cases h
    unfold lnClose at h
    split at h
    · cases h
    split at h
    · cases h
    split at h
    · cases h
    cases h
    refine ⟨PI_cg hI B4 B5 B7 (fun j hj => ?_), KM_f hM ?_ ?_ ?_⟩
    · show uF (uF (uF (uF F 0 _) 1 _) 2 _) 9 1 j = F j
      rw [uF_o (by omega), uF_o (by omega), uF_o (by omega), uF_o (by omega)]
    all_goals rfl
  split at h
  · cases h
  split at h
  · unfold lnWall at h
    split at h
    · cases h
    split at h
    · cases h
    split at h
    · cases h
    split at h
    · cases h
    cases h
    refine ⟨PI_cg hI B4 B5 B7 (fun j hj => ?_), KM_f hM ?_ ?_ ?_⟩
    · show uF F 3 _ j = F j
      rw [uF_o (by omega)]
    all_goals rfl
  split at h
  · unfold lnFace at h
    split at h
    · cases h
    rename_i c1
    split at h
    · cases h
    split at h
    · cases h
    rename_i kd hk
    split at h
    · cases h
    rename_i c4
    split at h
    · cases h
    rename_i c5
    split at h
    · cases h
    rename_i c6
    split at h
    · cases h
    rename_i c7
    cases h
    have k3 := kin_3 hk
    have w4 := lab_v c4
    have w5 := lab_v c5
    have w6 := lab_v c6
    have w4 : 1 ≤ tvl b n (tn b n 4 e) ∧ tvl b n (tn b n 4 e) ≤ 99 := w4
    have w5 : 0 ≤ tvl b n (tn b n 6 e) ∧ tvl b n (tn b n 6 e) ≤ 9 := w5
    have w6 : 0 ≤ tvl b n (tn b n 8 e) ∧ tvl b n (tn b n 8 e) ≤ F 0 * F 1 - 1 := w6
    generalize hG : uF (uF (uF (uF (uF F (11 + 4 * F 4) kd) (12 + 4 * F 4) (tvl b n (tn b n 4 e))) (13 + 4 * F 4) (tvl b n (tn b n 6 e))) (14 + 4 * F 4) (tvl b n (tn b n 8 e))) 4 (F 4 + 1) = G
    have g4 : G 4 = F 4 + 1 := by rw [← hG]; exact uF_s
    have go : ∀ j, j ≠ 4 → ¬ (11 + 4 * F 4 ≤ j ∧ j ≤ 14 + 4 * F 4) → G j = F j := fun j h1 h2 => by
      rw [← hG, uF_o (by omega), uF_o (by omega), uF_o (by omega), uF_o (by omega), uF_o (by omega)]
    have g11 : G (11 + 4 * F 4) = kd := by rw [← hG, uF_o (by omega), uF_o (by omega), uF_o (by omega), uF_o (by omega), uF_s]
    have g12 : G (12 + 4 * F 4) = tvl b n (tn b n 4 e) := by rw [← hG, uF_o (by omega), uF_o (by omega), uF_o (by omega), uF_s]
    have g13 : G (13 + 4 * F 4) = tvl b n (tn b n 6 e) := by rw [← hG, uF_o (by omega), uF_o (by omega), uF_s]
    have g14 : G (14 + 4 * F 4) = tvl b n (tn b n 8 e) := by rw [← hG, uF_o (by omega), uF_s]
    have g5 : G 5 = F 5 := go 5 (by decide) (by omega)
    have g6 : G 6 = F 6 := go 6 (by decide) (by omega)
    have nv : ∀ f, f < F 4 → F (14 + 4 * f) ≠ tvl b n (tn b n 8 e) := by
      intro f hf z
      have q : fov F (tvl b n (tn b n 8 e)) = none := by
        cases hq : fov F (tvl b n (tn b n 8 e)) with
        | none => rfl
        | some x => rw [hq] at c7; exact absurd rfl c7
      have := ff_none (P := fun g => Nat.beq (F (14 + 4 * g)) (tvl b n (tn b n 8 e))) q f (Nat.zero_le _) (by omega)
      rw [z, Nat.beq_refl] at this
      cases this
    have g7 : G 7 = F 7 := go 7 (by decide) (by omega)
    refine ⟨PI_of ⟨fun f hf => ?_, fun c hc => ?_, fun c c' h1 h2 => ?_, fun f f' h1 h2 => ?_⟩ (fun u u' h1 h2 => ?_), KM_a (KM_c hM ?_ ?_ ?_) ⟨fun _ => ?_, fun z => ?_, fun z => ?_⟩⟩
    · have hf : f < G 4 := hf
      show (1 ≤ G (12 + 4 * f) ∧ G (12 + 4 * f) ≤ 99) ∧ G (13 + 4 * f) ≤ 9 ∧ G (11 + 4 * f) ≤ 2 ∧ G (14 + 4 * f) ≤ 19
      rw [g4] at hf
      by_cases z : f = F 4
      · subst z
        rw [g11, g12, g13, g14]
        omega
      · rw [go _ (by omega) (by omega), go _ (by omega) (by omega), go _ (by omega) (by omega), go _ (by omega) (by omega)]
        exact hI.1 f (by omega)
    · have hc : c < G 5 := hc
      show G (300 + c) < G 4 ∧ (1 ≤ G (35 + 2 * c) ∧ G (35 + 2 * c) ≤ 30) ∧ 1 ≤ G (36 + 2 * c) ∧ G (36 + 2 * c) ≤ 9
      rw [g5] at hc
      have := hI.2.1 c hc
      rw [go _ (by omega) (by omega), go (35 + 2 * c) (by omega) (by omega), go (36 + 2 * c) (by omega) (by omega), g4]
      exact ⟨by omega, this.2⟩
    · have h2 : c' < G 5 := h2
      show G (300 + c) ≠ G (300 + c')
      rw [g5] at h2
      rw [go _ (by omega) (by omega), go _ (by omega) (by omega)]
      exact hI.2.2.1 c c' h1 h2
    · have h2 : f' < G 4 := h2
      show G (14 + 4 * f) ≠ G (14 + 4 * f')
      rw [g4] at h2
      rw [go (14 + 4 * f) (by omega) (by omega)]
      by_cases z : f' = F 4
      · subst z
        rw [g14]
        exact nv f h1
      · rw [go (14 + 4 * f') (by omega) (by omega)]
        exact hI.2.2.2.1 f f' h1 (by omega)
    · have h2 : u' < G 7 := h2
      show G (53 + 2 * u) ≠ G (53 + 2 * u')
      rw [g7] at h2
      rw [go (53 + 2 * u) (by omega) (by omega), go (53 + 2 * u') (by omega) (by omega)]
      exact hI.2.2.2.2 u u' h1 h2
    · show F 4 ≤ G 4; omega
    · show F 5 ≤ G 5; omega
    · show F 6 ≤ G 6; omega
    · show F 4 < G 4; omega
    · exact absurd (show (1 : Nat) = 2 from z) (by decide)
    · exact absurd (show (1 : Nat) = 3 from z) (by decide)
  split at h
  · unfold lnCanon at h
    split at h
    · cases h
    rename_i c1
    split at h
    · cases h
    split at h
    · cases h
    rename_i c2
    split at h
    · cases h
    rename_i c3
    split at h
    · cases h
    rename_i c4
    split at h
    · cases h
    rename_i c5
    cases h
    have hM2 : KM (uF F 5 (F 5 + 1)) (nm ++ [nw b n (tn b n 1 e) 2 (F 5)]) := KM_a (KM_c hM (Nat.le_of_eq (uF_o (by decide)).symm) (by rw [uF_s]; omega) (Nat.le_of_eq (uF_o (by decide)).symm)) ⟨fun z => absurd (show (2 : Nat) = 1 from z) (by decide), fun _ => (by show F 5 < uF F 5 (F 5 + 1) 5; rw [uF_s]; omega), fun z => absurd (show (2 : Nat) = 3 from z) (by decide)⟩
    have f4 := nam_F hM2 c2
    rw [uF_o (by decide)] at f4
    have w4 := lab_v c4
    have w5 := lab_v c5
    have w4 : 1 ≤ tvl b n (tn b n 4 e) ∧ tvl b n (tn b n 4 e) ≤ 30 := w4
    have w5 : 1 ≤ tvl b n (tn b n 6 e) ∧ tvl b n (tn b n 6 e) ≤ 9 := w5
    generalize hf : (nam b n (nm ++ [nw b n (tn b n 1 e) 2 (F 5)]) 1 (tn b n 2 e)).2 = v at *
    generalize hG : uF (uF (uF (uF F (300 + F 5) v) (35 + 2 * F 5) (tvl b n (tn b n 4 e))) (36 + 2 * F 5) (tvl b n (tn b n 6 e))) 5 (F 5 + 1) = G
    have g5 : G 5 = F 5 + 1 := by rw [← hG]; exact uF_s
    have go : ∀ j, j ≠ 5 → j ≠ 300 + F 5 → j ≠ 35 + 2 * F 5 → j ≠ 36 + 2 * F 5 → G j = F j := fun j h1 h2 h3 h4 => by
      rw [← hG, uF_o h1, uF_o h4, uF_o h3, uF_o h2]
    have g3 : G (300 + F 5) = v := by rw [← hG, uF_o (by omega), uF_o (by omega), uF_o (by omega), uF_s]
    have g35 : G (35 + 2 * F 5) = tvl b n (tn b n 4 e) := by rw [← hG, uF_o (by omega), uF_o (by omega), uF_s]
    have g36 : G (36 + 2 * F 5) = tvl b n (tn b n 6 e) := by rw [← hG, uF_o (by omega), uF_s]
    have g4 : G 4 = F 4 := go 4 (by decide) (by omega) (by omega) (by omega)
    have g6 : G 6 = F 6 := go 6 (by decide) (by omega) (by omega) (by omega)
    have nv : ∀ c, c < F 5 → F (300 + c) ≠ v := by
      intro c hc z
      have q : toc F v = none := by
        cases hq : toc F v with
        | none => rfl
        | some x => rw [hq] at c3; exact absurd rfl c3
      have := ff_none (P := fun c => Nat.beq (F (300 + c)) v) q c (Nat.zero_le _) (by omega)
      rw [z, Nat.beq_refl] at this
      cases this
    have g7 : G 7 = F 7 := go 7 (by decide) (by omega) (by omega) (by omega)
    refine ⟨PI_of ⟨fun f hf => ?_, fun c hc => ?_, fun c c' h1 h2 => ?_, fun f f' h1 h2 => ?_⟩ (fun u u' h1 h2 => ?_), ?_⟩
    · have hf : f < G 4 := hf
      show (1 ≤ G (12 + 4 * f) ∧ G (12 + 4 * f) ≤ 99) ∧ G (13 + 4 * f) ≤ 9 ∧ G (11 + 4 * f) ≤ 2 ∧ G (14 + 4 * f) ≤ 19
      rw [g4] at hf
      rw [go _ (by omega) (by omega) (by omega) (by omega), go (13 + 4 * f) (by omega) (by omega) (by omega) (by omega), go (11 + 4 * f) (by omega) (by omega) (by omega) (by omega), go (14 + 4 * f) (by omega) (by omega) (by omega) (by omega)]
      exact hI.1 f hf
    · have hc : c < G 5 := hc
      show G (300 + c) < G 4 ∧ (1 ≤ G (35 + 2 * c) ∧ G (35 + 2 * c) ≤ 30) ∧ 1 ≤ G (36 + 2 * c) ∧ G (36 + 2 * c) ≤ 9
      rw [g5] at hc
      rw [g4]
      by_cases z : c = F 5
      · subst z
        rw [g3, g35, g36]
        exact ⟨f4, w4, w5⟩
      · rw [go _ (by omega) (by omega) (by omega) (by omega), go (35 + 2 * c) (by omega) (by omega) (by omega) (by omega), go (36 + 2 * c) (by omega) (by omega) (by omega) (by omega)]
        exact hI.2.1 c (by omega)
    · have h2 : c' < G 5 := h2
      show G (300 + c) ≠ G (300 + c')
      rw [g5] at h2
      rw [go (300 + c) (by omega) (by omega) (by omega) (by omega)]
      by_cases z : c' = F 5
      · subst z
        rw [g3]
        exact nv c h1
      · rw [go (300 + c') (by omega) (by omega) (by omega) (by omega)]
        exact hI.2.2.1 c c' h1 (by omega)
    · have h2 : f' < G 4 := h2
      show G (14 + 4 * f) ≠ G (14 + 4 * f')
      rw [g4] at h2
      rw [go (14 + 4 * f) (by omega) (by omega) (by omega) (by omega), go (14 + 4 * f') (by omega) (by omega) (by omega) (by omega)]
      exact hI.2.2.2.1 f f' h1 h2
    · have h2 : u' < G 7 := h2
      show G (53 + 2 * u) ≠ G (53 + 2 * u')
      rw [g7] at h2
      rw [go (53 + 2 * u) (by omega) (by omega) (by omega) (by omega), go (53 + 2 * u') (by omega) (by omega) (by omega) (by omega)]
      exact hI.2.2.2.2 u u' h1 h2
    · exact KM_f hM2 (by show G 4 = _; rw [g4, uF_o (by decide)]) (by show G 5 = _; rw [g5, uF_s]) (by show G 6 = _; rw [g6, uF_o (by decide)])
  split at h
  · unfold lnWalker at h
    split at h
    · cases h
    rename_i cw
    split at h
    · cases h
    split at h
    · cases h
    split at h
    · cases h
    split at h
    · cases h
    split at h
    · cases h
    cases h
    refine ⟨PI_cg hI B4 B5 B7 (fun j hj => ?_), KM_a (KM_c hM ?_ ?_ ?_) ⟨fun z => absurd (show (3 : Nat) = 1 from z) (by decide), fun z => absurd (show (3 : Nat) = 2 from z) (by decide), fun _ => ?_⟩⟩
    · show uF (uF (uF F (45 + 2 * F 6) (tvl b n (tn b n 3 e))) (46 + 2 * F 6) (tvl b n (tn b n 5 e))) 6 (F 6 + 1) j = F j
      rw [uF_o (by omega), uF_o (by omega), uF_o (by omega)]
    · show F 4 ≤ uF (uF (uF F (45 + 2 * F 6) (tvl b n (tn b n 3 e))) (46 + 2 * F 6) (tvl b n (tn b n 5 e))) 6 (F 6 + 1) 4
      rw [uF_o (by omega), uF_o (by omega), uF_o (by omega)]; exact Nat.le_refl _
    · show F 5 ≤ uF (uF (uF F (45 + 2 * F 6) (tvl b n (tn b n 3 e))) (46 + 2 * F 6) (tvl b n (tn b n 5 e))) 6 (F 6 + 1) 5
      rw [uF_o (by omega), uF_o (by omega), uF_o (by omega)]; exact Nat.le_refl _
    · show F 6 ≤ uF (uF (uF F (45 + 2 * F 6) (tvl b n (tn b n 3 e))) (46 + 2 * F 6) (tvl b n (tn b n 5 e))) 6 (F 6 + 1) 6
      rw [uF_s]; exact Nat.le_succ _
    · show F 6 < uF (uF (uF F (45 + 2 * F 6) (tvl b n (tn b n 3 e))) (46 + 2 * F 6) (tvl b n (tn b n 5 e))) 6 (F 6 + 1) 6
      rw [uF_s]; exact Nat.lt_succ_self _
  split at h
  · unfold lnUnsure at h
    split at h
    · cases h
    rename_i cw
    split at h
    · cases h
    split at h
    · cases h
    rename_i c3
    split at h
    · cases h
    cases h
    have nv : ∀ u, u < F 7 → F (53 + 2 * u) ≠ (nam b n nm 2 (tn b n 1 e)).2 := by
      intro u hu z
      have q : usd F (nam b n nm 2 (tn b n 1 e)).2 = none := by
        cases hq : usd F (nam b n nm 2 (tn b n 1 e)).2 with
        | none => rfl
        | some x => rw [hq] at c3; exact absurd rfl c3
      have := ff_none (P := fun u => Nat.beq (F (53 + 2 * u)) (nam b n nm 2 (tn b n 1 e)).2) q u (Nat.zero_le _) (by omega)
      rw [z, Nat.beq_refl] at this
      cases this
    refine ⟨PI_of (PJ_cg (PJ_of hI) B4 B5 (fun j hj => ?_)) (fun u u' h1 h2 => ?_), KM_f hM ?_ ?_ ?_⟩
    · show uF (uF (uF F (53 + 2 * F 7) (nam b n nm 2 (tn b n 1 e)).2) (54 + 2 * F 7) (tvl b n (tn b n 2 e))) 7 (F 7 + 1) j = F j
      rw [uF_o (by omega), uF_o (by omega), uF_o (by omega)]
    · have h2 : u' < uF (uF (uF F (53 + 2 * F 7) (nam b n nm 2 (tn b n 1 e)).2) (54 + 2 * F 7) (tvl b n (tn b n 2 e))) 7 (F 7 + 1) 7 := h2
      show uF (uF (uF F (53 + 2 * F 7) (nam b n nm 2 (tn b n 1 e)).2) (54 + 2 * F 7) (tvl b n (tn b n 2 e))) 7 (F 7 + 1) (53 + 2 * u) ≠ uF (uF (uF F (53 + 2 * F 7) (nam b n nm 2 (tn b n 1 e)).2) (54 + 2 * F 7) (tvl b n (tn b n 2 e))) 7 (F 7 + 1) (53 + 2 * u')
      rw [uF_s] at h2
      rw [uF_o (j := 53 + 2 * u) (by omega), uF_o (j := 53 + 2 * u) (by omega), uF_o (j := 53 + 2 * u) (by omega), uF_o (j := 53 + 2 * u') (by omega), uF_o (j := 53 + 2 * u') (by omega)]
      by_cases z : u' = F 7
      · rw [z, uF_s]
        exact nv u (by omega)
      · rw [uF_o (by omega)]
        exact hI.2.2.2.2 u u' h1 (by omega)
    · show uF (uF (uF F (53 + 2 * F 7) (nam b n nm 2 (tn b n 1 e)).2) (54 + 2 * F 7) (tvl b n (tn b n 2 e))) 7 (F 7 + 1) 4 = F 4
      rw [uF_o (by omega), uF_o (by omega), uF_o (by omega)]
    · show uF (uF (uF F (53 + 2 * F 7) (nam b n nm 2 (tn b n 1 e)).2) (54 + 2 * F 7) (tvl b n (tn b n 2 e))) 7 (F 7 + 1) 5 = F 5
      rw [uF_o (by omega), uF_o (by omega), uF_o (by omega)]
    · show uF (uF (uF F (53 + 2 * F 7) (nam b n nm 2 (tn b n 1 e)).2) (54 + 2 * F 7) (tvl b n (tn b n 2 e))) 7 (F 7 + 1) 6 = F 6
      rw [uF_o (by omega), uF_o (by omega), uF_o (by omega)]
  · unfold lnDropped at h
    split at h
    · cases h
    rename_i c1
    split at h
    · cases h
    split at h
    · cases h
    cases h
    have f4 := nam_F hM c1
    refine ⟨PI_cg hI B4 B5 B7 (fun j hj => ?_), KM_f hM ?_ ?_ ?_⟩
    · show uF (uF F (61 + (nam b n nm 1 (tn b n 1 e)).2) (tvl b n (tn b n 3 e))) 8 (F 8 + 1) j = F j
      rw [uF_o (by omega), uF_o (by omega)]
    · show uF (uF F (61 + (nam b n nm 1 (tn b n 1 e)).2) (tvl b n (tn b n 3 e))) 8 (F 8 + 1) 4 = F 4
      rw [uF_o (by omega), uF_o (by omega)]
    · show uF (uF F (61 + (nam b n nm 1 (tn b n 1 e)).2) (tvl b n (tn b n 3 e))) 8 (F 8 + 1) 5 = F 5
      rw [uF_o (by omega), uF_o (by omega)]
    · show uF (uF F (61 + (nam b n nm 1 (tn b n 1 e)).2) (tvl b n (tn b n 3 e))) 8 (F 8 + 1) 6 = F 6
      rw [uF_o (by omega), uF_o (by omega)]
theorem PK_rd : ∀ (k : Nat) (P P' : Ps), B3 P → PK P → P.2.2.2 ≤ n → rdT b n k P = .inr P' → PK P' := by
  intro k
  induction k with
  | zero => intro P P' _ _ _ h; cases h
  | succ k ih =>
    intro P P' hB hK he h
    obtain ⟨F, W, nm, e⟩ := P
    unfold rdT at h
    split at h
    · cases h
    · rename_i P1 hl
      have h1 := PK_ln hB hK hl
      obtain ⟨b1, b2, -⟩ := B3_ln hB he hl
      split at h
      · split at h
        · cases h; exact h1
        · cases h
      · split at h
        · exact ih (P1.1, P1.2.1, P1.2.2.1, tsp b n P1.2.2.2) P' b1 h1 (tsp_b b2).2 h
        · cases h
theorem PK_00 : PK P00 := ⟨⟨fun f hf => absurd hf (Nat.not_lt_zero _), fun c hc => absurd hc (Nat.not_lt_zero _), fun c c' _ h => absurd h (Nat.not_lt_zero _), fun c c' _ h => absurd h (Nat.not_lt_zero _), fun c c' _ h => absurd h (Nat.not_lt_zero _)⟩, fun i hi => absurd hi (Nat.not_lt_zero _)⟩
end PIV
end
section
/-! what a text that was read says: the other places' bounds -/
section PXV
variable {b : Nat → Nat} {n e : Nat} {nm : List Nm} {F : Nat → Nat} {W : Int32} {P P' : Ps}
noncomputable def cpk (j v : Nat) : Prop := (j = 2 → v ≤ 100) ∧ (35 ≤ j ∧ j ≤ 44 → v ≤ 30) ∧ (45 ≤ j ∧ j ≤ 52 → v ≤ 19) ∧ (j = 53 ∨ j = 55 ∨ j = 57 ∨ j = 59 → v ≤ 4) ∧ (300 ≤ j ∧ j ≤ 304 → v ≤ 5)
noncomputable def PY (F : Nat → Nat) : Prop := ∀ j, cpk j (F j)
noncomputable def PX (F : Nat → Nat) : Prop := PY F ∧ (F 4 ≠ 0 → F 0 ≠ 0)
theorem Z_u {k v : Nat} (hk : k ≠ 0) (h : F 0 ≠ 0) : uF F k v 0 ≠ 0 := by
  rw [uF_o (Ne.symm hk)]
  exact h
theorem PX_u {k v : Nat} (h : PY F) (hv : cpk k v) : PY (uF F k v) := by
  intro j
  by_cases c : j = k
  · subst c
    rw [uF_s]
    exact hv
  · rw [uF_o c]
    exact h j
theorem cpk_n {k v : Nat} (h2 : k ≠ 2) (h3 : ¬ (35 ≤ k ∧ k ≤ 52)) (h4 : k ≠ 53 ∧ k ≠ 55 ∧ k ≠ 57 ∧ k ≠ 59) (h5 : ¬ (300 ≤ k ∧ k ≤ 304)) : cpk k v :=
  ⟨fun z => absurd z h2, fun z => absurd ⟨z.1, Nat.le_trans z.2 (by decide)⟩ h3, fun z => absurd ⟨Nat.le_trans (by decide) z.1, z.2⟩ h3, fun z => (by omega), fun z => absurd z h5⟩
theorem nam_C (hk : KM F nm) (h : ¬ (nam b n nm 2 e).1 ≠ 0) : (nam b n nm 2 e).2 < F 5 := by
  revert h
  unfold nam
  split
  · split
    · intro h
      exact absurd (show (2 : Nat) ≠ 0 by decide) h
    · rename_i i hi
      split
      · rename_i hs
        intro _
        exact (hk i (nlk_lt hi)).2.1 hs
      · intro h
        exact absurd (show (2 : Nat) ≠ 0 by decide) h
  · intro h
    exact absurd (show (1 : Nat) ≠ 0 by decide) h
theorem PX_ln (hB : B3 (F, W, nm, e)) (hM : KM F nm) (hX : PX F) (h : ln b n F W nm e = .inr P') : PX P'.1 := by
  have hbd : Bd F W nm := hB.1.1
  have B0 : F 0 ≤ 5 := hbd.1.1
  have B1 : F 1 ≤ 4 := hbd.1.2.1
  have B4 : F 4 ≤ 6 := hbd.1.2.2.2.1
  have B5 : F 5 ≤ 5 := hbd.1.2.2.2.2.1
  have hc20 : F 0 * F 1 ≤ 5 * 4 := Nat.mul_le_mul B0 B1
  unfold ln at h
  split at h
  · cases h
  split at h
  · split at h
    · cases h
    unfold lnClose at h
    split at h
    · cases h
    rename_i c1
    split at h
    · cases h
    split at h
    · cases h
    rename_i c3
    cases h
    have w1 := lab_v c1
    have w1 : 2 ≤ tvl b n (tn b n 2 e) ∧ tvl b n (tn b n 2 e) ≤ 5 := w1
    have w3 := lab_v c3
    have w3 : 0 ≤ tvl b n (tn b n 6 e) ∧ tvl b n (tn b n 6 e) ≤ 100 := w3
    exact ⟨PX_u (PX_u (PX_u (PX_u hX.1 (cpk_n (by decide) (by decide) (by decide) (by decide))) (cpk_n (by decide) (by decide) (by decide) (by decide))) ⟨fun _ => w3.2, fun z => absurd z (by decide), fun z => absurd z (by decide), fun z => absurd z (by decide), fun z => absurd z (by decide)⟩) (cpk_n (by decide) (by decide) (by decide) (by decide)), fun _ => by
      dsimp only
      exact Z_u (by decide) (Z_u (by decide) (Z_u (by decide) (by rw [uF_s]; omega)))⟩
  split at h
  · cases h
  rename_i c0
  split at h
  · unfold lnWall at h
    split at h
    · cases h
    split at h
    · cases h
    split at h
    · cases h
    split at h
    · cases h
    cases h
    exact ⟨PX_u hX.1 (cpk_n (by decide) (by decide) (by decide) (by decide)), fun _ => by
      dsimp only
      exact Z_u (by decide) c0⟩
  split at h
  · unfold lnFace at h
    split at h
    · cases h
    rename_i c1
    split at h
    · cases h
    split at h
    · cases h
    split at h
    · cases h
    split at h
    · cases h
    split at h
    · cases h
    split at h
    · cases h
    cases h
    exact ⟨PX_u (PX_u (PX_u (PX_u (PX_u hX.1 (cpk_n (by omega) (by omega) (by omega) (by omega))) (cpk_n (by omega) (by omega) (by omega) (by omega))) (cpk_n (by omega) (by omega) (by omega) (by omega))) (cpk_n (by omega) (by omega) (by omega) (by omega))) (cpk_n (by decide) (by decide) (by decide) (by decide)), fun _ => by
      dsimp only
      exact Z_u (by decide) (Z_u (by omega) (Z_u (by omega) (Z_u (by omega) (Z_u (by omega) c0))))⟩
  split at h
  · unfold lnCanon at h
    split at h
    · cases h
    rename_i c1
    split at h
    · cases h
    split at h
    · cases h
    rename_i c2
    split at h
    · cases h
    split at h
    · cases h
    rename_i c4
    split at h
    · cases h
    rename_i c5
    cases h
    have hM2 : KM (uF F 5 (F 5 + 1)) (nm ++ [nw b n (tn b n 1 e) 2 (F 5)]) := KM_a (KM_c hM (Nat.le_of_eq (uF_o (by decide)).symm) (by rw [uF_s]; omega) (Nat.le_of_eq (uF_o (by decide)).symm)) ⟨fun z => absurd (show (2 : Nat) = 1 from z) (by decide), fun _ => (by show F 5 < uF F 5 (F 5 + 1) 5; rw [uF_s]; omega), fun z => absurd (show (2 : Nat) = 3 from z) (by decide)⟩
    have f4 := nam_F hM2 c2
    rw [uF_o (by decide)] at f4
    have w4 := lab_v c4
    have w5 := lab_v c5
    have w4 : 1 ≤ tvl b n (tn b n 4 e) ∧ tvl b n (tn b n 4 e) ≤ 30 := w4
    have w5 : 1 ≤ tvl b n (tn b n 6 e) ∧ tvl b n (tn b n 6 e) ≤ 9 := w5
    have f5 := Nat.le_of_lt_succ (Nat.lt_of_lt_of_le f4 B4)
    exact ⟨PX_u (PX_u (PX_u (PX_u hX.1 ⟨fun z => by omega, fun z => by omega, fun z => by omega, fun z => by omega, fun _ => f5⟩) ⟨fun z => by omega, fun _ => w4.2, fun z => by omega, fun z => by omega, fun z => by omega⟩) ⟨fun z => by omega, fun _ => Nat.le_trans w5.2 (by decide), fun z => by omega, fun z => by omega, fun z => by omega⟩) (cpk_n (by decide) (by decide) (by decide) (by decide)), fun _ => by
      dsimp only
      exact Z_u (by decide) (Z_u (by omega) (Z_u (by omega) (Z_u (by omega) c0)))⟩
  split at h
  · unfold lnWalker at h
    split at h
    · cases h
    rename_i c1
    split at h
    · cases h
    split at h
    · cases h
    rename_i c3
    split at h
    · cases h
    split at h
    · cases h
    rename_i c5
    split at h
    · cases h
    cases h
    have w3 := lab_v c3
    have w5 := lab_v c5
    have w3 : 0 ≤ tvl b n (tn b n 3 e) ∧ tvl b n (tn b n 3 e) ≤ F 0 * F 1 - 1 := w3
    have w5 : 0 ≤ tvl b n (tn b n 5 e) ∧ tvl b n (tn b n 5 e) ≤ F 0 * F 1 - 1 := w5
    have v3 : tvl b n (tn b n 3 e) ≤ 19 := Nat.le_trans w3.2 (by omega)
    have v5 : tvl b n (tn b n 5 e) ≤ 19 := Nat.le_trans w5.2 (by omega)
    exact ⟨PX_u (PX_u (PX_u hX.1 ⟨fun z => by omega, fun z => by omega, fun _ => v3, fun z => by omega, fun z => by omega⟩) ⟨fun z => by omega, fun z => by omega, fun _ => v5, fun z => by omega, fun z => by omega⟩) (cpk_n (by decide) (by decide) (by decide) (by decide)), fun _ => by
      dsimp only
      exact Z_u (by decide) (Z_u (by omega) (Z_u (by omega) c0))⟩
  split at h
  · unfold lnUnsure at h
    split at h
    · cases h
    rename_i c1
    split at h
    · cases h
    rename_i c2
    split at h
    · cases h
    split at h
    · cases h
    cases h
    have f5 := Nat.le_of_lt_succ (Nat.lt_of_lt_of_le (nam_C hM c2) B5)
    exact ⟨PX_u (PX_u (PX_u hX.1 ⟨fun z => by omega, fun z => by omega, fun z => by omega, fun _ => f5, fun z => by omega⟩) (cpk_n (by omega) (by omega) (by omega) (by omega))) (cpk_n (by decide) (by decide) (by decide) (by decide)), fun _ => by
      dsimp only
      exact Z_u (by decide) (Z_u (by omega) (Z_u (by omega) c0))⟩
  · unfold lnDropped at h
    split at h
    · cases h
    rename_i c1
    split at h
    · cases h
    split at h
    · cases h
    cases h
    have f4 := nam_F hM c1
    exact ⟨PX_u (PX_u hX.1 (cpk_n (by omega) (by omega) (by omega) (by omega))) (cpk_n (by decide) (by decide) (by decide) (by decide)), fun _ => by
      dsimp only
      exact Z_u (by decide) (Z_u (by omega) c0)⟩
theorem PX_rd : ∀ (k : Nat) (P P' : Ps), B3 P → PK P → PX P.1 → P.2.2.2 ≤ n → rdT b n k P = .inr P' → PX P'.1 := by
  intro k
  induction k with
  | zero => intro P P' _ _ _ _ h; cases h
  | succ k ih =>
    intro P P' hB hK hX he h
    obtain ⟨F, W, nm, e⟩ := P
    unfold rdT at h
    split at h
    · cases h
    · rename_i P1 hl
      have h1 := PK_ln hB hK hl
      have h2 := PX_ln hB hK.2 hX hl
      obtain ⟨b1, b2, -⟩ := B3_ln hB he hl
      split at h
      · split at h
        · cases h; exact h2
        · cases h
      · split at h
        · exact ih (P1.1, P1.2.1, P1.2.2.1, tsp b n P1.2.2.2) P' b1 h1 h2 (tsp_b b2).2 h
        · cases h
theorem PX_00 : PX P00.1 := ⟨fun j => ⟨fun _ => Nat.zero_le _, fun _ => Nat.zero_le _, fun _ => Nat.zero_le _, fun _ => Nat.zero_le _, fun _ => Nat.zero_le _⟩, fun h => absurd rfl h⟩
end PXV
end
section
/-! two contracts of one call hold together -/
section BTH
theorem mf_both {l : Launch} {x : MethodName} {S : Spec} {P : Array Value → State → Prop} {K : Program → Env → List Frame → State → Array Value → Prop} {Q1 Q2 : Array Value → State → Outcome → State → Prop} (h1 : MetFree l x S P K Q1) (h2 : MetFree l x S P K Q2) : MetFree l x S P K (fun a s o t => Q1 a s o t ∧ Q2 a s o t) := by
  intro p e ha hc hk s m args below hf hS hP hK
  obtain ⟨n1, o1, w1, r1, e1, q1⟩ := h1 p e ha hc hk s m args below hf hS hP hK
  obtain ⟨n2, o2, w2, r2, e2, q2⟩ := h2 p e ha hc hk s m args below hf hS hP hK
  have hn : n1 = n2 := by
    rcases Nat.lt_trichotomy n1 n2 with z | z | z
    · exact absurd (w2 n1 z) e1.not_within
    · exact z
    · exact absurd (w1 n2 z) e2.not_within
  subst hn
  have ho := e1.outcome_unique e2
  subst ho
  exact ⟨n1, o1, w1, r1, e1, q1, q2⟩
end BTH
end
section
/-! two memories of one heap agree wherever the structure has a place; exact and interval contracts of one call hold together -/
section AGR
/-- the same values at the places of name a -/
noncomputable def agA (M1 M2 : Mm) (a : Nat) : Prop := ((mK M1 a).1 < 8 → ∀ k, k < (tf (mK M1 a).1).length → sv M1 a k ((tf (mK M1 a).1).getD k 0) = sv M2 a k ((tf (mK M1 a).1).getD k 0)) ∧ ((mK M1 a).1 = 10 → ∀ i, i < (mK M1 a).2 → mL M1 a i = mL M2 a i) ∧ ((mK M1 a).1 = 8 ∨ (mK M1 a).1 = 9 → ∀ i, i < (mK M1 a).2 → mI M1 a i = mI M2 a i) ∧ (10 < (mK M1 a).1 → ∀ i, i < (mK M1 a).2 → mR M1 a i = mR M2 a i)
noncomputable def agr (M1 M2 : Mm) : Prop := ∀ a, 0 < a → a ≤ mN M1 → agA M1 M2 a
theorem vw_len : ∀ c, c < 8 → ∀ r : vw_C, vwCl[c]? = some r → (tf c).length ≤ r.2.2 := by
  intro c hc r h
  rcases (show c = 0 ∨ c = 1 ∨ c = 2 ∨ c = 3 ∨ c = 4 ∨ c = 5 ∨ c = 6 ∨ c = 7 by omega) with rfl | rfl | rfl | rfl | rfl | rfl | rfl | rfl <;> (cases (Option.some.inj h); exact Nat.le_of_ble_eq_true rfl)
theorem ad_inj {A : Nat → Prop} {g : Nat → ClassId} {ad : Nat → Nat} {M : Mm} (hD : va_D A (wl g ad M)) {x y : Nat} (hx0 : 0 < x) (hx : x ≤ mN M) (hy0 : 0 < y) (hy : y ≤ mN M) (h : ad x = ad y) : x = y := by
  have := hD.1 (x - 1) (y - 1) _ _ (wl_at hx0 hx) (wl_at hy0 hy) h
  omega
theorem iv_rinj {A : Nat → Prop} {g : Nat → ClassId} {ad : Nat → Nat} {M : Mm} (hD : va_D A (wl g ad M)) {x y : Nat} (hx : x ≤ mN M) (hy : y ≤ mN M) (h : iv ad (.ref x) = iv ad (.ref y)) : x = y := by
  cases x with
  | zero =>
    cases y with
    | zero => rfl
    | succ y => cases h
  | succ x =>
    cases y with
    | zero => cases h
    | succ y => exact ad_inj hD (Nat.succ_pos _) hx (Nat.succ_pos _) hy (Value.ref.inj h)
theorem agr_of {D : va_G} {A : Nat → Prop} {g : Nat → ClassId} {ad : Nat → Nat} {M1 M2 : Mm} {H : Heap} (he : M1.1 = M2.1) (hO1 : kO M1) (hO2 : kO M2) (hD : va_D A (wl g ad M1)) (h1 : va_P D vwCl (wl g ad M1) H) (h2 : va_P D vwCl (wl g ad M2) H) : agr M1 M2 := by
  intro a a0 a1
  have eN : mN M2 = mN M1 := congrArg (fun x => x.1) he.symm
  have eK : mK M2 a = mK M1 a := congrArg (fun x => x.2.2.2 a) he.symm
  have q1 := h1 _ _ (wl_at a0 a1)
  have q2 := h2 _ _ (wl_at (M := M2) a0 (by omega))
  refine ⟨fun hk k hkl => ?_, fun hk i hi => ?_, fun hk i hi => ?_, fun hk i hi => ?_⟩
  · unfold en at q1 q2
    rw [if_pos hk] at q1
    rw [eK, if_pos hk] at q2
    obtain ⟨r1, e1, c1, f1, -, -, s1⟩ := q1
    obtain ⟨r2, e2, c2, f2, -, -, s2⟩ := q2
    cases (f1.symm.trans f2)
    have n1 : k < r1.2.2 := Nat.lt_of_lt_of_le hkl (vw_len _ hk r1 e1)
    have n2 : k < r2.2.2 := Nat.lt_of_lt_of_le hkl (vw_len _ hk r2 e2)
    have z := Option.some.inj ((s1 k n1).symm.trans (s2 k n2))
    have z1 : vp_V (eo ad M1 a (tf (mK M1 a).1)) k = iv ad (sv M1 a k ((tf (mK M1 a).1).getD k 0)) := by
      show ((eo ad M1 a (tf (mK M1 a).1))).getD k .null = _
      rw [List.getD_eq_getElem?_getD, eo_at hkl]
      rfl
    have z2 : vp_V (eo ad M2 a (tf (mK M1 a).1)) k = iv ad (sv M2 a k ((tf (mK M1 a).1).getD k 0)) := by
      show ((eo ad M2 a (tf (mK M1 a).1))).getD k .null = _
      rw [List.getD_eq_getElem?_getD, eo_at hkl]
      rfl
    have z : iv ad (sv M1 a k ((tf (mK M1 a).1).getD k 0)) = iv ad (sv M2 a k ((tf (mK M1 a).1).getD k 0)) := by
      rw [← z1, ← z2]
      exact z
    revert z
    cases (tf (mK M1 a).1).getD k 0 with
    | zero => exact fun z => z
    | succ t =>
      cases t with
      | zero => exact fun z => z
      | succ t =>
        intro z
        have z : iv ad (.ref (mR M1 a k)) = iv ad (.ref (mR M2 a k)) := z
        show Value.ref (mR M1 a k) = Value.ref (mR M2 a k)
        rw [iv_rinj hD (hO1 a k) (by rw [← eN]; exact hO2 a k) z]
  · unfold en at q1 q2
    rw [if_neg (by omega), if_pos hk] at q1
    rw [eK, if_neg (by omega), if_pos hk] at q2
    have z := Option.some.inj (Eq.trans (Eq.symm q1) q2)
    have y1 := arrV_read (g 10) (fun j => Value.long (mL M1 a j)) hi
    have y2 := arrV_read (g 10) (fun j => Value.long (mL M2 a j)) hi
    have z : arrV (g 10) (mK M1 a).2 (fun j => Value.long (mL M1 a j)) = arrV (g 10) (mK M1 a).2 (fun j => Value.long (mL M2 a j)) := z
    rw [z] at y1
    exact Value.long.inj (Option.some.inj (y1.symm.trans y2))
  · unfold en at q1 q2
    rw [if_neg (by omega), if_neg (by omega), if_pos (by omega)] at q1
    rw [eK, if_neg (by omega), if_neg (by omega), if_pos (by omega)] at q2
    have z := Option.some.inj (Eq.trans (Eq.symm q1) q2)
    have y1 := arrV_read (g (mK M1 a).1) (fun j => Value.int (mI M1 a j)) hi
    have y2 := arrV_read (g (mK M1 a).1) (fun j => Value.int (mI M2 a j)) hi
    have z : arrV (g (mK M1 a).1) (mK M1 a).2 (fun j => Value.int (mI M1 a j)) = arrV (g (mK M1 a).1) (mK M1 a).2 (fun j => Value.int (mI M2 a j)) := z
    rw [z] at y1
    exact Value.int.inj (Option.some.inj (y1.symm.trans y2))
  · unfold en at q1 q2
    rw [if_neg (by omega), if_neg (by omega), if_neg (by omega)] at q1
    rw [eK, if_neg (by omega), if_neg (by omega), if_neg (by omega)] at q2
    have z := Option.some.inj (Eq.trans (Eq.symm q1) q2)
    have y1 := arrV_read (g (mK M1 a).1) (fun j => va_rf (er ad M1 a j)) hi
    have y2 := arrV_read (g (mK M1 a).1) (fun j => va_rf (er ad M2 a j)) hi
    have z : arrV (g (mK M1 a).1) (mK M1 a).2 (fun j => va_rf (er ad M1 a j)) = arrV (g (mK M1 a).1) (mK M1 a).2 (fun j => va_rf (er ad M2 a j)) := z
    rw [z] at y1
    have x := Option.some.inj (y1.symm.trans y2)
    have x : va_rf (er ad M1 a i) = va_rf (er ad M2 a i) := x
    rw [er_rf, er_rf] at x
    exact iv_rinj hD (hO1 a i) (Nat.le_trans (hO2 a i) (Nat.le_of_eq eN)) x
variable {l : Launch} {X : Nat × (Nat → Int32)} {q : Md} {d mc ms : Nat} {av : List Value} {M : Mm}
/-- two contracts of one call: one run, one answer, memories that agree -/
theorem Ev.both {k1 k2 : Int32 → Mm → Prop} (h1 : Ev l X q d true mc ms av M (fun r M' => ∃ x, r = some (.int x) ∧ k1 x M')) (h2 : Ev l X q d true mc ms av M (fun r M' => ∃ x, r = some (.int x) ∧ k2 x M')) : Ev l X q d true mc ms av M (fun r M' => ∃ x, r = some (.int x) ∧ k1 x M' ∧ ∃ M'', k2 x M'' ∧ M''.1 = M.1 ∧ agr M' M'') := by
  intro D g ad A
  have h := mf_both (h1 D g ad A) (h2 D g ad A)
  intro p e ha hc hk s m args below hf hS hP hK
  obtain ⟨n, o, w, r, e, ⟨q1, q2⟩, q3, q4⟩ := h p e ha hc hk s m args below hf hS hP hK
  refine ⟨n, o, w, r, e, ?_, q2⟩
  obtain ⟨r1, M1, ad1, u1, ⟨x1, v1, w1⟩, z1, a1, b1, c1, d1, e1, f1, g1⟩ := q1
  obtain ⟨r2, M2, ad2, u2, ⟨x2, v2, w2⟩, z2, a2, b2, c2, d2, e2, f2, g2⟩ := q3
  obtain ⟨y1, y2⟩ := z1 rfl
  obtain ⟨y3, y4⟩ := z2 rfl
  subst y1 y3 v1 v2
  have ex : x1 = x2 := by
    have := u1.symm.trans u2
    exact Value.int.inj (Option.some.inj (Outcome.returned.inj this))
  subst ex
  exact ⟨_, M1, _, u1, ⟨x1, rfl, w1, M2, w2, y4, agr_of (y2.trans y4.symm) d1 d2 f1 e1 e2⟩, z1, a1, b1, c1, d1, e1, f1, g1⟩
theorem en_cg {g : Nat → ClassId} {ad : Nat → Nat} {M1 M2 : Mm} {a : Nat} (h0 : mK M2 a = mK M1 a) (h1 : mI M2 a = mI M1 a) (h2 : mL M2 a = mL M1 a) (h3 : mR M2 a = mR M1 a) : en g ad M2 a = en g ad M1 a := by
  have e1 : er ad M2 a = er ad M1 a := by unfold er; rw [h3]
  have e2 : ∀ ts, eo ad M2 a ts = eo ad M1 a ts := by
    intro ts
    unfold eo sv
    rw [h1, h2, h3]
  unfold en
  rw [h0, h1, h2, e1, e2]
theorem wl_cg {g : Nat → ClassId} {ad : Nat → Nat} {M1 M2 : Mm} (hN : mN M2 = mN M1) (hE : ∀ a, a ≤ mN M1 → mK M2 a = mK M1 a ∧ mI M2 a = mI M1 a ∧ mL M2 a = mL M1 a ∧ mR M2 a = mR M1 a) : wl g ad M2 = wl g ad M1 := by
  unfold wl
  rw [hN]
  refine List.map_congr_left fun i hi => ?_
  obtain ⟨a1, a2, a3, a4⟩ := hE (i + 1) (List.mem_range.mp hi)
  rw [en_cg a1 a2 a3 a4]
/-- a contract over a memory with the same places is one over this memory -/
theorem Ev.cg {M2 : Mm} {kr : KR} (hN : mN M2 = mN M) (hK : ∀ a, a ≤ mN M → mK M2 a = mK M a) (hE : ∀ g ad, wl g ad M2 = wl g ad M) (hO : kO M2) (h : Ev l X q d true mc ms av M2 (fun r M' => kr r (M.1, M'.2))) : Ev l X q d true mc ms av M kr := by
  intro D g ad A p e ha hc hk s m args below hf hS hP hK'
  obtain ⟨p1, p2, p3, p4, p5, p6, p7⟩ := hP
  have ew : ∀ ad', wl g ad' M2 = wl g ad' M := fun ad' => hE g ad'
  obtain ⟨n, o, w, r, en, q1, q2⟩ := h D g ad A p e ha hc hk s m args below hf hS ⟨p1, by rw [ew]; exact p2, by rw [ew]; exact p3, p4, hO, by omega, p7⟩ hK'
  refine ⟨n, o, w, r, en, ?_, q2⟩
  obtain ⟨r1, M1, ad1, u1, w1, z1, a1, b1, c1, d1, e1, f1, g1⟩ := q1
  obtain ⟨y1, y2⟩ := z1 rfl
  have n1 : mN M1 = mN M := (congrArg (fun x => x.1) y2).trans hN
  have ew1 : wl g ad1 (M.1, M1.2) = wl g ad1 M1 := by
    refine wl_cg n1.symm (fun a h => ⟨?_, rfl, rfl, rfl⟩)
    have y3 : mK M1 a = mK M2 a := congrArg (fun x => x.2.2.2 a) y2
    rw [y3, hK a (by omega)]
    rfl
  refine ⟨r1, (M.1, M1.2), ad1, u1, w1, fun _ => ⟨y1, rfl⟩, by rw [← hN]; exact a1, Nat.le_refl _, by show mN M ≤ 4000; rw [← n1]; exact c1, fun a i => ?_, by rw [ew1]; exact e1, by rw [ew1]; exact f1, g1⟩
  show mR M1 a i ≤ mN M
  rw [← n1]
  exact d1 a i
end AGR
end
