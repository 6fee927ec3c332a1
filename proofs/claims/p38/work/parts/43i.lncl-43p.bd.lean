section
/-! the class's lines -/
section LNC
variable {l : Launch} {X : Nat × (Nat → Int32)} {d : Nat} {w : Nat × Nat} {p r : Nat} {I : Nat → Nat → Int32} {L : Nat → Nat → Int64} {kr : KR} {b : Nat → Nat} {n e : Nat} {nm : List Nm} {F : Nat → Nat} {W : Int32}
/-- bounds of what was told -/
noncomputable def Bd (F : Nat → Nat) (W : Int32) (nm : List Nm) : Prop := (F 0 ≤ 5 ∧ F 1 ≤ 4 ∧ F 3 ≤ 5 ∧ F 4 ≤ 6 ∧ F 5 ≤ 5 ∧ F 6 ≤ 4 ∧ F 7 ≤ 4) ∧ (∀ k, F k < 1000) ∧ pcI W = nI (F 3) ∧ nm.length = F 4 + F 5 + F 6 ∧ (∀ i, i < nm.length → (nmD nm i).2.2.1 < 10 ∧ (nmD nm i).2.2.2 < 6) ∧ (0 < F 0 → 2 ≤ F 0 ∧ 2 ≤ F 1)
theorem TX_u {a i : Nat} {v : Int32} (ha : 7 ≤ a) (h : TX b n I) : TX b n (u2 I a i v) := ⟨h.1, by rw [u2_o (by omega)]; exact h.2.1, fun j hj => ⟨(h.2.2 j hj).1, by rw [u2_o (by omega)]; exact (h.2.2 j hj).2⟩⟩
theorem TC_u {a i : Nat} {v : Int32} (ha : 7 ≤ a) (h : TC b n e I L) : TC b n e (u2 I a i v) L := ⟨by rw [u2_o (by omega)]; exact h.1, by rw [u2_o (by omega)]; exact h.2.1, by rw [u2_o (by omega)]; exact h.2.2.1, fun z => by rw [u2_o (by omega)]; exact h.2.2.2.1 z, h.2.2.2.2⟩
theorem NC_u {a i : Nat} {v : Int32} (ha : 7 ≤ a) (h : NC b nm I L) : NC b nm (u2 I a i v) L := ⟨⟨by rw [u2_o (by omega)]; exact h.1.1, by rw [u2_o (by omega)]; exact h.1.2⟩, h.2.1, fun j hj => by
  obtain ⟨h1, h2, h3, h4⟩ := h.2.2 j hj
  exact ⟨h1, h2, by rw [u2_o (by omega)]; exact h3, by rw [u2_o (by omega)]; exact h4⟩⟩
theorem sL_u {q a i : Nat} {v : Int32} (ha : q ≤ a ∧ a ≤ q + 12) : sL q I (u2 I a i v) L L := ⟨fun c j _ _ _ z => u2_o (by omega), fun _ _ _ _ => rfl⟩
theorem uFx {x y z v j : Nat} (h : j ≠ 0 ∧ j ≠ 1 ∧ j ≠ 2 ∧ j ≠ 9) : uF (uF (uF (uF F 0 x) 1 y) 2 z) 9 v j = F j := by
  rw [uF_o h.2.2.2, uF_o h.2.2.1, uF_o h.2.1, uF_o h.1]
set_option maxHeartbeats 2000000 in
set_option maxRecDepth 20000 in
theorem x_readsClose (hq : r = 7 ∨ r = 20) (hB : Bd F W nm) (hS : SC b n r (F, W, nm, e) I L) (hE : ∀ er, lnClose b n F W nm e = .inl er → ∀ I' L', sL r I I' L L' → I' 2 13 = nI er.1 → I' 2 14 = nI er.2 → kr (some (.int 0)) (mk w p r I' L')) (hO : ∀ P', lnClose b n F W nm e = .inr P' → ∀ I' L', sL r I I' L L' → SC b n r P' I' L' → kr (some (.int 1)) (mk w p r I' L')) : Ev l X uX4_readsClose (d + 8) true 0 0 [.ref 2] (mk w p r I L) kr := by
  obtain ⟨tx0, he, hc0, nc0, pc0⟩ := hS
  have he : e ≤ n := he
  have hc0 : TC b n (tn b n 0 e) I L := hc0
  have nc0 : NC b nm I L := nc0
  have sl0 : sL r I I L L := sL.rf
  obtain ⟨⟨B0, B1, B3, B4, B5, B6, B7⟩, BF, Bp, Bn, Bs, Bt⟩ := hB
  refine Ev.of (by decide) (Nat.le_of_ble_eq_true rfl) ?_
  unfold lnClose at hE hO
  rcases hq with rfl | rfl
  · refine Wf.gc tkX4_readsClose [] ?_
    conv => whnf
    refine x_take (d := d + 6) tx0 (tn_b he 1) hc0.2.2.1 (fun I1 L1 hs1 hc1 => ?_)
    have hc1 : TC b n (tn b n 1 e) I1 L1 := hc1
    have tx1 := TX_sT tx0 hs1
    have nc1 := NC_sT nc0 hs1
    have pc1 := PC_sT (by decide) pc0 hs1
    have sl1 := sl0.tr (hs1.sL (q := 7))
    conv => whnf
    refine x_labelled (wd := 5007) (lo := 2) (hi := 5) (d := d + 1) (by decide) (by decide) tx1 (tn_b he 1) hc1 (by decide) (fun q I2 L2 hs2 hc2 t2 v1 v2 => ?_) (fun q I2 L2 hs2 => ?_)
    · have q : (lab b n 7 2 5 (tn b n 1 e)).1 = 0 := q
      rw [if_neg (fun z => z q)] at hE hO
      have hc2 : TC b n (tn b n 2 e) I2 L2 := hc2
      have w2 : I2 2 7 = nI (tvl b n (tn b n 2 e)) := hc2.2.2.2.1 t2
      have hu2 : tvl b n (tn b n 2 e) < 1000 := (tvl_b (tn_b he 2) t2).1
      have tx2 := TX_sT tx1 hs2
      have nc2 := NC_sT nc1 hs2
      have pc2 := PC_sT (by decide) pc1 hs2
      have sl2 := sl1.tr (hs2.sL (q := 7))
      conv => whnf
      refine b1 (by decide) ?_
      conv => whnf
      refine x_take (d := d + 6) tx2 (tn_b he 3) hc2.2.2.1 (fun I3 L3 hs3 hc3 => ?_)
      have hc3 : TC b n (tn b n 3 e) I3 L3 := hc3
      have tx3 := TX_sT tx2 hs3
      have nc3 := NC_sT nc2 hs3
      have pc3 := PC_sT (by decide) pc2 hs3
      have sl3 := sl2.tr (hs3.sL (q := 7))
      conv => whnf
      refine x_labelled (wd := 5008) (lo := 2) (hi := 4) (d := d + 1) (by decide) (by decide) tx3 (tn_b he 3) hc3 (by decide) (fun q I4 L4 hs4 hc4 t2 v1 v2 => ?_) (fun q I4 L4 hs4 => ?_)
      · have q : (lab b n 8 2 4 (tn b n 3 e)).1 = 0 := q
        rw [if_neg (fun z => z q)] at hE hO
        have hc4 : TC b n (tn b n 4 e) I4 L4 := hc4
        have w4 : I4 2 7 = nI (tvl b n (tn b n 4 e)) := hc4.2.2.2.1 t2
        have hu4 : tvl b n (tn b n 4 e) < 1000 := (tvl_b (tn_b he 4) t2).1
        have tx4 := TX_sT tx3 hs4
        have nc4 := NC_sT nc3 hs4
        have pc4 := PC_sT (by decide) pc3 hs4
        have sl4 := sl3.tr (hs4.sL (q := 7))
        conv => whnf
        refine b1 (by decide) ?_
        conv => whnf
        refine x_take (d := d + 6) tx4 (tn_b he 5) hc4.2.2.1 (fun I5 L5 hs5 hc5 => ?_)
        have hc5 : TC b n (tn b n 5 e) I5 L5 := hc5
        have tx5 := TX_sT tx4 hs5
        have nc5 := NC_sT nc4 hs5
        have pc5 := PC_sT (by decide) pc4 hs5
        have sl5 := sl4.tr (hs5.sL (q := 7))
        conv => whnf
        refine x_labelled (wd := 5009) (lo := 0) (hi := 100) (d := d + 1) (by decide) (by decide) tx5 (tn_b he 5) hc5 (by decide) (fun q I6 L6 hs6 hc6 t2 v1 v2 => ?_) (fun q I6 L6 hs6 => ?_)
        · have q : (lab b n 9 0 100 (tn b n 5 e)).1 = 0 := q
          rw [if_neg (fun z => z q)] at hE hO
          have hc6 : TC b n (tn b n 6 e) I6 L6 := hc6
          have w6 : I6 2 7 = nI (tvl b n (tn b n 6 e)) := hc6.2.2.2.1 t2
          have hu6 : tvl b n (tn b n 6 e) < 1000 := (tvl_b (tn_b he 6) t2).1
          have tx6 := TX_sT tx5 hs6
          have nc6 := NC_sT nc5 hs6
          have pc6 := PC_sT (by decide) pc5 hs6
          have sl6 := sl5.tr (hs6.sL (q := 7))
          conv => whnf
          refine b1 (by decide) ?_
          conv => whnf
          have hp1 : I6 2 7 = nI (tvl b n (tn b n 6 e)) := w6
          show Ev l X uX4_take (d + 7) true 0 0 [.ref 2] (mk w p 7 (u2 (u2 (u2 I6 7 0 (I2 2 7)) 7 1 (I4 2 7)) 7 2 (I6 2 7)) L6) _
          rw [w2, w4, w6]
          refine x_take (d := d + 6) (TX_u (by decide) (TX_u (by decide) (TX_u (by decide) tx6))) (tn_b he 7) (TC_u (by decide) (TC_u (by decide) (TC_u (by decide) hc6))).2.2.1 (fun I9 L9 hs9 hc9 => ?_)
          conv => whnf
          refine ⟨Or.inr rfl, hO _ rfl I9 L9 (sl6.tr ((sL_u (by decide)).tr ((sL_u (by decide)).tr ((sL_u (by decide)).tr hs9.sL)))) ⟨TX_sT (TX_u (by decide) (TX_u (by decide) (TX_u (by decide) tx6))) hs9, tn_b he 7, hc9, NC_sT (NC_u (by decide) (NC_u (by decide) (NC_u (by decide) nc6))) hs9, PC_sT (by decide) ?_ hs9⟩⟩
          obtain ⟨⟨a0, a1, a2, a3, a4, a5, a6, a7⟩, b1, b2, b3, b4, b5⟩ := pc6
          refine ⟨⟨?_, ?_, ?_, ?_, ?_, ?_, ?_, ?_⟩, fun f hf => ?_, fun f hf => ?_, fun f hf => ?_, fun f hf => ?_, fun f hf => ?_⟩
          · exact rfl
          · exact rfl
          · exact rfl
          · exact a3
          · exact a4
          · exact a5
          · exact a6
          · exact a7
          · have hf : f < F 4 := hf
            rw [u2_o (by omega), u2_o (by omega), u2_o (by omega), u2_o (by omega), u2_o (by omega), u2_o (by omega), u2_o (by omega), u2_o (by omega), u2_o (by omega), u2_o (by omega), u2_o (by omega), u2_o (by omega)]
            show _ = nI (uF (uF (uF (uF F 0 _) 1 _) 2 _) 9 1 _) ∧ _
            simp only [uFx (show 11 + 4 * f ≠ 0 ∧ 11 + 4 * f ≠ 1 ∧ 11 + 4 * f ≠ 2 ∧ 11 + 4 * f ≠ 9 by omega), uFx (show 12 + 4 * f ≠ 0 ∧ 12 + 4 * f ≠ 1 ∧ 12 + 4 * f ≠ 2 ∧ 12 + 4 * f ≠ 9 by omega), uFx (show 13 + 4 * f ≠ 0 ∧ 13 + 4 * f ≠ 1 ∧ 13 + 4 * f ≠ 2 ∧ 13 + 4 * f ≠ 9 by omega), uFx (show 14 + 4 * f ≠ 0 ∧ 14 + 4 * f ≠ 1 ∧ 14 + 4 * f ≠ 2 ∧ 14 + 4 * f ≠ 9 by omega)]
            exact b1 f hf
          · rw [u2_o (by omega), u2_o (by omega), u2_o (by omega)]
            show _ = nI (uF (uF (uF (uF F 0 _) 1 _) 2 _) 9 1 (61 + f))
            rw [uFx (by omega)]
            exact b2 f hf
          · have hf : f < F 5 := hf
            rw [u2_o (by omega), u2_o (by omega), u2_o (by omega), u2_o (by omega), u2_o (by omega), u2_o (by omega), u2_o (by omega), u2_o (by omega), u2_o (by omega)]
            show _ = nI (uF (uF (uF (uF F 0 _) 1 _) 2 _) 9 1 _) ∧ _
            simp only [uFx (show 300 + f ≠ 0 ∧ 300 + f ≠ 1 ∧ 300 + f ≠ 2 ∧ 300 + f ≠ 9 by omega), uFx (show 35 + 2 * f ≠ 0 ∧ 35 + 2 * f ≠ 1 ∧ 35 + 2 * f ≠ 2 ∧ 35 + 2 * f ≠ 9 by omega), uFx (show 36 + 2 * f ≠ 0 ∧ 36 + 2 * f ≠ 1 ∧ 36 + 2 * f ≠ 2 ∧ 36 + 2 * f ≠ 9 by omega)]
            exact b3 f hf
          · have hf : f < F 6 := hf
            rw [u2_o (by omega), u2_o (by omega), u2_o (by omega), u2_o (by omega), u2_o (by omega), u2_o (by omega)]
            show _ = nI (uF (uF (uF (uF F 0 _) 1 _) 2 _) 9 1 _) ∧ _
            simp only [uFx (show 45 + 2 * f ≠ 0 ∧ 45 + 2 * f ≠ 1 ∧ 45 + 2 * f ≠ 2 ∧ 45 + 2 * f ≠ 9 by omega), uFx (show 46 + 2 * f ≠ 0 ∧ 46 + 2 * f ≠ 1 ∧ 46 + 2 * f ≠ 2 ∧ 46 + 2 * f ≠ 9 by omega)]
            exact b4 f hf
          · have hf : f < F 7 := hf
            rw [u2_o (by omega), u2_o (by omega), u2_o (by omega), u2_o (by omega), u2_o (by omega), u2_o (by omega)]
            show _ = nI (uF (uF (uF (uF F 0 _) 1 _) 2 _) 9 1 _) ∧ _
            simp only [uFx (show 53 + 2 * f ≠ 0 ∧ 53 + 2 * f ≠ 1 ∧ 53 + 2 * f ≠ 2 ∧ 53 + 2 * f ≠ 9 by omega), uFx (show 54 + 2 * f ≠ 0 ∧ 54 + 2 * f ≠ 1 ∧ 54 + 2 * f ≠ 2 ∧ 54 + 2 * f ≠ 9 by omega)]
            exact b5 f hf
        · have q : (lab b n 9 0 100 (tn b n 5 e)).1 ≠ 0 := q
          rw [if_pos q] at hE
          conv => whnf
          refine b2 (by decide) ?_
          conv => whnf
          exact ⟨Or.inl rfl, hE _ rfl _ _ ((sl5.tr (hs6.sL (q := 7))).tr sL_fl) fl_13 fl_14⟩
      · have q : (lab b n 8 2 4 (tn b n 3 e)).1 ≠ 0 := q
        rw [if_pos q] at hE
        conv => whnf
        refine b2 (by decide) ?_
        conv => whnf
        exact ⟨Or.inl rfl, hE _ rfl _ _ ((sl3.tr (hs4.sL (q := 7))).tr sL_fl) fl_13 fl_14⟩
    · have q : (lab b n 7 2 5 (tn b n 1 e)).1 ≠ 0 := q
      rw [if_pos q] at hE
      conv => whnf
      refine b2 (by decide) ?_
      conv => whnf
      exact ⟨Or.inl rfl, hE _ rfl _ _ ((sl1.tr (hs2.sL (q := 7))).tr sL_fl) fl_13 fl_14⟩
  · refine Wf.gc tkX4_readsClose [] ?_
    conv => whnf
    refine x_take (d := d + 6) tx0 (tn_b he 1) hc0.2.2.1 (fun I1 L1 hs1 hc1 => ?_)
    have hc1 : TC b n (tn b n 1 e) I1 L1 := hc1
    have tx1 := TX_sT tx0 hs1
    have nc1 := NC_sT nc0 hs1
    have pc1 := PC_sT (by decide) pc0 hs1
    have sl1 := sl0.tr (hs1.sL (q := 20))
    conv => whnf
    refine x_labelled (wd := 5007) (lo := 2) (hi := 5) (d := d + 1) (by decide) (by decide) tx1 (tn_b he 1) hc1 (by decide) (fun q I2 L2 hs2 hc2 t2 v1 v2 => ?_) (fun q I2 L2 hs2 => ?_)
    · have q : (lab b n 7 2 5 (tn b n 1 e)).1 = 0 := q
      rw [if_neg (fun z => z q)] at hE hO
      have hc2 : TC b n (tn b n 2 e) I2 L2 := hc2
      have w2 : I2 2 7 = nI (tvl b n (tn b n 2 e)) := hc2.2.2.2.1 t2
      have hu2 : tvl b n (tn b n 2 e) < 1000 := (tvl_b (tn_b he 2) t2).1
      have tx2 := TX_sT tx1 hs2
      have nc2 := NC_sT nc1 hs2
      have pc2 := PC_sT (by decide) pc1 hs2
      have sl2 := sl1.tr (hs2.sL (q := 20))
      conv => whnf
      refine b1 (by decide) ?_
      conv => whnf
      refine x_take (d := d + 6) tx2 (tn_b he 3) hc2.2.2.1 (fun I3 L3 hs3 hc3 => ?_)
      have hc3 : TC b n (tn b n 3 e) I3 L3 := hc3
      have tx3 := TX_sT tx2 hs3
      have nc3 := NC_sT nc2 hs3
      have pc3 := PC_sT (by decide) pc2 hs3
      have sl3 := sl2.tr (hs3.sL (q := 20))
      conv => whnf
      refine x_labelled (wd := 5008) (lo := 2) (hi := 4) (d := d + 1) (by decide) (by decide) tx3 (tn_b he 3) hc3 (by decide) (fun q I4 L4 hs4 hc4 t2 v1 v2 => ?_) (fun q I4 L4 hs4 => ?_)
      · have q : (lab b n 8 2 4 (tn b n 3 e)).1 = 0 := q
        rw [if_neg (fun z => z q)] at hE hO
        have hc4 : TC b n (tn b n 4 e) I4 L4 := hc4
        have w4 : I4 2 7 = nI (tvl b n (tn b n 4 e)) := hc4.2.2.2.1 t2
        have hu4 : tvl b n (tn b n 4 e) < 1000 := (tvl_b (tn_b he 4) t2).1
        have tx4 := TX_sT tx3 hs4
        have nc4 := NC_sT nc3 hs4
        have pc4 := PC_sT (by decide) pc3 hs4
        have sl4 := sl3.tr (hs4.sL (q := 20))
        conv => whnf
        refine b1 (by decide) ?_
        conv => whnf
        refine x_take (d := d + 6) tx4 (tn_b he 5) hc4.2.2.1 (fun I5 L5 hs5 hc5 => ?_)
        have hc5 : TC b n (tn b n 5 e) I5 L5 := hc5
        have tx5 := TX_sT tx4 hs5
        have nc5 := NC_sT nc4 hs5
        have pc5 := PC_sT (by decide) pc4 hs5
        have sl5 := sl4.tr (hs5.sL (q := 20))
        conv => whnf
        refine x_labelled (wd := 5009) (lo := 0) (hi := 100) (d := d + 1) (by decide) (by decide) tx5 (tn_b he 5) hc5 (by decide) (fun q I6 L6 hs6 hc6 t2 v1 v2 => ?_) (fun q I6 L6 hs6 => ?_)
        · have q : (lab b n 9 0 100 (tn b n 5 e)).1 = 0 := q
          rw [if_neg (fun z => z q)] at hE hO
          have hc6 : TC b n (tn b n 6 e) I6 L6 := hc6
          have w6 : I6 2 7 = nI (tvl b n (tn b n 6 e)) := hc6.2.2.2.1 t2
          have hu6 : tvl b n (tn b n 6 e) < 1000 := (tvl_b (tn_b he 6) t2).1
          have tx6 := TX_sT tx5 hs6
          have nc6 := NC_sT nc5 hs6
          have pc6 := PC_sT (by decide) pc5 hs6
          have sl6 := sl5.tr (hs6.sL (q := 20))
          conv => whnf
          refine b1 (by decide) ?_
          conv => whnf
          have hp1 : I6 2 7 = nI (tvl b n (tn b n 6 e)) := w6
          show Ev l X uX4_take (d + 7) true 0 0 [.ref 2] (mk w p 20 (u2 (u2 (u2 I6 20 0 (I2 2 7)) 20 1 (I4 2 7)) 20 2 (I6 2 7)) L6) _
          rw [w2, w4, w6]
          refine x_take (d := d + 6) (TX_u (by decide) (TX_u (by decide) (TX_u (by decide) tx6))) (tn_b he 7) (TC_u (by decide) (TC_u (by decide) (TC_u (by decide) hc6))).2.2.1 (fun I9 L9 hs9 hc9 => ?_)
          conv => whnf
          refine ⟨Or.inr rfl, hO _ rfl I9 L9 (sl6.tr ((sL_u (by decide)).tr ((sL_u (by decide)).tr ((sL_u (by decide)).tr hs9.sL)))) ⟨TX_sT (TX_u (by decide) (TX_u (by decide) (TX_u (by decide) tx6))) hs9, tn_b he 7, hc9, NC_sT (NC_u (by decide) (NC_u (by decide) (NC_u (by decide) nc6))) hs9, PC_sT (by decide) ?_ hs9⟩⟩
          obtain ⟨⟨a0, a1, a2, a3, a4, a5, a6, a7⟩, b1, b2, b3, b4, b5⟩ := pc6
          refine ⟨⟨?_, ?_, ?_, ?_, ?_, ?_, ?_, ?_⟩, fun f hf => ?_, fun f hf => ?_, fun f hf => ?_, fun f hf => ?_, fun f hf => ?_⟩
          · exact rfl
          · exact rfl
          · exact rfl
          · exact a3
          · exact a4
          · exact a5
          · exact a6
          · exact a7
          · have hf : f < F 4 := hf
            rw [u2_o (by omega), u2_o (by omega), u2_o (by omega), u2_o (by omega), u2_o (by omega), u2_o (by omega), u2_o (by omega), u2_o (by omega), u2_o (by omega), u2_o (by omega), u2_o (by omega), u2_o (by omega)]
            show _ = nI (uF (uF (uF (uF F 0 _) 1 _) 2 _) 9 1 _) ∧ _
            simp only [uFx (show 11 + 4 * f ≠ 0 ∧ 11 + 4 * f ≠ 1 ∧ 11 + 4 * f ≠ 2 ∧ 11 + 4 * f ≠ 9 by omega), uFx (show 12 + 4 * f ≠ 0 ∧ 12 + 4 * f ≠ 1 ∧ 12 + 4 * f ≠ 2 ∧ 12 + 4 * f ≠ 9 by omega), uFx (show 13 + 4 * f ≠ 0 ∧ 13 + 4 * f ≠ 1 ∧ 13 + 4 * f ≠ 2 ∧ 13 + 4 * f ≠ 9 by omega), uFx (show 14 + 4 * f ≠ 0 ∧ 14 + 4 * f ≠ 1 ∧ 14 + 4 * f ≠ 2 ∧ 14 + 4 * f ≠ 9 by omega)]
            exact b1 f hf
          · rw [u2_o (by omega), u2_o (by omega), u2_o (by omega)]
            show _ = nI (uF (uF (uF (uF F 0 _) 1 _) 2 _) 9 1 (61 + f))
            rw [uFx (by omega)]
            exact b2 f hf
          · have hf : f < F 5 := hf
            rw [u2_o (by omega), u2_o (by omega), u2_o (by omega), u2_o (by omega), u2_o (by omega), u2_o (by omega), u2_o (by omega), u2_o (by omega), u2_o (by omega)]
            show _ = nI (uF (uF (uF (uF F 0 _) 1 _) 2 _) 9 1 _) ∧ _
            simp only [uFx (show 300 + f ≠ 0 ∧ 300 + f ≠ 1 ∧ 300 + f ≠ 2 ∧ 300 + f ≠ 9 by omega), uFx (show 35 + 2 * f ≠ 0 ∧ 35 + 2 * f ≠ 1 ∧ 35 + 2 * f ≠ 2 ∧ 35 + 2 * f ≠ 9 by omega), uFx (show 36 + 2 * f ≠ 0 ∧ 36 + 2 * f ≠ 1 ∧ 36 + 2 * f ≠ 2 ∧ 36 + 2 * f ≠ 9 by omega)]
            exact b3 f hf
          · have hf : f < F 6 := hf
            rw [u2_o (by omega), u2_o (by omega), u2_o (by omega), u2_o (by omega), u2_o (by omega), u2_o (by omega)]
            show _ = nI (uF (uF (uF (uF F 0 _) 1 _) 2 _) 9 1 _) ∧ _
            simp only [uFx (show 45 + 2 * f ≠ 0 ∧ 45 + 2 * f ≠ 1 ∧ 45 + 2 * f ≠ 2 ∧ 45 + 2 * f ≠ 9 by omega), uFx (show 46 + 2 * f ≠ 0 ∧ 46 + 2 * f ≠ 1 ∧ 46 + 2 * f ≠ 2 ∧ 46 + 2 * f ≠ 9 by omega)]
            exact b4 f hf
          · have hf : f < F 7 := hf
            rw [u2_o (by omega), u2_o (by omega), u2_o (by omega), u2_o (by omega), u2_o (by omega), u2_o (by omega)]
            show _ = nI (uF (uF (uF (uF F 0 _) 1 _) 2 _) 9 1 _) ∧ _
            simp only [uFx (show 53 + 2 * f ≠ 0 ∧ 53 + 2 * f ≠ 1 ∧ 53 + 2 * f ≠ 2 ∧ 53 + 2 * f ≠ 9 by omega), uFx (show 54 + 2 * f ≠ 0 ∧ 54 + 2 * f ≠ 1 ∧ 54 + 2 * f ≠ 2 ∧ 54 + 2 * f ≠ 9 by omega)]
            exact b5 f hf
        · have q : (lab b n 9 0 100 (tn b n 5 e)).1 ≠ 0 := q
          rw [if_pos q] at hE
          conv => whnf
          refine b2 (by decide) ?_
          conv => whnf
          exact ⟨Or.inl rfl, hE _ rfl _ _ ((sl5.tr (hs6.sL (q := 20))).tr sL_fl) fl_13 fl_14⟩
      · have q : (lab b n 8 2 4 (tn b n 3 e)).1 ≠ 0 := q
        rw [if_pos q] at hE
        conv => whnf
        refine b2 (by decide) ?_
        conv => whnf
        exact ⟨Or.inl rfl, hE _ rfl _ _ ((sl3.tr (hs4.sL (q := 20))).tr sL_fl) fl_13 fl_14⟩
    · have q : (lab b n 7 2 5 (tn b n 1 e)).1 ≠ 0 := q
      rw [if_pos q] at hE
      conv => whnf
      refine b2 (by decide) ?_
      conv => whnf
      exact ⟨Or.inl rfl, hE _ rfl _ _ ((sl1.tr (hs2.sL (q := 20))).tr sL_fl) fl_13 fl_14⟩
end LNC
end
section
/-! the plan, a line more -/
section PLN
variable {l : Launch} {X : Nat × (Nat → Int32)} {d : Nat} {w : Nat × Nat} {p r : Nat} {I : Nat → Nat → Int32} {L : Nat → Nat → Int64} {kr : KR} {b : Nat → Nat} {n e : Nat} {nm : List Nm} {F : Nat → Nat} {W : Int32}
theorem PC_uF {q k v : Nat} (hk : k = 3 ∨ k = 8 ∨ k = 9) (h : PC q F W I) : PC q (uF F k v) W I := by
  have o : ∀ j, j ≠ 3 → j ≠ 8 → j ≠ 9 → uF F k v j = F j := fun j h1 h2 h3 => uF_o (by omega)
  obtain ⟨⟨a0, a1, a2, a3, a4, a5, a6, a7⟩, b1, b2, b3, b4, b5⟩ := h
  refine ⟨⟨by rw [o 0 (by omega) (by omega) (by omega)]; exact a0, by rw [o 1 (by omega) (by omega) (by omega)]; exact a1, by rw [o 2 (by omega) (by omega) (by omega)]; exact a2, a3, by rw [o 4 (by omega) (by omega) (by omega)]; exact a4, by rw [o 5 (by omega) (by omega) (by omega)]; exact a5, by rw [o 6 (by omega) (by omega) (by omega)]; exact a6, by rw [o 7 (by omega) (by omega) (by omega)]; exact a7⟩, fun f hf => ?_, fun f hf => ?_, fun f hf => ?_, fun f hf => ?_, fun f hf => ?_⟩
  · rw [o 4 (by omega) (by omega) (by omega)] at hf
    rw [o _ (by omega) (by omega) (by omega), o _ (by omega) (by omega) (by omega), o _ (by omega) (by omega) (by omega), o _ (by omega) (by omega) (by omega)]
    exact b1 f hf
  · rw [o _ (by omega) (by omega) (by omega)]
    exact b2 f hf
  · rw [o 5 (by omega) (by omega) (by omega)] at hf
    rw [o _ (by omega) (by omega) (by omega), o _ (by omega) (by omega) (by omega), o _ (by omega) (by omega) (by omega)]
    exact b3 f hf
  · rw [o 6 (by omega) (by omega) (by omega)] at hf
    rw [o _ (by omega) (by omega) (by omega), o _ (by omega) (by omega) (by omega)]
    exact b4 f hf
  · rw [o 7 (by omega) (by omega) (by omega)] at hf
    rw [o _ (by omega) (by omega) (by omega), o _ (by omega) (by omega) (by omega)]
    exact b5 f hf
theorem PC_W {q : Nat} {V : Int32} (h : PC q F W I) : PC q F V (u2 I q 3 V) := by
  obtain ⟨⟨a0, a1, a2, a3, a4, a5, a6, a7⟩, b1, b2, b3, b4, b5⟩ := h
  refine ⟨⟨by rw [u2_o (by omega)]; exact a0, by rw [u2_o (by omega)]; exact a1, by rw [u2_o (by omega)]; exact a2, u2_s, by rw [u2_o (by omega)]; exact a4, by rw [u2_o (by omega)]; exact a5, by rw [u2_o (by omega)]; exact a6, by rw [u2_o (by omega)]; exact a7⟩, fun f hf => ?_, fun f hf => ?_, fun f hf => ?_, fun f hf => ?_, fun f hf => ?_⟩
  · rw [u2_o (by omega), u2_o (by omega), u2_o (by omega), u2_o (by omega)]
    exact b1 f hf
  · rw [u2_o (by omega)]
    exact b2 f hf
  · rw [u2_o (by omega), u2_o (by omega), u2_o (by omega)]
    exact b3 f hf
  · rw [u2_o (by omega), u2_o (by omega)]
    exact b4 f hf
  · rw [u2_o (by omega), u2_o (by omega)]
    exact b5 f hf
theorem PC_drop {q f v : Nat} (hf : f < 6) (B4 : F 4 ≤ 6) (B5 : F 5 ≤ 5) (B6 : F 6 ≤ 4) (B7 : F 7 ≤ 4) (h : PC q F W I) : PC q (uF (uF F (61 + f) v) 8 (F 8 + 1)) W (u2 I (q + 5) f (nI v)) := by
  have o : ∀ j, j ≠ 61 + f → j ≠ 8 → uF (uF F (61 + f) v) 8 (F 8 + 1) j = F j := fun j h1 h2 => by rw [uF_o h2, uF_o h1]
  obtain ⟨⟨a0, a1, a2, a3, a4, a5, a6, a7⟩, b1, b2, b3, b4, b5⟩ := h
  refine ⟨⟨by rw [u2_o (by omega), o 0 (by omega) (by omega)]; exact a0, by rw [u2_o (by omega), o 1 (by omega) (by omega)]; exact a1, by rw [u2_o (by omega), o 2 (by omega) (by omega)]; exact a2, by rw [u2_o (by omega)]; exact a3, by rw [u2_o (by omega), o 4 (by omega) (by omega)]; exact a4, by rw [u2_o (by omega), o 5 (by omega) (by omega)]; exact a5, by rw [u2_o (by omega), o 6 (by omega) (by omega)]; exact a6, by rw [u2_o (by omega), o 7 (by omega) (by omega)]; exact a7⟩, fun g hg => ?_, fun g hg => ?_, fun g hg => ?_, fun g hg => ?_, fun g hg => ?_⟩
  · rw [o 4 (by omega) (by omega)] at hg
    rw [u2_o (by omega), u2_o (by omega), u2_o (by omega), u2_o (by omega), o _ (by omega) (by omega), o _ (by omega) (by omega), o _ (by omega) (by omega), o _ (by omega) (by omega)]
    exact b1 g hg
  · by_cases e : g = f
    · subst e
      rw [u2_s, uF_o (by omega), uF_s]
    · rw [u2_o (by omega), o _ (by omega) (by omega)]
      exact b2 g hg
  · rw [o 5 (by omega) (by omega)] at hg
    rw [u2_o (by omega), u2_o (by omega), u2_o (by omega), o _ (by omega) (by omega), o _ (by omega) (by omega), o _ (by omega) (by omega)]
    exact b3 g hg
  · rw [o 6 (by omega) (by omega)] at hg
    rw [u2_o (by omega), u2_o (by omega), o _ (by omega) (by omega), o _ (by omega) (by omega)]
    exact b4 g hg
  · rw [o 7 (by omega) (by omega)] at hg
    rw [u2_o (by omega), u2_o (by omega), o _ (by omega) (by omega), o _ (by omega) (by omega)]
    exact b5 g hg
theorem PC_face_o {kd ho we at0 j : Nat} (h : j ≠ 11 + 4 * F 4 ∧ j ≠ 12 + 4 * F 4 ∧ j ≠ 13 + 4 * F 4 ∧ j ≠ 14 + 4 * F 4 ∧ j ≠ 4) : (uF (uF (uF (uF (uF F (11 + 4 * F 4) kd) (12 + 4 * F 4) ho) (13 + 4 * F 4) we) (14 + 4 * F 4) at0) 4 (F 4 + 1)) j = F j := by
  rw [uF_o (h.2.2.2.2), uF_o (h.2.2.2.1), uF_o (h.2.2.1), uF_o (h.2.1), uF_o (h.1)]
theorem PC_face {q kd ho we at0 : Nat} (h : PC q F W I) (B4 : F 4 ≤ 6) (B5 : F 5 ≤ 5) (B6 : F 6 ≤ 4) (B7 : F 7 ≤ 4) (Bc : F 4 < 6) (x1 : I (q + 1) (F 4) = nI kd) (x2 : I (q + 2) (F 4) = nI ho) (x3 : I (q + 3) (F 4) = nI we) (x4 : I (q + 4) (F 4) = nI at0) : PC q (uF (uF (uF (uF (uF F (11 + 4 * F 4) kd) (12 + 4 * F 4) ho) (13 + 4 * F 4) we) (14 + 4 * F 4) at0) 4 (F 4 + 1)) W (u2 I q 4 (nI (F 4 + 1))) := by
  obtain ⟨⟨a0, a1, a2, a3, a4, a5, a6, a7⟩, b1, b2, b3, b4, b5⟩ := h
  refine ⟨⟨?_, ?_, ?_, ?_, ?_, ?_, ?_, ?_⟩, fun f hf => ?_, fun f hf => ?_, fun f hf => ?_, fun f hf => ?_, fun f hf => ?_⟩
  · rw [u2_o (by omega), PC_face_o (by omega)]; exact a0
  · rw [u2_o (by omega), PC_face_o (by omega)]; exact a1
  · rw [u2_o (by omega), PC_face_o (by omega)]; exact a2
  · rw [u2_o (by omega)]; exact a3
  · rw [u2_s, uF_s]
  · rw [u2_o (by omega), PC_face_o (by omega)]; exact a5
  · rw [u2_o (by omega), PC_face_o (by omega)]; exact a6
  · rw [u2_o (by omega), PC_face_o (by omega)]; exact a7
  · rw [uF_s] at hf
    rw [u2_o (by omega), u2_o (by omega), u2_o (by omega), u2_o (by omega)]
    rcases Nat.lt_or_ge f (F 4) with z | z
    · rw [PC_face_o (j := 11 + 4 * f) (by omega), PC_face_o (j := 12 + 4 * f) (by omega), PC_face_o (j := 13 + 4 * f) (by omega), PC_face_o (j := 14 + 4 * f) (by omega)]
      exact b1 f z
    · have ef : f = F 4 := by omega
      subst ef
      exact ⟨by rw [uF_o (by omega), uF_o (by omega), uF_o (by omega), uF_o (by omega), uF_s]; exact x1, by rw [uF_o (by omega), uF_o (by omega), uF_o (by omega), uF_s]; exact x2, by rw [uF_o (by omega), uF_o (by omega), uF_s]; exact x3, by rw [uF_o (by omega), uF_s]; exact x4⟩
  · rw [u2_o (by omega), PC_face_o (j := 61 + f) (by omega)]
    exact b2 f hf
  · have hf : f < F 5 := by rw [PC_face_o (by omega)] at hf; exact hf
    rw [u2_o (by omega), u2_o (by omega), u2_o (by omega), PC_face_o (j := 300 + f) (by omega), PC_face_o (j := 35 + 2 * f) (by omega), PC_face_o (j := 36 + 2 * f) (by omega)]
    exact b3 f hf
  · have hf : f < F 6 := by rw [PC_face_o (by omega)] at hf; exact hf
    rw [u2_o (by omega), u2_o (by omega), PC_face_o (j := 45 + 2 * f) (by omega), PC_face_o (j := 46 + 2 * f) (by omega)]
    exact b4 f hf
  · have hf : f < F 7 := by rw [PC_face_o (by omega)] at hf; exact hf
    rw [u2_o (by omega), u2_o (by omega), PC_face_o (j := 53 + 2 * f) (by omega), PC_face_o (j := 54 + 2 * f) (by omega)]
    exact b5 f hf
theorem PC_canon_o {f0 ve ev j : Nat} (h : j ≠ 300 + F 5 ∧ j ≠ 35 + 2 * F 5 ∧ j ≠ 36 + 2 * F 5 ∧ j ≠ 5) : (uF (uF (uF (uF F (300 + F 5) f0) (35 + 2 * F 5) ve) (36 + 2 * F 5) ev) 5 (F 5 + 1)) j = F j := by
  rw [uF_o (h.2.2.2), uF_o (h.2.2.1), uF_o (h.2.1), uF_o (h.1)]
theorem PC_canon {q f0 ve ev : Nat} (h : PC q F W I) (B4 : F 4 ≤ 6) (B5 : F 5 ≤ 5) (B6 : F 6 ≤ 4) (B7 : F 7 ≤ 4) (Bc : F 5 < 5) (x6 : I (q + 6) (F 5) = nI f0) (x7 : I (q + 7) (F 5) = nI ve) (x8 : I (q + 8) (F 5) = nI ev) : PC q (uF (uF (uF (uF F (300 + F 5) f0) (35 + 2 * F 5) ve) (36 + 2 * F 5) ev) 5 (F 5 + 1)) W (u2 I q 10 (nI (F 5 + 1))) := by
  obtain ⟨⟨a0, a1, a2, a3, a4, a5, a6, a7⟩, b1, b2, b3, b4, b5⟩ := h
  refine ⟨⟨?_, ?_, ?_, ?_, ?_, ?_, ?_, ?_⟩, fun f hf => ?_, fun f hf => ?_, fun f hf => ?_, fun f hf => ?_, fun f hf => ?_⟩
  · rw [u2_o (by omega), PC_canon_o (by omega)]; exact a0
  · rw [u2_o (by omega), PC_canon_o (by omega)]; exact a1
  · rw [u2_o (by omega), PC_canon_o (by omega)]; exact a2
  · rw [u2_o (by omega)]; exact a3
  · rw [u2_o (by omega), PC_canon_o (by omega)]; exact a4
  · rw [u2_s, uF_s]
  · rw [u2_o (by omega), PC_canon_o (by omega)]; exact a6
  · rw [u2_o (by omega), PC_canon_o (by omega)]; exact a7
  · have hf : f < F 4 := by rw [PC_canon_o (by omega)] at hf; exact hf
    rw [u2_o (by omega), u2_o (by omega), u2_o (by omega), u2_o (by omega), PC_canon_o (j := 11 + 4 * f) (by omega), PC_canon_o (j := 12 + 4 * f) (by omega), PC_canon_o (j := 13 + 4 * f) (by omega), PC_canon_o (j := 14 + 4 * f) (by omega)]
    exact b1 f hf
  · rw [u2_o (by omega), PC_canon_o (j := 61 + f) (by omega)]
    exact b2 f hf
  · rw [uF_s] at hf
    rw [u2_o (by omega), u2_o (by omega), u2_o (by omega)]
    rcases Nat.lt_or_ge f (F 5) with z | z
    · rw [PC_canon_o (j := 300 + f) (by omega), PC_canon_o (j := 35 + 2 * f) (by omega), PC_canon_o (j := 36 + 2 * f) (by omega)]
      exact b3 f z
    · have ef : f = F 5 := by omega
      subst ef
      exact ⟨by rw [uF_o (by omega), uF_o (by omega), uF_o (by omega), uF_s]; exact x6, by rw [uF_o (by omega), uF_o (by omega), uF_s]; exact x7, by rw [uF_o (by omega), uF_s]; exact x8⟩
  · have hf : f < F 6 := by rw [PC_canon_o (by omega)] at hf; exact hf
    rw [u2_o (by omega), u2_o (by omega), PC_canon_o (j := 45 + 2 * f) (by omega), PC_canon_o (j := 46 + 2 * f) (by omega)]
    exact b4 f hf
  · have hf : f < F 7 := by rw [PC_canon_o (by omega)] at hf; exact hf
    rw [u2_o (by omega), u2_o (by omega), PC_canon_o (j := 53 + 2 * f) (by omega), PC_canon_o (j := 54 + 2 * f) (by omega)]
    exact b5 f hf
theorem PC_walker_o {fr to0 j : Nat} (h : j ≠ 45 + 2 * F 6 ∧ j ≠ 46 + 2 * F 6 ∧ j ≠ 6) : (uF (uF (uF F (45 + 2 * F 6) fr) (46 + 2 * F 6) to0) 6 (F 6 + 1)) j = F j := by
  rw [uF_o (h.2.2), uF_o (h.2.1), uF_o (h.1)]
theorem PC_walker {q fr to0 : Nat} (h : PC q F W I) (B4 : F 4 ≤ 6) (B5 : F 5 ≤ 5) (B6 : F 6 ≤ 4) (B7 : F 7 ≤ 4) (Bc : F 6 < 4) (x9 : I (q + 9) (F 6) = nI fr) (x10 : I (q + 10) (F 6) = nI to0) : PC q (uF (uF (uF F (45 + 2 * F 6) fr) (46 + 2 * F 6) to0) 6 (F 6 + 1)) W (u2 I q 14 (nI (F 6 + 1))) := by
  obtain ⟨⟨a0, a1, a2, a3, a4, a5, a6, a7⟩, b1, b2, b3, b4, b5⟩ := h
  refine ⟨⟨?_, ?_, ?_, ?_, ?_, ?_, ?_, ?_⟩, fun f hf => ?_, fun f hf => ?_, fun f hf => ?_, fun f hf => ?_, fun f hf => ?_⟩
  · rw [u2_o (by omega), PC_walker_o (by omega)]; exact a0
  · rw [u2_o (by omega), PC_walker_o (by omega)]; exact a1
  · rw [u2_o (by omega), PC_walker_o (by omega)]; exact a2
  · rw [u2_o (by omega)]; exact a3
  · rw [u2_o (by omega), PC_walker_o (by omega)]; exact a4
  · rw [u2_o (by omega), PC_walker_o (by omega)]; exact a5
  · rw [u2_s, uF_s]
  · rw [u2_o (by omega), PC_walker_o (by omega)]; exact a7
  · have hf : f < F 4 := by rw [PC_walker_o (by omega)] at hf; exact hf
    rw [u2_o (by omega), u2_o (by omega), u2_o (by omega), u2_o (by omega), PC_walker_o (j := 11 + 4 * f) (by omega), PC_walker_o (j := 12 + 4 * f) (by omega), PC_walker_o (j := 13 + 4 * f) (by omega), PC_walker_o (j := 14 + 4 * f) (by omega)]
    exact b1 f hf
  · rw [u2_o (by omega), PC_walker_o (j := 61 + f) (by omega)]
    exact b2 f hf
  · have hf : f < F 5 := by rw [PC_walker_o (by omega)] at hf; exact hf
    rw [u2_o (by omega), u2_o (by omega), u2_o (by omega), PC_walker_o (j := 300 + f) (by omega), PC_walker_o (j := 35 + 2 * f) (by omega), PC_walker_o (j := 36 + 2 * f) (by omega)]
    exact b3 f hf
  · rw [uF_s] at hf
    rw [u2_o (by omega), u2_o (by omega)]
    rcases Nat.lt_or_ge f (F 6) with z | z
    · rw [PC_walker_o (j := 45 + 2 * f) (by omega), PC_walker_o (j := 46 + 2 * f) (by omega)]
      exact b4 f z
    · have ef : f = F 6 := by omega
      subst ef
      exact ⟨by rw [uF_o (by omega), uF_o (by omega), uF_s]; exact x9, by rw [uF_o (by omega), uF_s]; exact x10⟩
  · have hf : f < F 7 := by rw [PC_walker_o (by omega)] at hf; exact hf
    rw [u2_o (by omega), u2_o (by omega), PC_walker_o (j := 53 + 2 * f) (by omega), PC_walker_o (j := 54 + 2 * f) (by omega)]
    exact b5 f hf
theorem PC_unsure_o {c0 ve j : Nat} (h : j ≠ 53 + 2 * F 7 ∧ j ≠ 54 + 2 * F 7 ∧ j ≠ 7) : (uF (uF (uF F (53 + 2 * F 7) c0) (54 + 2 * F 7) ve) 7 (F 7 + 1)) j = F j := by
  rw [uF_o (h.2.2), uF_o (h.2.1), uF_o (h.1)]
theorem PC_unsure {q c0 ve : Nat} (h : PC q F W I) (B4 : F 4 ≤ 6) (B5 : F 5 ≤ 5) (B6 : F 6 ≤ 4) (B7 : F 7 ≤ 4) (Bc : F 7 < 4) (x11 : I (q + 11) (F 7) = nI c0) (x12 : I (q + 12) (F 7) = nI ve) : PC q (uF (uF (uF F (53 + 2 * F 7) c0) (54 + 2 * F 7) ve) 7 (F 7 + 1)) W (u2 I q 17 (nI (F 7 + 1))) := by
  obtain ⟨⟨a0, a1, a2, a3, a4, a5, a6, a7⟩, b1, b2, b3, b4, b5⟩ := h
  refine ⟨⟨?_, ?_, ?_, ?_, ?_, ?_, ?_, ?_⟩, fun f hf => ?_, fun f hf => ?_, fun f hf => ?_, fun f hf => ?_, fun f hf => ?_⟩
  · rw [u2_o (by omega), PC_unsure_o (by omega)]; exact a0
  · rw [u2_o (by omega), PC_unsure_o (by omega)]; exact a1
  · rw [u2_o (by omega), PC_unsure_o (by omega)]; exact a2
  · rw [u2_o (by omega)]; exact a3
  · rw [u2_o (by omega), PC_unsure_o (by omega)]; exact a4
  · rw [u2_o (by omega), PC_unsure_o (by omega)]; exact a5
  · rw [u2_o (by omega), PC_unsure_o (by omega)]; exact a6
  · rw [u2_s, uF_s]
  · have hf : f < F 4 := by rw [PC_unsure_o (by omega)] at hf; exact hf
    rw [u2_o (by omega), u2_o (by omega), u2_o (by omega), u2_o (by omega), PC_unsure_o (j := 11 + 4 * f) (by omega), PC_unsure_o (j := 12 + 4 * f) (by omega), PC_unsure_o (j := 13 + 4 * f) (by omega), PC_unsure_o (j := 14 + 4 * f) (by omega)]
    exact b1 f hf
  · rw [u2_o (by omega), PC_unsure_o (j := 61 + f) (by omega)]
    exact b2 f hf
  · have hf : f < F 5 := by rw [PC_unsure_o (by omega)] at hf; exact hf
    rw [u2_o (by omega), u2_o (by omega), u2_o (by omega), PC_unsure_o (j := 300 + f) (by omega), PC_unsure_o (j := 35 + 2 * f) (by omega), PC_unsure_o (j := 36 + 2 * f) (by omega)]
    exact b3 f hf
  · have hf : f < F 6 := by rw [PC_unsure_o (by omega)] at hf; exact hf
    rw [u2_o (by omega), u2_o (by omega), PC_unsure_o (j := 45 + 2 * f) (by omega), PC_unsure_o (j := 46 + 2 * f) (by omega)]
    exact b4 f hf
  · rw [uF_s] at hf
    rw [u2_o (by omega), u2_o (by omega)]
    rcases Nat.lt_or_ge f (F 7) with z | z
    · rw [PC_unsure_o (j := 53 + 2 * f) (by omega), PC_unsure_o (j := 54 + 2 * f) (by omega)]
      exact b5 f z
    · have ef : f = F 7 := by omega
      subst ef
      exact ⟨by rw [uF_o (by omega), uF_o (by omega), uF_s]; exact x11, by rw [uF_o (by omega), uF_s]; exact x12⟩
end PLN
end
section
/-! the class's lines: walls, faces -/
section LNW
variable {l : Launch} {X : Nat × (Nat → Int32)} {d : Nat} {w : Nat × Nat} {p r : Nat} {I : Nat → Nat → Int32} {L : Nat → Nat → Int64} {kr : KR} {b : Nat → Nat} {n e : Nat} {nm : List Nm} {F : Nat → Nat} {W : Int32}
theorem bnd_t {lo hi : Nat} (h : bnd b n lo hi e = 0) : tso b n e = 2 := by
  unfold bnd at h
  split at h
  · assumption
  · cases h
theorem bnd_v {lo hi : Nat} (h : bnd b n lo hi e = 0) : lo ≤ tvl b n e ∧ tvl b n e ≤ hi := by
  unfold bnd at h
  split at h
  · split at h
    · assumption
    · cases h
  · cases h
theorem kin_3 {k : Nat} (h : kin b n e = some k) : k < 3 := by
  unfold kin at h
  split at h
  · cases h; decide
  · split at h
    · cases h; decide
    · split at h
      · cases h; decide
      · cases h
theorem nI_m2 {k : Nat} (h : k < 1000) : ¬ nI k = -2 := by
  intro z
  have z : (nI k).toInt = (-2 : Int32).toInt := by rw [z]
  rw [nI_toInt (by omega)] at z
  have : (-2 : Int32).toInt = -2 := rfl
  omega
theorem ff_b {P : Nat → Bool} {m k : Nat} (h : ff P m 0 = some k) : k < m := by
  have := ff_lt h
  omega
theorem hs2x {q : Nat} {I' : Nat → Nat → Int32} {L' : Nat → Nat → Int64} {a i : Nat} (hs : sL q I I' L L') (ht : ∀ a i, a ≠ 2 → a ≠ 5 → a ≠ 6 → I' a i = I a i) (z1 : ¬ (a = 2 ∧ 4 ≤ i)) (z2 : a ≠ 5) (z3 : a ≠ 6) (hq : 7 ≤ q := by decide) : I' a i = I a i := by
  by_cases e : a = 2
  · exact hs.1 a i z1 z2 z3 (by omega)
  · exact ht a i e z2 z3
set_option maxHeartbeats 2000000 in
set_option maxRecDepth 20000 in
theorem x_readsWall (hq : r = 7 ∨ r = 20) (hB : Bd F W nm) (hT : 0 < F 0) (hS : SC b n r (F, W, nm, e) I L) (hE : ∀ er, lnWall b n F W nm e = .inl er → ∀ I' L', sL r I I' L L' → I' 2 13 = nI er.1 → I' 2 14 = nI er.2 → kr (some (.int 0)) (mk w p r I' L')) (hO : ∀ P', lnWall b n F W nm e = .inr P' → ∀ I' L', sL r I I' L L' → SC b n r P' I' L' → kr (some (.int 1)) (mk w p r I' L')) : Ev l X uX4_readsWall (d + 8) true 0 0 [.ref 2] (mk w p r I L) kr := by
  obtain ⟨tx0, he, hc0, nc0, pc0⟩ := hS
  have he : e ≤ n := he
  have hc0 : TC b n (tn b n 0 e) I L := hc0
  have nc0 : NC b nm I L := nc0
  have sl0 : sL r I I L L := sL.rf
  obtain ⟨⟨B0, B1, B3, B4, B5, B6, B7⟩, BF, Bp, Bn, Bs, Bt⟩ := hB
  refine Ev.of (by decide) (Nat.le_of_ble_eq_true rfl) ?_
  unfold lnWall at hE hO
  obtain ⟨Bt0, Bt1⟩ := Bt hT
  have hc4 : 2 * 2 ≤ F 0 * F 1 := Nat.mul_le_mul Bt0 Bt1
  have hc20 : F 0 * F 1 ≤ 5 * 4 := Nat.mul_le_mul B0 B1
  have ecel : (nI (F 0 * F 1) - nI 1 : Int32) = nI (F 0 * F 1 - 1) := nI_sub (by omega)
  rcases hq with rfl | rfl
  · refine Wf.gc tkX4_readsWall [] ?_
    conv => whnf
    have a6 : I 7 14 = nI (F 6) := pc0.1.2.2.2.2.2.2.1
    refine x_wallCount (q := 7) (d := d + 6) (Or.inl rfl) pc0 ?_
    conv => whnf
    refine ⟨fun z => ?_, fun z => ?_⟩
    · have z : pcI W < 5 := z
      rw [Bp, show (5 : Int32) = nI 5 from rfl, nI_ltI (by omega) (by decide)] at z
      rw [if_neg (by omega)] at hE hO
      conv => whnf
      refine ⟨fun z2 => ?_, fun z2 => ?_⟩
      · have z2 : I 7 14 ≤ 0 := z2
        rw [a6, show (0 : Int32) = nI 0 from rfl, nI_leI (by omega) (by decide)] at z2
        rw [if_neg (by omega)] at hE hO
        conv => whnf
        refine x_take (d := d + 6) tx0 (tn_b he 1) hc0.2.2.1 (fun I1 L1 hs1 hc1 => ?_)
        have hc1 : TC b n (tn b n 1 e) I1 L1 := hc1
        have tx1 := TX_sT tx0 hs1
        have nc1 := NC_sT nc0 hs1
        have pc1 := PC_sT (by decide) pc0 hs1
        have sl1 := sl0.tr (hs1.sL (q := 7))
        conv => whnf
        refine x_cells (q := 7) (Or.inl rfl) B0 B1 pc1 ?_
        conv => whnf
        show Ev l X uX4_bounded (d + 7) true 0 0 [.ref 2, .int (nI 0), .int (nI (F 0 * F 1) - nI 1)] (mk w p 7 I1 L1) _
        rw [ecel]
        refine x_bounded (d := d + 6) (by decide) (by omega) (tn_b he 1) hc1 (fun q => ?_) (fun q => ?_)
        · have t2 : tso b n (tn b n 1 e) = 2 := bnd_t q
          have w1 : I1 2 7 = nI (tvl b n (tn b n 1 e)) := hc1.2.2.2.1 t2
          rw [if_neg (fun z => z q)] at hE hO
          conv => whnf
          refine b1 (by decide) ?_
          conv => whnf
          show Ev l X uX3_isWall (d + 7) true 0 0 [.ref 7, .int (I1 2 7)] (mk w p 7 I1 L1) _
          rw [w1]
          refine x_isWall (q := 7) (Or.inl rfl) pc1 ?_
          conv => whnf
          refine ⟨fun z3 => ?_, fun z3 => ?_⟩
          · rw [if_neg (by rw [bI_f z3]; decide)] at hO
            conv => whnf
            show Ev l X uX4_take (d + 7) true 0 0 [.ref 2] (mk w p 7 (u2 I1 7 3 (I1 7 3 ||| ((1 : Int32) <<< (I1 2 7 &&& 31)))) L1) _
            rw [w1, show I1 7 3 = W from pc1.1.2.2.2.1]
            refine x_take (d := d + 6) (TX_u (by decide) tx1) (tn_b he 2) (TC_u (by decide) hc1).2.2.1 (fun I9 L9 hs9 hc9 => ?_)
            conv => whnf
            exact ⟨Or.inr rfl, hO _ rfl I9 L9 (sl1.tr ((sL_u (by decide)).tr hs9.sL)) ⟨TX_sT (TX_u (by decide) tx1) hs9, tn_b he 2, hc9, NC_sT (NC_u (by decide) nc1) hs9, PC_sT (by decide) (PC_uF (Or.inl rfl) (PC_W pc1)) hs9⟩⟩
          · rw [if_pos (bI_t z3)] at hE
            conv => whnf
            refine x_fails hc1 ?_
            conv => whnf
            exact ⟨Or.inl rfl, hE (3, tst b n (tn b n 1 e)) rfl (fl I1 3 (tst b n (tn b n 1 e))) L1 (sl1.tr sL_fl) fl_13 fl_14⟩
        · rw [if_pos q] at hE
          conv => whnf
          refine b2 (by decide) ?_
          conv => whnf
          exact ⟨Or.inl rfl, hE _ rfl _ _ (sl1.tr sL_fl) fl_13 fl_14⟩
      · have z2 : ¬ I 7 14 ≤ 0 := z2
        rw [a6, show (0 : Int32) = nI 0 from rfl, nI_leI (by omega) (by decide)] at z2
        rw [if_pos (by omega)] at hE
        conv => whnf
        refine x_fails hc0 ?_
        conv => whnf
        exact ⟨Or.inl rfl, hE (7, tst b n (tn b n 0 e)) rfl (fl I 7 (tst b n (tn b n 0 e))) L (sl0.tr sL_fl) fl_13 fl_14⟩
    · have z : ¬ pcI W < 5 := z
      rw [Bp, show (5 : Int32) = nI 5 from rfl, nI_ltI (by omega) (by decide)] at z
      rw [if_pos (by omega)] at hE
      conv => whnf
      refine x_fails hc0 ?_
      conv => whnf
      exact ⟨Or.inl rfl, hE (5, tst b n (tn b n 0 e)) rfl (fl I 5 (tst b n (tn b n 0 e))) L (sl0.tr sL_fl) fl_13 fl_14⟩
  · refine Wf.gc tkX4_readsWall [] ?_
    conv => whnf
    have a6 : I 20 14 = nI (F 6) := pc0.1.2.2.2.2.2.2.1
    refine x_wallCount (q := 20) (d := d + 6) (Or.inr rfl) pc0 ?_
    conv => whnf
    refine ⟨fun z => ?_, fun z => ?_⟩
    · have z : pcI W < 5 := z
      rw [Bp, show (5 : Int32) = nI 5 from rfl, nI_ltI (by omega) (by decide)] at z
      rw [if_neg (by omega)] at hE hO
      conv => whnf
      refine ⟨fun z2 => ?_, fun z2 => ?_⟩
      · have z2 : I 20 14 ≤ 0 := z2
        rw [a6, show (0 : Int32) = nI 0 from rfl, nI_leI (by omega) (by decide)] at z2
        rw [if_neg (by omega)] at hE hO
        conv => whnf
        refine x_take (d := d + 6) tx0 (tn_b he 1) hc0.2.2.1 (fun I1 L1 hs1 hc1 => ?_)
        have hc1 : TC b n (tn b n 1 e) I1 L1 := hc1
        have tx1 := TX_sT tx0 hs1
        have nc1 := NC_sT nc0 hs1
        have pc1 := PC_sT (by decide) pc0 hs1
        have sl1 := sl0.tr (hs1.sL (q := 20))
        conv => whnf
        refine x_cells (q := 20) (Or.inr rfl) B0 B1 pc1 ?_
        conv => whnf
        show Ev l X uX4_bounded (d + 7) true 0 0 [.ref 2, .int (nI 0), .int (nI (F 0 * F 1) - nI 1)] (mk w p 20 I1 L1) _
        rw [ecel]
        refine x_bounded (d := d + 6) (by decide) (by omega) (tn_b he 1) hc1 (fun q => ?_) (fun q => ?_)
        · have t2 : tso b n (tn b n 1 e) = 2 := bnd_t q
          have w1 : I1 2 7 = nI (tvl b n (tn b n 1 e)) := hc1.2.2.2.1 t2
          rw [if_neg (fun z => z q)] at hE hO
          conv => whnf
          refine b1 (by decide) ?_
          conv => whnf
          show Ev l X uX3_isWall (d + 7) true 0 0 [.ref 20, .int (I1 2 7)] (mk w p 20 I1 L1) _
          rw [w1]
          refine x_isWall (q := 20) (Or.inr rfl) pc1 ?_
          conv => whnf
          refine ⟨fun z3 => ?_, fun z3 => ?_⟩
          · rw [if_neg (by rw [bI_f z3]; decide)] at hO
            conv => whnf
            show Ev l X uX4_take (d + 7) true 0 0 [.ref 2] (mk w p 20 (u2 I1 20 3 (I1 20 3 ||| ((1 : Int32) <<< (I1 2 7 &&& 31)))) L1) _
            rw [w1, show I1 20 3 = W from pc1.1.2.2.2.1]
            refine x_take (d := d + 6) (TX_u (by decide) tx1) (tn_b he 2) (TC_u (by decide) hc1).2.2.1 (fun I9 L9 hs9 hc9 => ?_)
            conv => whnf
            exact ⟨Or.inr rfl, hO _ rfl I9 L9 (sl1.tr ((sL_u (by decide)).tr hs9.sL)) ⟨TX_sT (TX_u (by decide) tx1) hs9, tn_b he 2, hc9, NC_sT (NC_u (by decide) nc1) hs9, PC_sT (by decide) (PC_uF (Or.inl rfl) (PC_W pc1)) hs9⟩⟩
          · rw [if_pos (bI_t z3)] at hE
            conv => whnf
            refine x_fails hc1 ?_
            conv => whnf
            exact ⟨Or.inl rfl, hE (3, tst b n (tn b n 1 e)) rfl (fl I1 3 (tst b n (tn b n 1 e))) L1 (sl1.tr sL_fl) fl_13 fl_14⟩
        · rw [if_pos q] at hE
          conv => whnf
          refine b2 (by decide) ?_
          conv => whnf
          exact ⟨Or.inl rfl, hE _ rfl _ _ (sl1.tr sL_fl) fl_13 fl_14⟩
      · have z2 : ¬ I 20 14 ≤ 0 := z2
        rw [a6, show (0 : Int32) = nI 0 from rfl, nI_leI (by omega) (by decide)] at z2
        rw [if_pos (by omega)] at hE
        conv => whnf
        refine x_fails hc0 ?_
        conv => whnf
        exact ⟨Or.inl rfl, hE (7, tst b n (tn b n 0 e)) rfl (fl I 7 (tst b n (tn b n 0 e))) L (sl0.tr sL_fl) fl_13 fl_14⟩
    · have z : ¬ pcI W < 5 := z
      rw [Bp, show (5 : Int32) = nI 5 from rfl, nI_ltI (by omega) (by decide)] at z
      rw [if_pos (by omega)] at hE
      conv => whnf
      refine x_fails hc0 ?_
      conv => whnf
      exact ⟨Or.inl rfl, hE (5, tst b n (tn b n 0 e)) rfl (fl I 5 (tst b n (tn b n 0 e))) L (sl0.tr sL_fl) fl_13 fl_14⟩
set_option maxHeartbeats 2000000 in
set_option maxRecDepth 20000 in
theorem x_readsFace (hq : r = 7 ∨ r = 20) (hB : Bd F W nm) (hT : 0 < F 0) (hS : SC b n r (F, W, nm, e) I L) (hE : ∀ er, lnFace b n F W nm e = .inl er → ∀ I' L', sL r I I' L L' → I' 2 13 = nI er.1 → I' 2 14 = nI er.2 → kr (some (.int 0)) (mk w p r I' L')) (hO : ∀ P', lnFace b n F W nm e = .inr P' → ∀ I' L', sL r I I' L L' → SC b n r P' I' L' → kr (some (.int 1)) (mk w p r I' L')) : Ev l X uX4_readsFace (d + 9) true 0 0 [.ref 2] (mk w p r I L) kr := by
  obtain ⟨tx0, he, hc0, nc0, pc0⟩ := hS
  have he : e ≤ n := he
  have hc0 : TC b n (tn b n 0 e) I L := hc0
  have nc0 : NC b nm I L := nc0
  have sl0 : sL r I I L L := sL.rf
  obtain ⟨⟨B0, B1, B3, B4, B5, B6, B7⟩, BF, Bp, Bn, Bs, Bt⟩ := hB
  refine Ev.of (by decide) (Nat.le_of_ble_eq_true rfl) ?_
  unfold lnFace at hE hO
  obtain ⟨Bt0, Bt1⟩ := Bt hT
  have hc4 : 2 * 2 ≤ F 0 * F 1 := Nat.mul_le_mul Bt0 Bt1
  have hc20 : F 0 * F 1 ≤ 5 * 4 := Nat.mul_le_mul B0 B1
  have ecel : (nI (F 0 * F 1) - nI 1 : Int32) = nI (F 0 * F 1 - 1) := nI_sub (by omega)
  rcases hq with rfl | rfl
  · refine Wf.gc tkX4_readsFace [8] ?_
    conv => whnf
    show Wf l X uX4_readsFace (d + 9) true (mC (mk w p 7 I L) + 0, mS (mk w p 7 I L) + 0) 8 [(0, .ref 2), (1, .int (I 7 4))] [] (mk w p 7 I L) kr
    rw [show I 7 4 = nI (F 4) from pc0.1.2.2.2.2.1]
    refine Wf.gc tkX4_readsFace [] ?_
    conv => whnf
    refine ⟨fun z => ?_, fun z => ?_⟩
    · have z : nI (F 4) < 6 := z
      rw [show (6 : Int32) = nI 6 from rfl, nI_ltI (by omega) (by decide)] at z
      rw [if_neg (by omega)] at hE hO
      conv => whnf
      refine x_take (d := d + 7) tx0 (tn_b he 1) hc0.2.2.1 (fun I1 L1 hs1 hc1 => ?_)
      have hc1 : TC b n (tn b n 1 e) I1 L1 := hc1
      have tx1 := TX_sT tx0 hs1
      have nc1 := NC_sT nc0 hs1
      have pc1 := PC_sT (by decide) pc0 hs1
      have sl1 := sl0.tr (hs1.sL (q := 7))
      conv => whnf
      show Ev l X uX4_tells (d + 8) true 0 0 [.ref 2, .int (nI 1), .int (nI (F 4))] (mk w p 7 I1 L1) _
      refine x_tells (d := d + 1) tx1 (tn_b he 1) hc1 nc1 (by omega) (fun q I2 L2 hs2 ht2 nc2 hc2 => ?_) (fun q => ?_)
      · rw [if_neg (fun z => z q)] at hE hO
        conv => whnf
        refine b1 (by decide) ?_
        conv => whnf
        have hc2 : TC b n (tn b n 2 e) I2 L2 := hc2
        have nc2 : NC b (nm ++ [nw b n (tn b n 1 e) 1 (F 4)]) I2 L2 := nc2
        have tx2 : TX b n I2 := TX_sL (Or.inl rfl) tx1 hs2
        have pc2 : PC 7 F W I2 := PC_eq pc1 (fun a i z1 z2 => ht2 a i (by omega) (by omega) (by omega))
        have sl2 : sL 7 I I2 L L2 := sl1.tr ⟨fun a i z1 z2 z3 z4 => hs2x hs2 ht2 z1 z2 z3, hs2.2⟩
        refine x_kindHere (d := d + 2) tx2 (tn_b he 2) hc2 ?_
        conv => whnf
        cases hkd : kin b n (tn b n 2 e) with
        | none =>
          rw [hkd] at hE
          refine b2 (fun z => z rfl) ?_
          conv => whnf
          refine x_fails hc2 ?_
          conv => whnf
          exact ⟨Or.inl rfl, hE (1, tst b n (tn b n 2 e)) rfl (fl I2 1 (tst b n (tn b n 2 e))) L2 (sl2.tr sL_fl) fl_13 fl_14⟩
        | some kd =>
          rw [hkd] at hE hO
          dsimp only at hE hO
          have hk3 := kin_3 hkd
          refine b1 (fun z => nI_m2 (by omega) z) ?_
          conv => whnf
          refine ⟨F 4, ix (N := 6) (by omega) (by decide), ?_⟩
          conv => whnf
          show Ev l X uX4_take (d + 8) true 0 0 [.ref 2] (mk w p 7 (u2 I2 8 (F 4) (nI kd)) L2) _
          obtain ⟨I3, hI3⟩ : ∃ J, J = u2 I2 8 (F 4) (nI kd) := ⟨_, rfl⟩
          obtain ⟨L3, hL3⟩ : ∃ J, J = L2 := ⟨_, rfl⟩
          rw [← hI3, ← hL3]
          have tx3 : TX b n I3 := by rw [hI3]; exact TX_u (by decide) tx2
          have hc3 : TC b n (tn b n 2 e) I3 L3 := by rw [hI3, hL3]; exact TC_u (by decide) hc2
          have nc3 : NC b (nm ++ [nw b n (tn b n 1 e) 1 (F 4)]) I3 L3 := by rw [hI3, hL3]; exact NC_u (by decide) nc2
          have pc3 : PC 7 F W I3 := by rw [hI3]; exact PC_new (q := 7) (j := 1) pc2 (by omega)
          have sl3 : sL 7 I I3 L L3 := by rw [hI3, hL3]; exact sl2.tr (sL_u (by decide))
          have xk3 : I3 8 (F 4) = (nI kd) := by rw [hI3, u2_s]
          refine x_take (d := d + 7) tx3 (tn_b he 3) hc3.2.2.1 (fun I4 L4 hs4 hc4 => ?_)
          have hc4 : TC b n (tn b n 3 e) I4 L4 := hc4
          have tx4 := TX_sT tx3 hs4
          have nc4 := NC_sT nc3 hs4
          have pc4 := PC_sT (by decide) pc3 hs4
          have sl4 := sl3.tr (hs4.sL (q := 7))
          have xk4 : I4 8 (F 4) = (nI kd) := (hs4.1 _ _ (by omega)).trans xk3
          conv => whnf
          refine x_labelled (wd := 5010) (lo := 1) (hi := 99) (d := d + 2) (by decide) (by decide) tx4 (tn_b he 3) hc4 (by decide) (fun q I5 L5 hs5 hc5 t2 v1 v2 => ?_) (fun q I5 L5 hs5 => ?_)
          · have q : (lab b n 10 1 99 (tn b n 3 e)).1 = 0 := q
            rw [if_neg (fun z => z q)] at hE hO
            have hc5 : TC b n (tn b n 4 e) I5 L5 := hc5
            have w4 : I5 2 7 = nI (tvl b n (tn b n 4 e)) := hc5.2.2.2.1 t2
            have hu4 : tvl b n (tn b n 4 e) < 1000 := (tvl_b (tn_b he 4) t2).1
            have tx5 := TX_sT tx4 hs5
            have nc5 := NC_sT nc4 hs5
            have pc5 := PC_sT (by decide) pc4 hs5
            have sl5 := sl4.tr (hs5.sL (q := 7))
            have xk5 : I5 8 (F 4) = (nI kd) := (hs5.1 _ _ (by omega)).trans xk4
            conv => whnf
            refine b1 (by decide) ?_
            conv => whnf
            refine ⟨F 4, ix (N := 6) (by omega) (by decide), ?_⟩
            conv => whnf
            show Ev l X uX4_take (d + 8) true 0 0 [.ref 2] (mk w p 7 (u2 I5 9 (F 4) (I5 2 7)) L5) _
            rw [w4]
            show Ev l X uX4_take (d + 8) true 0 0 [.ref 2] (mk w p 7 (u2 I5 9 (F 4) (nI (tvl b n (tn b n 4 e)))) L5) _
            obtain ⟨I6, hI6⟩ : ∃ J, J = u2 I5 9 (F 4) (nI (tvl b n (tn b n 4 e))) := ⟨_, rfl⟩
            obtain ⟨L6, hL6⟩ : ∃ J, J = L5 := ⟨_, rfl⟩
            rw [← hI6, ← hL6]
            have tx6 : TX b n I6 := by rw [hI6]; exact TX_u (by decide) tx5
            have hc6 : TC b n (tn b n 4 e) I6 L6 := by rw [hI6, hL6]; exact TC_u (by decide) hc5
            have nc6 : NC b (nm ++ [nw b n (tn b n 1 e) 1 (F 4)]) I6 L6 := by rw [hI6, hL6]; exact NC_u (by decide) nc5
            have pc6 : PC 7 F W I6 := by rw [hI6]; exact PC_new (q := 7) (j := 2) pc5 (by omega)
            have sl6 : sL 7 I I6 L L6 := by rw [hI6, hL6]; exact sl5.tr (sL_u (by decide))
            have xk6 : I6 8 (F 4) = (nI kd) := by rw [hI6, u2_o (by omega)]; exact xk5
            have xh6 : I6 9 (F 4) = (nI (tvl b n (tn b n 4 e))) := by rw [hI6, u2_s]
            refine x_take (d := d + 7) tx6 (tn_b he 5) hc6.2.2.1 (fun I7 L7 hs7 hc7 => ?_)
            have hc7 : TC b n (tn b n 5 e) I7 L7 := hc7
            have tx7 := TX_sT tx6 hs7
            have nc7 := NC_sT nc6 hs7
            have pc7 := PC_sT (by decide) pc6 hs7
            have sl7 := sl6.tr (hs7.sL (q := 7))
            have xk7 : I7 8 (F 4) = (nI kd) := (hs7.1 _ _ (by omega)).trans xk6
            have xh7 : I7 9 (F 4) = (nI (tvl b n (tn b n 4 e))) := (hs7.1 _ _ (by omega)).trans xh6
            conv => whnf
            refine x_labelled (wd := 5011) (lo := 0) (hi := 9) (d := d + 2) (by decide) (by decide) tx7 (tn_b he 5) hc7 (by decide) (fun q I8 L8 hs8 hc8 t2 v1 v2 => ?_) (fun q I8 L8 hs8 => ?_)
            · have q : (lab b n 11 0 9 (tn b n 5 e)).1 = 0 := q
              rw [if_neg (fun z => z q)] at hE hO
              have hc8 : TC b n (tn b n 6 e) I8 L8 := hc8
              have w6 : I8 2 7 = nI (tvl b n (tn b n 6 e)) := hc8.2.2.2.1 t2
              have hu6 : tvl b n (tn b n 6 e) < 1000 := (tvl_b (tn_b he 6) t2).1
              have tx8 := TX_sT tx7 hs8
              have nc8 := NC_sT nc7 hs8
              have pc8 := PC_sT (by decide) pc7 hs8
              have sl8 := sl7.tr (hs8.sL (q := 7))
              have xk8 : I8 8 (F 4) = (nI kd) := (hs8.1 _ _ (by omega)).trans xk7
              have xh8 : I8 9 (F 4) = (nI (tvl b n (tn b n 4 e))) := (hs8.1 _ _ (by omega)).trans xh7
              conv => whnf
              refine b1 (by decide) ?_
              conv => whnf
              refine ⟨F 4, ix (N := 6) (by omega) (by decide), ?_⟩
              conv => whnf
              show Ev l X uX4_take (d + 8) true 0 0 [.ref 2] (mk w p 7 (u2 I8 10 (F 4) (I8 2 7)) L8) _
              rw [w6]
              show Ev l X uX4_take (d + 8) true 0 0 [.ref 2] (mk w p 7 (u2 I8 10 (F 4) (nI (tvl b n (tn b n 6 e)))) L8) _
              obtain ⟨I9, hI9⟩ : ∃ J, J = u2 I8 10 (F 4) (nI (tvl b n (tn b n 6 e))) := ⟨_, rfl⟩
              obtain ⟨L9, hL9⟩ : ∃ J, J = L8 := ⟨_, rfl⟩
              rw [← hI9, ← hL9]
              have tx9 : TX b n I9 := by rw [hI9]; exact TX_u (by decide) tx8
              have hc9 : TC b n (tn b n 6 e) I9 L9 := by rw [hI9, hL9]; exact TC_u (by decide) hc8
              have nc9 : NC b (nm ++ [nw b n (tn b n 1 e) 1 (F 4)]) I9 L9 := by rw [hI9, hL9]; exact NC_u (by decide) nc8
              have pc9 : PC 7 F W I9 := by rw [hI9]; exact PC_new (q := 7) (j := 3) pc8 (by omega)
              have sl9 : sL 7 I I9 L L9 := by rw [hI9, hL9]; exact sl8.tr (sL_u (by decide))
              have xk9 : I9 8 (F 4) = (nI kd) := by rw [hI9, u2_o (by omega)]; exact xk8
              have xh9 : I9 9 (F 4) = (nI (tvl b n (tn b n 4 e))) := by rw [hI9, u2_o (by omega)]; exact xh8
              have xw9 : I9 10 (F 4) = (nI (tvl b n (tn b n 6 e))) := by rw [hI9, u2_s]
              refine x_take (d := d + 7) tx9 (tn_b he 7) hc9.2.2.1 (fun I10 L10 hs10 hc10 => ?_)
              have hc10 : TC b n (tn b n 7 e) I10 L10 := hc10
              have tx10 := TX_sT tx9 hs10
              have nc10 := NC_sT nc9 hs10
              have pc10 := PC_sT (by decide) pc9 hs10
              have sl10 := sl9.tr (hs10.sL (q := 7))
              have xk10 : I10 8 (F 4) = (nI kd) := (hs10.1 _ _ (by omega)).trans xk9
              have xh10 : I10 9 (F 4) = (nI (tvl b n (tn b n 4 e))) := (hs10.1 _ _ (by omega)).trans xh9
              have xw10 : I10 10 (F 4) = (nI (tvl b n (tn b n 6 e))) := (hs10.1 _ _ (by omega)).trans xw9
              conv => whnf
              refine x_cells (q := 7) (Or.inl rfl) B0 B1 pc10 ?_
              conv => whnf
              show Ev l X uX4_labelled (d + 8) true 0 0 [.ref 2, .ref 5012, .int (nI 0), .int (nI (F 0 * F 1) - nI 1)] (mk w p 7 I10 L10) _
              rw [ecel]
              refine x_labelled (wd := 5012) (lo := 0) (hi := (F 0 * F 1 - 1)) (d := d + 2) (by decide) (by omega) tx10 (tn_b he 7) hc10 (by decide) (fun q I11 L11 hs11 hc11 t2 v1 v2 => ?_) (fun q I11 L11 hs11 => ?_)
              · have q : (lab b n 12 0 (F 0 * F 1 - 1) (tn b n 7 e)).1 = 0 := q
                rw [if_neg (fun z => z q)] at hE hO
                have hc11 : TC b n (tn b n 8 e) I11 L11 := hc11
                have w8 : I11 2 7 = nI (tvl b n (tn b n 8 e)) := hc11.2.2.2.1 t2
                have hu8 : tvl b n (tn b n 8 e) < 1000 := (tvl_b (tn_b he 8) t2).1
                have tx11 := TX_sT tx10 hs11
                have nc11 := NC_sT nc10 hs11
                have pc11 := PC_sT (by decide) pc10 hs11
                have sl11 := sl10.tr (hs11.sL (q := 7))
                have xk11 : I11 8 (F 4) = (nI kd) := (hs11.1 _ _ (by omega)).trans xk10
                have xh11 : I11 9 (F 4) = (nI (tvl b n (tn b n 4 e))) := (hs11.1 _ _ (by omega)).trans xh10
                have xw11 : I11 10 (F 4) = (nI (tvl b n (tn b n 6 e))) := (hs11.1 _ _ (by omega)).trans xw10
                conv => whnf
                refine b1 (by decide) ?_
                conv => whnf
                show Ev l X uX3_faceOver (d + 8) true 0 0 [.ref 7, .int (I11 2 7)] (mk w p 7 I11 L11) _
                rw [w8]
                refine x_faceOver (q := 7) (Or.inl rfl) hu8 (fun f _ => BF _) B4 pc11 ?_
                conv => whnf
                cases hfo : fov F (tvl b n (tn b n 8 e)) with
                | some g =>
                  rw [if_pos (by rw [hfo]; rfl)] at hE
                  have := ff_b hfo
                  refine b2 (nI_m2 (by omega)) ?_
                  conv => whnf
                  refine x_fails hc11 ?_
                  conv => whnf
                  exact ⟨Or.inl rfl, hE (3, tst b n (tn b n 8 e)) rfl (fl I11 3 (tst b n (tn b n 8 e))) L11 (sl11.tr sL_fl) fl_13 fl_14⟩
                | none =>
                  rw [if_neg (by rw [hfo]; decide)] at hO
                  refine b1 (fun z => z rfl) ?_
                  conv => whnf
                  refine ⟨F 4, ix (N := 6) (by omega) (by decide), ?_⟩
                  conv => whnf
                  show Ev l X uX4_take (d + 8) true 0 0 [.ref 2] (mk w p 7 (u2 (u2 I11 11 (F 4) (I11 2 7)) 7 4 (u2 I11 11 (F 4) (I11 2 7) 7 4 + 1)) L11) _
                  rw [w8, u2_o (by omega), show I11 7 4 = nI (F 4) from pc11.1.2.2.2.2.1, nI_1]
                  have pcn : PC 7 F W (u2 I11 11 (F 4) (nI (tvl b n (tn b n 8 e)))) := PC_new (q := 7) (j := 4) pc11 (by omega)
                  have pcf := PC_face (kd := kd) pcn B4 B5 B6 B7 (by omega) (by rw [u2_o (by omega)]; exact xk11) (by rw [u2_o (by omega)]; exact xh11) (by rw [u2_o (by omega)]; exact xw11) (by rw [u2_s])
                  refine x_take (d := d + 7) (TX_u (by decide) (TX_u (by decide) tx11)) (tn_b he 9) (TC_u (by decide) (TC_u (by decide) hc11)).2.2.1 (fun I99 L99 hs99 hc99 => ?_)
                  conv => whnf
                  exact ⟨Or.inr rfl, hO _ rfl I99 L99 (sl11.tr ((sL_u (by decide)).tr ((sL_u (by decide)).tr hs99.sL))) ⟨TX_sT (TX_u (by decide) (TX_u (by decide) tx11)) hs99, tn_b he 9, hc99, NC_sT (NC_u (by decide) (NC_u (by decide) nc11)) hs99, PC_sT (by decide) pcf hs99⟩⟩
              · have q : (lab b n 12 0 (F 0 * F 1 - 1) (tn b n 7 e)).1 ≠ 0 := q
                rw [if_pos q] at hE
                conv => whnf
                refine b2 (by decide) ?_
                conv => whnf
                exact ⟨Or.inl rfl, hE _ rfl _ _ ((sl10.tr (hs11.sL (q := 7))).tr sL_fl) fl_13 fl_14⟩
            · have q : (lab b n 11 0 9 (tn b n 5 e)).1 ≠ 0 := q
              rw [if_pos q] at hE
              conv => whnf
              refine b2 (by decide) ?_
              conv => whnf
              exact ⟨Or.inl rfl, hE _ rfl _ _ ((sl7.tr (hs8.sL (q := 7))).tr sL_fl) fl_13 fl_14⟩
          · have q : (lab b n 10 1 99 (tn b n 3 e)).1 ≠ 0 := q
            rw [if_pos q] at hE
            conv => whnf
            refine b2 (by decide) ?_
            conv => whnf
            exact ⟨Or.inl rfl, hE _ rfl _ _ ((sl4.tr (hs5.sL (q := 7))).tr sL_fl) fl_13 fl_14⟩
      · rw [if_pos q] at hE
        conv => whnf
        refine b2 (by decide) ?_
        conv => whnf
        exact ⟨Or.inl rfl, hE _ rfl _ _ (sl1.tr sL_fl) fl_13 fl_14⟩
    · have z : ¬ nI (F 4) < 6 := z
      rw [show (6 : Int32) = nI 6 from rfl, nI_ltI (by omega) (by decide)] at z
      rw [if_pos (by omega)] at hE
      conv => whnf
      refine x_fails hc0 ?_
      conv => whnf
      exact ⟨Or.inl rfl, hE (5, tst b n (tn b n 0 e)) rfl (fl I 5 (tst b n (tn b n 0 e))) L (sl0.tr sL_fl) fl_13 fl_14⟩
  · refine Wf.gc tkX4_readsFace [8] ?_
    conv => whnf
    show Wf l X uX4_readsFace (d + 9) true (mC (mk w p 20 I L) + 0, mS (mk w p 20 I L) + 0) 8 [(0, .ref 2), (1, .int (I 20 4))] [] (mk w p 20 I L) kr
    rw [show I 20 4 = nI (F 4) from pc0.1.2.2.2.2.1]
    refine Wf.gc tkX4_readsFace [] ?_
    conv => whnf
    refine ⟨fun z => ?_, fun z => ?_⟩
    · have z : nI (F 4) < 6 := z
      rw [show (6 : Int32) = nI 6 from rfl, nI_ltI (by omega) (by decide)] at z
      rw [if_neg (by omega)] at hE hO
      conv => whnf
      refine x_take (d := d + 7) tx0 (tn_b he 1) hc0.2.2.1 (fun I1 L1 hs1 hc1 => ?_)
      have hc1 : TC b n (tn b n 1 e) I1 L1 := hc1
      have tx1 := TX_sT tx0 hs1
      have nc1 := NC_sT nc0 hs1
      have pc1 := PC_sT (by decide) pc0 hs1
      have sl1 := sl0.tr (hs1.sL (q := 20))
      conv => whnf
      show Ev l X uX4_tells (d + 8) true 0 0 [.ref 2, .int (nI 1), .int (nI (F 4))] (mk w p 20 I1 L1) _
      refine x_tells (d := d + 1) tx1 (tn_b he 1) hc1 nc1 (by omega) (fun q I2 L2 hs2 ht2 nc2 hc2 => ?_) (fun q => ?_)
      · rw [if_neg (fun z => z q)] at hE hO
        conv => whnf
        refine b1 (by decide) ?_
        conv => whnf
        have hc2 : TC b n (tn b n 2 e) I2 L2 := hc2
        have nc2 : NC b (nm ++ [nw b n (tn b n 1 e) 1 (F 4)]) I2 L2 := nc2
        have tx2 : TX b n I2 := TX_sL (Or.inl rfl) tx1 hs2
        have pc2 : PC 20 F W I2 := PC_eq pc1 (fun a i z1 z2 => ht2 a i (by omega) (by omega) (by omega))
        have sl2 : sL 20 I I2 L L2 := sl1.tr ⟨fun a i z1 z2 z3 z4 => hs2x hs2 ht2 z1 z2 z3, hs2.2⟩
        refine x_kindHere (d := d + 2) tx2 (tn_b he 2) hc2 ?_
        conv => whnf
        cases hkd : kin b n (tn b n 2 e) with
        | none =>
          rw [hkd] at hE
          refine b2 (fun z => z rfl) ?_
          conv => whnf
          refine x_fails hc2 ?_
          conv => whnf
          exact ⟨Or.inl rfl, hE (1, tst b n (tn b n 2 e)) rfl (fl I2 1 (tst b n (tn b n 2 e))) L2 (sl2.tr sL_fl) fl_13 fl_14⟩
        | some kd =>
          rw [hkd] at hE hO
          dsimp only at hE hO
          have hk3 := kin_3 hkd
          refine b1 (fun z => nI_m2 (by omega) z) ?_
          conv => whnf
          refine ⟨F 4, ix (N := 6) (by omega) (by decide), ?_⟩
          conv => whnf
          show Ev l X uX4_take (d + 8) true 0 0 [.ref 2] (mk w p 20 (u2 I2 21 (F 4) (nI kd)) L2) _
          obtain ⟨I3, hI3⟩ : ∃ J, J = u2 I2 21 (F 4) (nI kd) := ⟨_, rfl⟩
          obtain ⟨L3, hL3⟩ : ∃ J, J = L2 := ⟨_, rfl⟩
          rw [← hI3, ← hL3]
          have tx3 : TX b n I3 := by rw [hI3]; exact TX_u (by decide) tx2
          have hc3 : TC b n (tn b n 2 e) I3 L3 := by rw [hI3, hL3]; exact TC_u (by decide) hc2
          have nc3 : NC b (nm ++ [nw b n (tn b n 1 e) 1 (F 4)]) I3 L3 := by rw [hI3, hL3]; exact NC_u (by decide) nc2
          have pc3 : PC 20 F W I3 := by rw [hI3]; exact PC_new (q := 20) (j := 1) pc2 (by omega)
          have sl3 : sL 20 I I3 L L3 := by rw [hI3, hL3]; exact sl2.tr (sL_u (by decide))
          have xk3 : I3 21 (F 4) = (nI kd) := by rw [hI3, u2_s]
          refine x_take (d := d + 7) tx3 (tn_b he 3) hc3.2.2.1 (fun I4 L4 hs4 hc4 => ?_)
          have hc4 : TC b n (tn b n 3 e) I4 L4 := hc4
          have tx4 := TX_sT tx3 hs4
          have nc4 := NC_sT nc3 hs4
          have pc4 := PC_sT (by decide) pc3 hs4
          have sl4 := sl3.tr (hs4.sL (q := 20))
          have xk4 : I4 21 (F 4) = (nI kd) := (hs4.1 _ _ (by omega)).trans xk3
          conv => whnf
          refine x_labelled (wd := 5010) (lo := 1) (hi := 99) (d := d + 2) (by decide) (by decide) tx4 (tn_b he 3) hc4 (by decide) (fun q I5 L5 hs5 hc5 t2 v1 v2 => ?_) (fun q I5 L5 hs5 => ?_)
          · have q : (lab b n 10 1 99 (tn b n 3 e)).1 = 0 := q
            rw [if_neg (fun z => z q)] at hE hO
            have hc5 : TC b n (tn b n 4 e) I5 L5 := hc5
            have w4 : I5 2 7 = nI (tvl b n (tn b n 4 e)) := hc5.2.2.2.1 t2
            have hu4 : tvl b n (tn b n 4 e) < 1000 := (tvl_b (tn_b he 4) t2).1
            have tx5 := TX_sT tx4 hs5
            have nc5 := NC_sT nc4 hs5
            have pc5 := PC_sT (by decide) pc4 hs5
            have sl5 := sl4.tr (hs5.sL (q := 20))
            have xk5 : I5 21 (F 4) = (nI kd) := (hs5.1 _ _ (by omega)).trans xk4
            conv => whnf
            refine b1 (by decide) ?_
            conv => whnf
            refine ⟨F 4, ix (N := 6) (by omega) (by decide), ?_⟩
            conv => whnf
            show Ev l X uX4_take (d + 8) true 0 0 [.ref 2] (mk w p 20 (u2 I5 22 (F 4) (I5 2 7)) L5) _
            rw [w4]
            show Ev l X uX4_take (d + 8) true 0 0 [.ref 2] (mk w p 20 (u2 I5 22 (F 4) (nI (tvl b n (tn b n 4 e)))) L5) _
            obtain ⟨I6, hI6⟩ : ∃ J, J = u2 I5 22 (F 4) (nI (tvl b n (tn b n 4 e))) := ⟨_, rfl⟩
            obtain ⟨L6, hL6⟩ : ∃ J, J = L5 := ⟨_, rfl⟩
            rw [← hI6, ← hL6]
            have tx6 : TX b n I6 := by rw [hI6]; exact TX_u (by decide) tx5
            have hc6 : TC b n (tn b n 4 e) I6 L6 := by rw [hI6, hL6]; exact TC_u (by decide) hc5
            have nc6 : NC b (nm ++ [nw b n (tn b n 1 e) 1 (F 4)]) I6 L6 := by rw [hI6, hL6]; exact NC_u (by decide) nc5
            have pc6 : PC 20 F W I6 := by rw [hI6]; exact PC_new (q := 20) (j := 2) pc5 (by omega)
            have sl6 : sL 20 I I6 L L6 := by rw [hI6, hL6]; exact sl5.tr (sL_u (by decide))
            have xk6 : I6 21 (F 4) = (nI kd) := by rw [hI6, u2_o (by omega)]; exact xk5
            have xh6 : I6 22 (F 4) = (nI (tvl b n (tn b n 4 e))) := by rw [hI6, u2_s]
            refine x_take (d := d + 7) tx6 (tn_b he 5) hc6.2.2.1 (fun I7 L7 hs7 hc7 => ?_)
            have hc7 : TC b n (tn b n 5 e) I7 L7 := hc7
            have tx7 := TX_sT tx6 hs7
            have nc7 := NC_sT nc6 hs7
            have pc7 := PC_sT (by decide) pc6 hs7
            have sl7 := sl6.tr (hs7.sL (q := 20))
            have xk7 : I7 21 (F 4) = (nI kd) := (hs7.1 _ _ (by omega)).trans xk6
            have xh7 : I7 22 (F 4) = (nI (tvl b n (tn b n 4 e))) := (hs7.1 _ _ (by omega)).trans xh6
            conv => whnf
            refine x_labelled (wd := 5011) (lo := 0) (hi := 9) (d := d + 2) (by decide) (by decide) tx7 (tn_b he 5) hc7 (by decide) (fun q I8 L8 hs8 hc8 t2 v1 v2 => ?_) (fun q I8 L8 hs8 => ?_)
            · have q : (lab b n 11 0 9 (tn b n 5 e)).1 = 0 := q
              rw [if_neg (fun z => z q)] at hE hO
              have hc8 : TC b n (tn b n 6 e) I8 L8 := hc8
              have w6 : I8 2 7 = nI (tvl b n (tn b n 6 e)) := hc8.2.2.2.1 t2
              have hu6 : tvl b n (tn b n 6 e) < 1000 := (tvl_b (tn_b he 6) t2).1
              have tx8 := TX_sT tx7 hs8
              have nc8 := NC_sT nc7 hs8
              have pc8 := PC_sT (by decide) pc7 hs8
              have sl8 := sl7.tr (hs8.sL (q := 20))
              have xk8 : I8 21 (F 4) = (nI kd) := (hs8.1 _ _ (by omega)).trans xk7
              have xh8 : I8 22 (F 4) = (nI (tvl b n (tn b n 4 e))) := (hs8.1 _ _ (by omega)).trans xh7
              conv => whnf
              refine b1 (by decide) ?_
              conv => whnf
              refine ⟨F 4, ix (N := 6) (by omega) (by decide), ?_⟩
              conv => whnf
              show Ev l X uX4_take (d + 8) true 0 0 [.ref 2] (mk w p 20 (u2 I8 23 (F 4) (I8 2 7)) L8) _
              rw [w6]
              show Ev l X uX4_take (d + 8) true 0 0 [.ref 2] (mk w p 20 (u2 I8 23 (F 4) (nI (tvl b n (tn b n 6 e)))) L8) _
              obtain ⟨I9, hI9⟩ : ∃ J, J = u2 I8 23 (F 4) (nI (tvl b n (tn b n 6 e))) := ⟨_, rfl⟩
              obtain ⟨L9, hL9⟩ : ∃ J, J = L8 := ⟨_, rfl⟩
              rw [← hI9, ← hL9]
              have tx9 : TX b n I9 := by rw [hI9]; exact TX_u (by decide) tx8
              have hc9 : TC b n (tn b n 6 e) I9 L9 := by rw [hI9, hL9]; exact TC_u (by decide) hc8
              have nc9 : NC b (nm ++ [nw b n (tn b n 1 e) 1 (F 4)]) I9 L9 := by rw [hI9, hL9]; exact NC_u (by decide) nc8
              have pc9 : PC 20 F W I9 := by rw [hI9]; exact PC_new (q := 20) (j := 3) pc8 (by omega)
              have sl9 : sL 20 I I9 L L9 := by rw [hI9, hL9]; exact sl8.tr (sL_u (by decide))
              have xk9 : I9 21 (F 4) = (nI kd) := by rw [hI9, u2_o (by omega)]; exact xk8
              have xh9 : I9 22 (F 4) = (nI (tvl b n (tn b n 4 e))) := by rw [hI9, u2_o (by omega)]; exact xh8
              have xw9 : I9 23 (F 4) = (nI (tvl b n (tn b n 6 e))) := by rw [hI9, u2_s]
              refine x_take (d := d + 7) tx9 (tn_b he 7) hc9.2.2.1 (fun I10 L10 hs10 hc10 => ?_)
              have hc10 : TC b n (tn b n 7 e) I10 L10 := hc10
              have tx10 := TX_sT tx9 hs10
              have nc10 := NC_sT nc9 hs10
              have pc10 := PC_sT (by decide) pc9 hs10
              have sl10 := sl9.tr (hs10.sL (q := 20))
              have xk10 : I10 21 (F 4) = (nI kd) := (hs10.1 _ _ (by omega)).trans xk9
              have xh10 : I10 22 (F 4) = (nI (tvl b n (tn b n 4 e))) := (hs10.1 _ _ (by omega)).trans xh9
              have xw10 : I10 23 (F 4) = (nI (tvl b n (tn b n 6 e))) := (hs10.1 _ _ (by omega)).trans xw9
              conv => whnf
              refine x_cells (q := 20) (Or.inr rfl) B0 B1 pc10 ?_
              conv => whnf
              show Ev l X uX4_labelled (d + 8) true 0 0 [.ref 2, .ref 5012, .int (nI 0), .int (nI (F 0 * F 1) - nI 1)] (mk w p 20 I10 L10) _
              rw [ecel]
              refine x_labelled (wd := 5012) (lo := 0) (hi := (F 0 * F 1 - 1)) (d := d + 2) (by decide) (by omega) tx10 (tn_b he 7) hc10 (by decide) (fun q I11 L11 hs11 hc11 t2 v1 v2 => ?_) (fun q I11 L11 hs11 => ?_)
              · have q : (lab b n 12 0 (F 0 * F 1 - 1) (tn b n 7 e)).1 = 0 := q
                rw [if_neg (fun z => z q)] at hE hO
                have hc11 : TC b n (tn b n 8 e) I11 L11 := hc11
                have w8 : I11 2 7 = nI (tvl b n (tn b n 8 e)) := hc11.2.2.2.1 t2
                have hu8 : tvl b n (tn b n 8 e) < 1000 := (tvl_b (tn_b he 8) t2).1
                have tx11 := TX_sT tx10 hs11
                have nc11 := NC_sT nc10 hs11
                have pc11 := PC_sT (by decide) pc10 hs11
                have sl11 := sl10.tr (hs11.sL (q := 20))
                have xk11 : I11 21 (F 4) = (nI kd) := (hs11.1 _ _ (by omega)).trans xk10
                have xh11 : I11 22 (F 4) = (nI (tvl b n (tn b n 4 e))) := (hs11.1 _ _ (by omega)).trans xh10
                have xw11 : I11 23 (F 4) = (nI (tvl b n (tn b n 6 e))) := (hs11.1 _ _ (by omega)).trans xw10
                conv => whnf
                refine b1 (by decide) ?_
                conv => whnf
                show Ev l X uX3_faceOver (d + 8) true 0 0 [.ref 20, .int (I11 2 7)] (mk w p 20 I11 L11) _
                rw [w8]
                refine x_faceOver (q := 20) (Or.inr rfl) hu8 (fun f _ => BF _) B4 pc11 ?_
                conv => whnf
                cases hfo : fov F (tvl b n (tn b n 8 e)) with
                | some g =>
                  rw [if_pos (by rw [hfo]; rfl)] at hE
                  have := ff_b hfo
                  refine b2 (nI_m2 (by omega)) ?_
                  conv => whnf
                  refine x_fails hc11 ?_
                  conv => whnf
                  exact ⟨Or.inl rfl, hE (3, tst b n (tn b n 8 e)) rfl (fl I11 3 (tst b n (tn b n 8 e))) L11 (sl11.tr sL_fl) fl_13 fl_14⟩
                | none =>
                  rw [if_neg (by rw [hfo]; decide)] at hO
                  refine b1 (fun z => z rfl) ?_
                  conv => whnf
                  refine ⟨F 4, ix (N := 6) (by omega) (by decide), ?_⟩
                  conv => whnf
                  show Ev l X uX4_take (d + 8) true 0 0 [.ref 2] (mk w p 20 (u2 (u2 I11 24 (F 4) (I11 2 7)) 20 4 (u2 I11 24 (F 4) (I11 2 7) 20 4 + 1)) L11) _
                  rw [w8, u2_o (by omega), show I11 20 4 = nI (F 4) from pc11.1.2.2.2.2.1, nI_1]
                  have pcn : PC 20 F W (u2 I11 24 (F 4) (nI (tvl b n (tn b n 8 e)))) := PC_new (q := 20) (j := 4) pc11 (by omega)
                  have pcf := PC_face (kd := kd) pcn B4 B5 B6 B7 (by omega) (by rw [u2_o (by omega)]; exact xk11) (by rw [u2_o (by omega)]; exact xh11) (by rw [u2_o (by omega)]; exact xw11) (by rw [u2_s])
                  refine x_take (d := d + 7) (TX_u (by decide) (TX_u (by decide) tx11)) (tn_b he 9) (TC_u (by decide) (TC_u (by decide) hc11)).2.2.1 (fun I99 L99 hs99 hc99 => ?_)
                  conv => whnf
                  exact ⟨Or.inr rfl, hO _ rfl I99 L99 (sl11.tr ((sL_u (by decide)).tr ((sL_u (by decide)).tr hs99.sL))) ⟨TX_sT (TX_u (by decide) (TX_u (by decide) tx11)) hs99, tn_b he 9, hc99, NC_sT (NC_u (by decide) (NC_u (by decide) nc11)) hs99, PC_sT (by decide) pcf hs99⟩⟩
              · have q : (lab b n 12 0 (F 0 * F 1 - 1) (tn b n 7 e)).1 ≠ 0 := q
                rw [if_pos q] at hE
                conv => whnf
                refine b2 (by decide) ?_
                conv => whnf
                exact ⟨Or.inl rfl, hE _ rfl _ _ ((sl10.tr (hs11.sL (q := 20))).tr sL_fl) fl_13 fl_14⟩
            · have q : (lab b n 11 0 9 (tn b n 5 e)).1 ≠ 0 := q
              rw [if_pos q] at hE
              conv => whnf
              refine b2 (by decide) ?_
              conv => whnf
              exact ⟨Or.inl rfl, hE _ rfl _ _ ((sl7.tr (hs8.sL (q := 20))).tr sL_fl) fl_13 fl_14⟩
          · have q : (lab b n 10 1 99 (tn b n 3 e)).1 ≠ 0 := q
            rw [if_pos q] at hE
            conv => whnf
            refine b2 (by decide) ?_
            conv => whnf
            exact ⟨Or.inl rfl, hE _ rfl _ _ ((sl4.tr (hs5.sL (q := 20))).tr sL_fl) fl_13 fl_14⟩
      · rw [if_pos q] at hE
        conv => whnf
        refine b2 (by decide) ?_
        conv => whnf
        exact ⟨Or.inl rfl, hE _ rfl _ _ (sl1.tr sL_fl) fl_13 fl_14⟩
    · have z : ¬ nI (F 4) < 6 := z
      rw [show (6 : Int32) = nI 6 from rfl, nI_ltI (by omega) (by decide)] at z
      rw [if_pos (by omega)] at hE
      conv => whnf
      refine x_fails hc0 ?_
      conv => whnf
      exact ⟨Or.inl rfl, hE (5, tst b n (tn b n 0 e)) rfl (fl I 5 (tst b n (tn b n 0 e))) L (sl0.tr sL_fl) fl_13 fl_14⟩
end LNW
end
section
/-! the class's lines: canons, walkers; unsure, dropped -/
section LNX
variable {l : Launch} {X : Nat × (Nat → Int32)} {d : Nat} {w : Nat × Nat} {p r : Nat} {I : Nat → Nat → Int32} {L : Nat → Nat → Int64} {kr : KR} {b : Nat → Nat} {n e : Nat} {nm : List Nm} {F : Nat → Nat} {W : Int32}
theorem nam_6 {so : Nat} (hs : ∀ i, i < nm.length → (nmD nm i).2.2.2 < 6) : (nam b n nm so e).2 < 6 := by
  unfold nam
  split
  · split
    · decide
    · rename_i i hk
      have := ff_b hk
      split
      · exact hs i this
      · decide
  · decide
theorem nms_a {x : Nm} (hs : ∀ i, i < nm.length → (nmD nm i).2.2.1 < 10 ∧ (nmD nm i).2.2.2 < 6) (hx : x.2.2.1 < 10 ∧ x.2.2.2 < 6) : ∀ i, i < (nm ++ [x]).length → (nmD (nm ++ [x]) i).2.2.1 < 10 ∧ (nmD (nm ++ [x]) i).2.2.2 < 6 := by
  intro i hi
  rw [List.length_append] at hi
  have hi : i < nm.length + 1 := hi
  rcases Nat.lt_or_ge i nm.length with z | z
  · rw [nmD_o z]; exact hs i z
  · rw [show i = nm.length by omega, nmD_a]; exact hx
set_option maxHeartbeats 2000000 in
set_option maxRecDepth 20000 in
theorem x_readsCanon (hq : r = 7 ∨ r = 20) (hB : Bd F W nm) (hT : 0 < F 0) (hS : SC b n r (F, W, nm, e) I L) (hE : ∀ er, lnCanon b n F W nm e = .inl er → ∀ I' L', sL r I I' L L' → I' 2 13 = nI er.1 → I' 2 14 = nI er.2 → kr (some (.int 0)) (mk w p r I' L')) (hO : ∀ P', lnCanon b n F W nm e = .inr P' → ∀ I' L', sL r I I' L L' → SC b n r P' I' L' → kr (some (.int 1)) (mk w p r I' L')) : Ev l X uX4_readsCanon (d + 9) true 0 0 [.ref 2] (mk w p r I L) kr := by
  obtain ⟨tx0, he, hc0, nc0, pc0⟩ := hS
  have he : e ≤ n := he
  have hc0 : TC b n (tn b n 0 e) I L := hc0
  have nc0 : NC b nm I L := nc0
  have sl0 : sL r I I L L := sL.rf
  obtain ⟨⟨B0, B1, B3, B4, B5, B6, B7⟩, BF, Bp, Bn, Bs, Bt⟩ := hB
  refine Ev.of (by decide) (Nat.le_of_ble_eq_true rfl) ?_
  unfold lnCanon at hE hO
  obtain ⟨Bt0, Bt1⟩ := Bt hT
  have hc4 : 2 * 2 ≤ F 0 * F 1 := Nat.mul_le_mul Bt0 Bt1
  have hc20 : F 0 * F 1 ≤ 5 * 4 := Nat.mul_le_mul B0 B1
  have ecel : (nI (F 0 * F 1) - nI 1 : Int32) = nI (F 0 * F 1 - 1) := nI_sub (by omega)
  rcases hq with rfl | rfl
  · refine Wf.gc tkX4_readsCanon [8] ?_
    conv => whnf
    show Wf l X uX4_readsCanon (d + 9) true (mC (mk w p 7 I L) + 0, mS (mk w p 7 I L) + 0) 8 [(0, .ref 2), (1, .int (I 7 10))] [] (mk w p 7 I L) kr
    rw [show I 7 10 = nI (F 5) from pc0.1.2.2.2.2.2.1]
    refine Wf.gc tkX4_readsCanon [] ?_
    conv => whnf
    refine ⟨fun z => ?_, fun z => ?_⟩
    · have z : nI (F 5) < 5 := z
      rw [show (5 : Int32) = nI 5 from rfl, nI_ltI (by omega) (by decide)] at z
      rw [if_neg (by omega)] at hE hO
      conv => whnf
      refine x_take (d := d + 7) tx0 (tn_b he 1) hc0.2.2.1 (fun I1 L1 hs1 hc1 => ?_)
      have hc1 : TC b n (tn b n 1 e) I1 L1 := hc1
      have tx1 := TX_sT tx0 hs1
      have nc1 := NC_sT nc0 hs1
      have pc1 := PC_sT (by decide) pc0 hs1
      have sl1 := sl0.tr (hs1.sL (q := 7))
      conv => whnf
      show Ev l X uX4_tells (d + 8) true 0 0 [.ref 2, .int (nI 2), .int (nI (F 5))] (mk w p 7 I1 L1) _
      refine x_tells (d := d + 1) tx1 (tn_b he 1) hc1 nc1 (by omega) (fun q I2 L2 hs2 ht2 nc2 hc2 => ?_) (fun q => ?_)
      · rw [if_neg (fun z => z q)] at hE hO
        conv => whnf
        refine b1 (by decide) ?_
        conv => whnf
        have hc2 : TC b n (tn b n 2 e) I2 L2 := hc2
        have nc2 : NC b (nm ++ [nw b n (tn b n 1 e) 2 (F 5)]) I2 L2 := nc2
        have tx2 : TX b n I2 := TX_sL (Or.inl rfl) tx1 hs2
        have pc2 : PC 7 F W I2 := PC_eq pc1 (fun a i z1 z2 => ht2 a i (by omega) (by omega) (by omega))
        have sl2 : sL 7 I I2 L L2 := sl1.tr ⟨fun a i z1 z2 z3 z4 => hs2x hs2 ht2 z1 z2 z3, hs2.2⟩
        have Bs2 := nms_a (x := nw b n (tn b n 1 e) 2 (F 5)) Bs ⟨by show 2 < 10; decide, by show F 5 < 6; omega⟩
        show Ev l X uX4_named (d + 8) true 0 0 [.ref 2, .int (nI 1)] (mk w p 7 I2 L2) _
        have hf6 : (nam b n (nm ++ [nw b n (tn b n 1 e) 2 (F 5)]) 1 (tn b n 2 e)).2 < 6 := nam_6 (fun i hi => (Bs2 i hi).2)
        refine x_named (so := 1) (d := d + 1) (by decide) (fun i hi => (Bs2 i hi).1) tx2 (tn_b he 2) hc2 nc2 (fun q => ?_) (fun q => ?_)
        · rw [if_neg (fun z => z q)] at hE hO
          conv => whnf
          refine b1 (nI_m2 (by omega)) ?_
          conv => whnf
          refine x_toldCanonOf (q := 7) (Or.inl rfl) (by omega) (fun f _ => BF _) B5 pc2 ?_
          conv => whnf
          cases hfo : toc F (nam b n (nm ++ [nw b n (tn b n 1 e) 2 (F 5)]) 1 (tn b n 2 e)).2 with
          | some g =>
            rw [if_pos (by rw [hfo]; rfl)] at hE
            have := ff_b hfo
            refine b2 (nI_m2 (by omega)) ?_
            conv => whnf
            refine x_fails hc2 ?_
            conv => whnf
            exact ⟨Or.inl rfl, hE (3, tst b n (tn b n 2 e)) rfl (fl I2 3 (tst b n (tn b n 2 e))) L2 (sl2.tr sL_fl) fl_13 fl_14⟩
          | none =>
            rw [if_neg (by rw [hfo]; decide)] at hE hO
            refine b1 (fun z => z rfl) ?_
            conv => whnf
            refine ⟨F 5, ix (N := 5) (by omega) (by decide), ?_⟩
            conv => whnf
            show Ev l X uX4_take (d + 8) true 0 0 [.ref 2] (mk w p 7 (u2 I2 13 (F 5) (nI (nam b n (nm ++ [nw b n (tn b n 1 e) 2 (F 5)]) 1 (tn b n 2 e)).2)) L2) _
            obtain ⟨I3, hI3⟩ : ∃ J, J = u2 I2 13 (F 5) (nI (nam b n (nm ++ [nw b n (tn b n 1 e) 2 (F 5)]) 1 (tn b n 2 e)).2) := ⟨_, rfl⟩
            obtain ⟨L3, hL3⟩ : ∃ J, J = L2 := ⟨_, rfl⟩
            rw [← hI3, ← hL3]
            have tx3 : TX b n I3 := by rw [hI3]; exact TX_u (by decide) tx2
            have hc3 : TC b n (tn b n 2 e) I3 L3 := by rw [hI3, hL3]; exact TC_u (by decide) hc2
            have nc3 : NC b (nm ++ [nw b n (tn b n 1 e) 2 (F 5)]) I3 L3 := by rw [hI3, hL3]; exact NC_u (by decide) nc2
            have pc3 : PC 7 F W I3 := by rw [hI3]; exact PC_new (q := 7) (j := 6) pc2 (by omega)
            have sl3 : sL 7 I I3 L L3 := by rw [hI3, hL3]; exact sl2.tr (sL_u (by decide))
            have xf3 : I3 13 (F 5) = (nI (nam b n (nm ++ [nw b n (tn b n 1 e) 2 (F 5)]) 1 (tn b n 2 e)).2) := by rw [hI3, u2_s]
            refine x_take (d := d + 7) tx3 (tn_b he 3) hc3.2.2.1 (fun I4 L4 hs4 hc4 => ?_)
            have hc4 : TC b n (tn b n 3 e) I4 L4 := hc4
            have tx4 := TX_sT tx3 hs4
            have nc4 := NC_sT nc3 hs4
            have pc4 := PC_sT (by decide) pc3 hs4
            have sl4 := sl3.tr (hs4.sL (q := 7))
            have xf4 : I4 13 (F 5) = (nI (nam b n (nm ++ [nw b n (tn b n 1 e) 2 (F 5)]) 1 (tn b n 2 e)).2) := (hs4.1 _ _ (by omega)).trans xf3
            conv => whnf
            refine x_labelled (wd := 5016) (lo := 1) (hi := 30) (d := d + 2) (by decide) (by decide) tx4 (tn_b he 3) hc4 (by decide) (fun q I5 L5 hs5 hc5 t2 v1 v2 => ?_) (fun q I5 L5 hs5 => ?_)
            · have q : (lab b n 16 1 30 (tn b n 3 e)).1 = 0 := q
              rw [if_neg (fun z => z q)] at hE hO
              have hc5 : TC b n (tn b n 4 e) I5 L5 := hc5
              have w4 : I5 2 7 = nI (tvl b n (tn b n 4 e)) := hc5.2.2.2.1 t2
              have hu4 : tvl b n (tn b n 4 e) < 1000 := (tvl_b (tn_b he 4) t2).1
              have tx5 := TX_sT tx4 hs5
              have nc5 := NC_sT nc4 hs5
              have pc5 := PC_sT (by decide) pc4 hs5
              have sl5 := sl4.tr (hs5.sL (q := 7))
              have xf5 : I5 13 (F 5) = (nI (nam b n (nm ++ [nw b n (tn b n 1 e) 2 (F 5)]) 1 (tn b n 2 e)).2) := (hs5.1 _ _ (by omega)).trans xf4
              conv => whnf
              refine b1 (by decide) ?_
              conv => whnf
              refine ⟨F 5, ix (N := 5) (by omega) (by decide), ?_⟩
              conv => whnf
              show Ev l X uX4_take (d + 8) true 0 0 [.ref 2] (mk w p 7 (u2 I5 14 (F 5) (I5 2 7)) L5) _
              rw [w4]
              show Ev l X uX4_take (d + 8) true 0 0 [.ref 2] (mk w p 7 (u2 I5 14 (F 5) (nI (tvl b n (tn b n 4 e)))) L5) _
              obtain ⟨I6, hI6⟩ : ∃ J, J = u2 I5 14 (F 5) (nI (tvl b n (tn b n 4 e))) := ⟨_, rfl⟩
              obtain ⟨L6, hL6⟩ : ∃ J, J = L5 := ⟨_, rfl⟩
              rw [← hI6, ← hL6]
              have tx6 : TX b n I6 := by rw [hI6]; exact TX_u (by decide) tx5
              have hc6 : TC b n (tn b n 4 e) I6 L6 := by rw [hI6, hL6]; exact TC_u (by decide) hc5
              have nc6 : NC b (nm ++ [nw b n (tn b n 1 e) 2 (F 5)]) I6 L6 := by rw [hI6, hL6]; exact NC_u (by decide) nc5
              have pc6 : PC 7 F W I6 := by rw [hI6]; exact PC_new (q := 7) (j := 7) pc5 (by omega)
              have sl6 : sL 7 I I6 L L6 := by rw [hI6, hL6]; exact sl5.tr (sL_u (by decide))
              have xf6 : I6 13 (F 5) = (nI (nam b n (nm ++ [nw b n (tn b n 1 e) 2 (F 5)]) 1 (tn b n 2 e)).2) := by rw [hI6, u2_o (by omega)]; exact xf5
              have xv6 : I6 14 (F 5) = (nI (tvl b n (tn b n 4 e))) := by rw [hI6, u2_s]
              refine x_take (d := d + 7) tx6 (tn_b he 5) hc6.2.2.1 (fun I7 L7 hs7 hc7 => ?_)
              have hc7 : TC b n (tn b n 5 e) I7 L7 := hc7
              have tx7 := TX_sT tx6 hs7
              have nc7 := NC_sT nc6 hs7
              have pc7 := PC_sT (by decide) pc6 hs7
              have sl7 := sl6.tr (hs7.sL (q := 7))
              have xf7 : I7 13 (F 5) = (nI (nam b n (nm ++ [nw b n (tn b n 1 e) 2 (F 5)]) 1 (tn b n 2 e)).2) := (hs7.1 _ _ (by omega)).trans xf6
              have xv7 : I7 14 (F 5) = (nI (tvl b n (tn b n 4 e))) := (hs7.1 _ _ (by omega)).trans xv6
              conv => whnf
              refine x_labelled (wd := 5017) (lo := 1) (hi := 9) (d := d + 2) (by decide) (by decide) tx7 (tn_b he 5) hc7 (by decide) (fun q I8 L8 hs8 hc8 t2 v1 v2 => ?_) (fun q I8 L8 hs8 => ?_)
              · have q : (lab b n 17 1 9 (tn b n 5 e)).1 = 0 := q
                rw [if_neg (fun z => z q)] at hE hO
                have hc8 : TC b n (tn b n 6 e) I8 L8 := hc8
                have w6 : I8 2 7 = nI (tvl b n (tn b n 6 e)) := hc8.2.2.2.1 t2
                have hu6 : tvl b n (tn b n 6 e) < 1000 := (tvl_b (tn_b he 6) t2).1
                have tx8 := TX_sT tx7 hs8
                have nc8 := NC_sT nc7 hs8
                have pc8 := PC_sT (by decide) pc7 hs8
                have sl8 := sl7.tr (hs8.sL (q := 7))
                have xf8 : I8 13 (F 5) = (nI (nam b n (nm ++ [nw b n (tn b n 1 e) 2 (F 5)]) 1 (tn b n 2 e)).2) := (hs8.1 _ _ (by omega)).trans xf7
                have xv8 : I8 14 (F 5) = (nI (tvl b n (tn b n 4 e))) := (hs8.1 _ _ (by omega)).trans xv7
                conv => whnf
                refine b1 (by decide) ?_
                conv => whnf
                refine ⟨F 5, ix (N := 5) (by omega) (by decide), ?_⟩
                conv => whnf
                show Ev l X uX4_take (d + 8) true 0 0 [.ref 2] (mk w p 7 (u2 (u2 I8 15 (F 5) (I8 2 7)) 7 10 (u2 I8 15 (F 5) (I8 2 7) 7 10 + 1)) L8) _
                rw [w6, u2_o (by omega), show I8 7 10 = nI (F 5) from pc8.1.2.2.2.2.2.1, nI_1]
                have pcn : PC 7 F W (u2 I8 15 (F 5) (nI (tvl b n (tn b n 6 e)))) := PC_new (q := 7) (j := 8) pc8 (by omega)
                have pcf := PC_canon pcn B4 B5 B6 B7 (by omega) (by rw [u2_o (by omega)]; exact xf8) (by rw [u2_o (by omega)]; exact xv8) (by rw [u2_s])
                refine x_take (d := d + 7) (TX_u (by decide) (TX_u (by decide) tx8)) (tn_b he 7) (TC_u (by decide) (TC_u (by decide) hc8)).2.2.1 (fun I99 L99 hs99 hc99 => ?_)
                conv => whnf
                exact ⟨Or.inr rfl, hO _ rfl I99 L99 (sl8.tr ((sL_u (by decide)).tr ((sL_u (by decide)).tr hs99.sL))) ⟨TX_sT (TX_u (by decide) (TX_u (by decide) tx8)) hs99, tn_b he 7, hc99, NC_sT (NC_u (by decide) (NC_u (by decide) nc8)) hs99, PC_sT (by decide) pcf hs99⟩⟩
              · have q : (lab b n 17 1 9 (tn b n 5 e)).1 ≠ 0 := q
                rw [if_pos q] at hE
                conv => whnf
                refine b2 (by decide) ?_
                conv => whnf
                exact ⟨Or.inl rfl, hE _ rfl _ _ ((sl7.tr (hs8.sL (q := 7))).tr sL_fl) fl_13 fl_14⟩
            · have q : (lab b n 16 1 30 (tn b n 3 e)).1 ≠ 0 := q
              rw [if_pos q] at hE
              conv => whnf
              refine b2 (by decide) ?_
              conv => whnf
              exact ⟨Or.inl rfl, hE _ rfl _ _ ((sl4.tr (hs5.sL (q := 7))).tr sL_fl) fl_13 fl_14⟩
        · rw [if_pos q] at hE
          conv => whnf
          refine b2 (fun z => z rfl) ?_
          conv => whnf
          exact ⟨Or.inl rfl, hE _ rfl _ _ (sl2.tr sL_fl) fl_13 fl_14⟩
      · rw [if_pos q] at hE
        conv => whnf
        refine b2 (by decide) ?_
        conv => whnf
        exact ⟨Or.inl rfl, hE _ rfl _ _ (sl1.tr sL_fl) fl_13 fl_14⟩
    · have z : ¬ nI (F 5) < 5 := z
      rw [show (5 : Int32) = nI 5 from rfl, nI_ltI (by omega) (by decide)] at z
      rw [if_pos (by omega)] at hE
      conv => whnf
      refine x_fails hc0 ?_
      conv => whnf
      exact ⟨Or.inl rfl, hE (5, tst b n (tn b n 0 e)) rfl (fl I 5 (tst b n (tn b n 0 e))) L (sl0.tr sL_fl) fl_13 fl_14⟩
  · refine Wf.gc tkX4_readsCanon [8] ?_
    conv => whnf
    show Wf l X uX4_readsCanon (d + 9) true (mC (mk w p 20 I L) + 0, mS (mk w p 20 I L) + 0) 8 [(0, .ref 2), (1, .int (I 20 10))] [] (mk w p 20 I L) kr
    rw [show I 20 10 = nI (F 5) from pc0.1.2.2.2.2.2.1]
    refine Wf.gc tkX4_readsCanon [] ?_
    conv => whnf
    refine ⟨fun z => ?_, fun z => ?_⟩
    · have z : nI (F 5) < 5 := z
      rw [show (5 : Int32) = nI 5 from rfl, nI_ltI (by omega) (by decide)] at z
      rw [if_neg (by omega)] at hE hO
      conv => whnf
      refine x_take (d := d + 7) tx0 (tn_b he 1) hc0.2.2.1 (fun I1 L1 hs1 hc1 => ?_)
      have hc1 : TC b n (tn b n 1 e) I1 L1 := hc1
      have tx1 := TX_sT tx0 hs1
      have nc1 := NC_sT nc0 hs1
      have pc1 := PC_sT (by decide) pc0 hs1
      have sl1 := sl0.tr (hs1.sL (q := 20))
      conv => whnf
      show Ev l X uX4_tells (d + 8) true 0 0 [.ref 2, .int (nI 2), .int (nI (F 5))] (mk w p 20 I1 L1) _
      refine x_tells (d := d + 1) tx1 (tn_b he 1) hc1 nc1 (by omega) (fun q I2 L2 hs2 ht2 nc2 hc2 => ?_) (fun q => ?_)
      · rw [if_neg (fun z => z q)] at hE hO
        conv => whnf
        refine b1 (by decide) ?_
        conv => whnf
        have hc2 : TC b n (tn b n 2 e) I2 L2 := hc2
        have nc2 : NC b (nm ++ [nw b n (tn b n 1 e) 2 (F 5)]) I2 L2 := nc2
        have tx2 : TX b n I2 := TX_sL (Or.inl rfl) tx1 hs2
        have pc2 : PC 20 F W I2 := PC_eq pc1 (fun a i z1 z2 => ht2 a i (by omega) (by omega) (by omega))
        have sl2 : sL 20 I I2 L L2 := sl1.tr ⟨fun a i z1 z2 z3 z4 => hs2x hs2 ht2 z1 z2 z3, hs2.2⟩
        have Bs2 := nms_a (x := nw b n (tn b n 1 e) 2 (F 5)) Bs ⟨by show 2 < 10; decide, by show F 5 < 6; omega⟩
        show Ev l X uX4_named (d + 8) true 0 0 [.ref 2, .int (nI 1)] (mk w p 20 I2 L2) _
        have hf6 : (nam b n (nm ++ [nw b n (tn b n 1 e) 2 (F 5)]) 1 (tn b n 2 e)).2 < 6 := nam_6 (fun i hi => (Bs2 i hi).2)
        refine x_named (so := 1) (d := d + 1) (by decide) (fun i hi => (Bs2 i hi).1) tx2 (tn_b he 2) hc2 nc2 (fun q => ?_) (fun q => ?_)
        · rw [if_neg (fun z => z q)] at hE hO
          conv => whnf
          refine b1 (nI_m2 (by omega)) ?_
          conv => whnf
          refine x_toldCanonOf (q := 20) (Or.inr rfl) (by omega) (fun f _ => BF _) B5 pc2 ?_
          conv => whnf
          cases hfo : toc F (nam b n (nm ++ [nw b n (tn b n 1 e) 2 (F 5)]) 1 (tn b n 2 e)).2 with
          | some g =>
            rw [if_pos (by rw [hfo]; rfl)] at hE
            have := ff_b hfo
            refine b2 (nI_m2 (by omega)) ?_
            conv => whnf
            refine x_fails hc2 ?_
            conv => whnf
            exact ⟨Or.inl rfl, hE (3, tst b n (tn b n 2 e)) rfl (fl I2 3 (tst b n (tn b n 2 e))) L2 (sl2.tr sL_fl) fl_13 fl_14⟩
          | none =>
            rw [if_neg (by rw [hfo]; decide)] at hE hO
            refine b1 (fun z => z rfl) ?_
            conv => whnf
            refine ⟨F 5, ix (N := 5) (by omega) (by decide), ?_⟩
            conv => whnf
            show Ev l X uX4_take (d + 8) true 0 0 [.ref 2] (mk w p 20 (u2 I2 26 (F 5) (nI (nam b n (nm ++ [nw b n (tn b n 1 e) 2 (F 5)]) 1 (tn b n 2 e)).2)) L2) _
            obtain ⟨I3, hI3⟩ : ∃ J, J = u2 I2 26 (F 5) (nI (nam b n (nm ++ [nw b n (tn b n 1 e) 2 (F 5)]) 1 (tn b n 2 e)).2) := ⟨_, rfl⟩
            obtain ⟨L3, hL3⟩ : ∃ J, J = L2 := ⟨_, rfl⟩
            rw [← hI3, ← hL3]
            have tx3 : TX b n I3 := by rw [hI3]; exact TX_u (by decide) tx2
            have hc3 : TC b n (tn b n 2 e) I3 L3 := by rw [hI3, hL3]; exact TC_u (by decide) hc2
            have nc3 : NC b (nm ++ [nw b n (tn b n 1 e) 2 (F 5)]) I3 L3 := by rw [hI3, hL3]; exact NC_u (by decide) nc2
            have pc3 : PC 20 F W I3 := by rw [hI3]; exact PC_new (q := 20) (j := 6) pc2 (by omega)
            have sl3 : sL 20 I I3 L L3 := by rw [hI3, hL3]; exact sl2.tr (sL_u (by decide))
            have xf3 : I3 26 (F 5) = (nI (nam b n (nm ++ [nw b n (tn b n 1 e) 2 (F 5)]) 1 (tn b n 2 e)).2) := by rw [hI3, u2_s]
            refine x_take (d := d + 7) tx3 (tn_b he 3) hc3.2.2.1 (fun I4 L4 hs4 hc4 => ?_)
            have hc4 : TC b n (tn b n 3 e) I4 L4 := hc4
            have tx4 := TX_sT tx3 hs4
            have nc4 := NC_sT nc3 hs4
            have pc4 := PC_sT (by decide) pc3 hs4
            have sl4 := sl3.tr (hs4.sL (q := 20))
            have xf4 : I4 26 (F 5) = (nI (nam b n (nm ++ [nw b n (tn b n 1 e) 2 (F 5)]) 1 (tn b n 2 e)).2) := (hs4.1 _ _ (by omega)).trans xf3
            conv => whnf
            refine x_labelled (wd := 5016) (lo := 1) (hi := 30) (d := d + 2) (by decide) (by decide) tx4 (tn_b he 3) hc4 (by decide) (fun q I5 L5 hs5 hc5 t2 v1 v2 => ?_) (fun q I5 L5 hs5 => ?_)
            · have q : (lab b n 16 1 30 (tn b n 3 e)).1 = 0 := q
              rw [if_neg (fun z => z q)] at hE hO
              have hc5 : TC b n (tn b n 4 e) I5 L5 := hc5
              have w4 : I5 2 7 = nI (tvl b n (tn b n 4 e)) := hc5.2.2.2.1 t2
              have hu4 : tvl b n (tn b n 4 e) < 1000 := (tvl_b (tn_b he 4) t2).1
              have tx5 := TX_sT tx4 hs5
              have nc5 := NC_sT nc4 hs5
              have pc5 := PC_sT (by decide) pc4 hs5
              have sl5 := sl4.tr (hs5.sL (q := 20))
              have xf5 : I5 26 (F 5) = (nI (nam b n (nm ++ [nw b n (tn b n 1 e) 2 (F 5)]) 1 (tn b n 2 e)).2) := (hs5.1 _ _ (by omega)).trans xf4
              conv => whnf
              refine b1 (by decide) ?_
              conv => whnf
              refine ⟨F 5, ix (N := 5) (by omega) (by decide), ?_⟩
              conv => whnf
              show Ev l X uX4_take (d + 8) true 0 0 [.ref 2] (mk w p 20 (u2 I5 27 (F 5) (I5 2 7)) L5) _
              rw [w4]
              show Ev l X uX4_take (d + 8) true 0 0 [.ref 2] (mk w p 20 (u2 I5 27 (F 5) (nI (tvl b n (tn b n 4 e)))) L5) _
              obtain ⟨I6, hI6⟩ : ∃ J, J = u2 I5 27 (F 5) (nI (tvl b n (tn b n 4 e))) := ⟨_, rfl⟩
              obtain ⟨L6, hL6⟩ : ∃ J, J = L5 := ⟨_, rfl⟩
              rw [← hI6, ← hL6]
              have tx6 : TX b n I6 := by rw [hI6]; exact TX_u (by decide) tx5
              have hc6 : TC b n (tn b n 4 e) I6 L6 := by rw [hI6, hL6]; exact TC_u (by decide) hc5
              have nc6 : NC b (nm ++ [nw b n (tn b n 1 e) 2 (F 5)]) I6 L6 := by rw [hI6, hL6]; exact NC_u (by decide) nc5
              have pc6 : PC 20 F W I6 := by rw [hI6]; exact PC_new (q := 20) (j := 7) pc5 (by omega)
              have sl6 : sL 20 I I6 L L6 := by rw [hI6, hL6]; exact sl5.tr (sL_u (by decide))
              have xf6 : I6 26 (F 5) = (nI (nam b n (nm ++ [nw b n (tn b n 1 e) 2 (F 5)]) 1 (tn b n 2 e)).2) := by rw [hI6, u2_o (by omega)]; exact xf5
              have xv6 : I6 27 (F 5) = (nI (tvl b n (tn b n 4 e))) := by rw [hI6, u2_s]
              refine x_take (d := d + 7) tx6 (tn_b he 5) hc6.2.2.1 (fun I7 L7 hs7 hc7 => ?_)
              have hc7 : TC b n (tn b n 5 e) I7 L7 := hc7
              have tx7 := TX_sT tx6 hs7
              have nc7 := NC_sT nc6 hs7
              have pc7 := PC_sT (by decide) pc6 hs7
              have sl7 := sl6.tr (hs7.sL (q := 20))
              have xf7 : I7 26 (F 5) = (nI (nam b n (nm ++ [nw b n (tn b n 1 e) 2 (F 5)]) 1 (tn b n 2 e)).2) := (hs7.1 _ _ (by omega)).trans xf6
              have xv7 : I7 27 (F 5) = (nI (tvl b n (tn b n 4 e))) := (hs7.1 _ _ (by omega)).trans xv6
              conv => whnf
              refine x_labelled (wd := 5017) (lo := 1) (hi := 9) (d := d + 2) (by decide) (by decide) tx7 (tn_b he 5) hc7 (by decide) (fun q I8 L8 hs8 hc8 t2 v1 v2 => ?_) (fun q I8 L8 hs8 => ?_)
              · have q : (lab b n 17 1 9 (tn b n 5 e)).1 = 0 := q
                rw [if_neg (fun z => z q)] at hE hO
                have hc8 : TC b n (tn b n 6 e) I8 L8 := hc8
                have w6 : I8 2 7 = nI (tvl b n (tn b n 6 e)) := hc8.2.2.2.1 t2
                have hu6 : tvl b n (tn b n 6 e) < 1000 := (tvl_b (tn_b he 6) t2).1
                have tx8 := TX_sT tx7 hs8
                have nc8 := NC_sT nc7 hs8
                have pc8 := PC_sT (by decide) pc7 hs8
                have sl8 := sl7.tr (hs8.sL (q := 20))
                have xf8 : I8 26 (F 5) = (nI (nam b n (nm ++ [nw b n (tn b n 1 e) 2 (F 5)]) 1 (tn b n 2 e)).2) := (hs8.1 _ _ (by omega)).trans xf7
                have xv8 : I8 27 (F 5) = (nI (tvl b n (tn b n 4 e))) := (hs8.1 _ _ (by omega)).trans xv7
                conv => whnf
                refine b1 (by decide) ?_
                conv => whnf
                refine ⟨F 5, ix (N := 5) (by omega) (by decide), ?_⟩
                conv => whnf
                show Ev l X uX4_take (d + 8) true 0 0 [.ref 2] (mk w p 20 (u2 (u2 I8 28 (F 5) (I8 2 7)) 20 10 (u2 I8 28 (F 5) (I8 2 7) 20 10 + 1)) L8) _
                rw [w6, u2_o (by omega), show I8 20 10 = nI (F 5) from pc8.1.2.2.2.2.2.1, nI_1]
                have pcn : PC 20 F W (u2 I8 28 (F 5) (nI (tvl b n (tn b n 6 e)))) := PC_new (q := 20) (j := 8) pc8 (by omega)
                have pcf := PC_canon pcn B4 B5 B6 B7 (by omega) (by rw [u2_o (by omega)]; exact xf8) (by rw [u2_o (by omega)]; exact xv8) (by rw [u2_s])
                refine x_take (d := d + 7) (TX_u (by decide) (TX_u (by decide) tx8)) (tn_b he 7) (TC_u (by decide) (TC_u (by decide) hc8)).2.2.1 (fun I99 L99 hs99 hc99 => ?_)
                conv => whnf
                exact ⟨Or.inr rfl, hO _ rfl I99 L99 (sl8.tr ((sL_u (by decide)).tr ((sL_u (by decide)).tr hs99.sL))) ⟨TX_sT (TX_u (by decide) (TX_u (by decide) tx8)) hs99, tn_b he 7, hc99, NC_sT (NC_u (by decide) (NC_u (by decide) nc8)) hs99, PC_sT (by decide) pcf hs99⟩⟩
              · have q : (lab b n 17 1 9 (tn b n 5 e)).1 ≠ 0 := q
                rw [if_pos q] at hE
                conv => whnf
                refine b2 (by decide) ?_
                conv => whnf
                exact ⟨Or.inl rfl, hE _ rfl _ _ ((sl7.tr (hs8.sL (q := 20))).tr sL_fl) fl_13 fl_14⟩
            · have q : (lab b n 16 1 30 (tn b n 3 e)).1 ≠ 0 := q
              rw [if_pos q] at hE
              conv => whnf
              refine b2 (by decide) ?_
              conv => whnf
              exact ⟨Or.inl rfl, hE _ rfl _ _ ((sl4.tr (hs5.sL (q := 20))).tr sL_fl) fl_13 fl_14⟩
        · rw [if_pos q] at hE
          conv => whnf
          refine b2 (fun z => z rfl) ?_
          conv => whnf
          exact ⟨Or.inl rfl, hE _ rfl _ _ (sl2.tr sL_fl) fl_13 fl_14⟩
      · rw [if_pos q] at hE
        conv => whnf
        refine b2 (by decide) ?_
        conv => whnf
        exact ⟨Or.inl rfl, hE _ rfl _ _ (sl1.tr sL_fl) fl_13 fl_14⟩
    · have z : ¬ nI (F 5) < 5 := z
      rw [show (5 : Int32) = nI 5 from rfl, nI_ltI (by omega) (by decide)] at z
      rw [if_pos (by omega)] at hE
      conv => whnf
      refine x_fails hc0 ?_
      conv => whnf
      exact ⟨Or.inl rfl, hE (5, tst b n (tn b n 0 e)) rfl (fl I 5 (tst b n (tn b n 0 e))) L (sl0.tr sL_fl) fl_13 fl_14⟩
end LNX
end
section
/-! the class's lines: canons, walkers; unsure, dropped -/
section LNX
variable {l : Launch} {X : Nat × (Nat → Int32)} {d : Nat} {w : Nat × Nat} {p r : Nat} {I : Nat → Nat → Int32} {L : Nat → Nat → Int64} {kr : KR} {b : Nat → Nat} {n e : Nat} {nm : List Nm} {F : Nat → Nat} {W : Int32}
set_option maxHeartbeats 2000000 in
set_option maxRecDepth 20000 in
theorem x_readsWalker (hq : r = 7 ∨ r = 20) (hB : Bd F W nm) (hT : 0 < F 0) (hS : SC b n r (F, W, nm, e) I L) (hE : ∀ er, lnWalker b n F W nm e = .inl er → ∀ I' L', sL r I I' L L' → I' 2 13 = nI er.1 → I' 2 14 = nI er.2 → kr (some (.int 0)) (mk w p r I' L')) (hO : ∀ P', lnWalker b n F W nm e = .inr P' → ∀ I' L', sL r I I' L L' → SC b n r P' I' L' → kr (some (.int 1)) (mk w p r I' L')) : Ev l X uX4_readsWalker (d + 9) true 0 0 [.ref 2] (mk w p r I L) kr := by
  obtain ⟨tx0, he, hc0, nc0, pc0⟩ := hS
  have he : e ≤ n := he
  have hc0 : TC b n (tn b n 0 e) I L := hc0
  have nc0 : NC b nm I L := nc0
  have sl0 : sL r I I L L := sL.rf
  obtain ⟨⟨B0, B1, B3, B4, B5, B6, B7⟩, BF, Bp, Bn, Bs, Bt⟩ := hB
  refine Ev.of (by decide) (Nat.le_of_ble_eq_true rfl) ?_
  unfold lnWalker at hE hO
  obtain ⟨Bt0, Bt1⟩ := Bt hT
  have hc4 : 2 * 2 ≤ F 0 * F 1 := Nat.mul_le_mul Bt0 Bt1
  have hc20 : F 0 * F 1 ≤ 5 * 4 := Nat.mul_le_mul B0 B1
  have ecel : (nI (F 0 * F 1) - nI 1 : Int32) = nI (F 0 * F 1 - 1) := nI_sub (by omega)
  rcases hq with rfl | rfl
  · refine Wf.gc tkX4_readsWalker [8] ?_
    conv => whnf
    show Wf l X uX4_readsWalker (d + 9) true (mC (mk w p 7 I L) + 0, mS (mk w p 7 I L) + 0) 8 [(0, .ref 2), (1, .int (I 7 14))] [] (mk w p 7 I L) kr
    rw [show I 7 14 = nI (F 6) from pc0.1.2.2.2.2.2.2.1]
    refine Wf.gc tkX4_readsWalker [] ?_
    conv => whnf
    refine ⟨fun z => ?_, fun z => ?_⟩
    · have z : nI (F 6) < 4 := z
      rw [show (4 : Int32) = nI 4 from rfl, nI_ltI (by omega) (by decide)] at z
      rw [if_neg (by omega)] at hE hO
      conv => whnf
      refine x_take (d := d + 7) tx0 (tn_b he 1) hc0.2.2.1 (fun I1 L1 hs1 hc1 => ?_)
      have hc1 : TC b n (tn b n 1 e) I1 L1 := hc1
      have tx1 := TX_sT tx0 hs1
      have nc1 := NC_sT nc0 hs1
      have pc1 := PC_sT (by decide) pc0 hs1
      have sl1 := sl0.tr (hs1.sL (q := 7))
      conv => whnf
      show Ev l X uX4_tells (d + 8) true 0 0 [.ref 2, .int (nI 3), .int (nI (F 6))] (mk w p 7 I1 L1) _
      refine x_tells (d := d + 1) tx1 (tn_b he 1) hc1 nc1 (by omega) (fun q I2 L2 hs2 ht2 nc2 hc2 => ?_) (fun q => ?_)
      · rw [if_neg (fun z => z q)] at hE hO
        conv => whnf
        refine b2 (by decide) ?_
        conv => whnf
        have hc2 : TC b n (tn b n 2 e) I2 L2 := hc2
        have nc2 : NC b (nm ++ [nw b n (tn b n 1 e) 3 (F 6)]) I2 L2 := nc2
        have tx2 : TX b n I2 := TX_sL (Or.inl rfl) tx1 hs2
        have pc2 : PC 7 F W I2 := PC_eq pc1 (fun a i z1 z2 => ht2 a i (by omega) (by omega) (by omega))
        have sl2 : sL 7 I I2 L L2 := sl1.tr ⟨fun a i z1 z2 z3 z4 => hs2x hs2 ht2 z1 z2 z3, hs2.2⟩
        have Bs2 := nms_a (x := nw b n (tn b n 1 e) 3 (F 6)) Bs ⟨by show 3 < 10; decide, by show F 6 < 6; omega⟩
        refine x_cells (q := 7) (Or.inl rfl) B0 B1 pc2 ?_
        conv => whnf
        show Ev l X uX4_labelled (d + 8) true 0 0 [.ref 2, .ref 5018, .int (nI 0), .int (nI (F 0 * F 1) - nI 1)] (mk w p 7 I2 L2) _
        rw [ecel]
        refine x_labelled (wd := 5018) (lo := 0) (hi := (F 0 * F 1 - 1)) (d := d + 2) (by decide) (by omega) tx2 (tn_b he 2) hc2 (by decide) (fun q I3 L3 hs3 hc3 t2 v1 v2 => ?_) (fun q I3 L3 hs3 => ?_)
        · have q : (lab b n 18 0 (F 0 * F 1 - 1) (tn b n 2 e)).1 = 0 := q
          rw [if_neg (fun z => z q)] at hE hO
          have hc3 : TC b n (tn b n 3 e) I3 L3 := hc3
          have w3 : I3 2 7 = nI (tvl b n (tn b n 3 e)) := hc3.2.2.2.1 t2
          have hu3 : tvl b n (tn b n 3 e) < 1000 := (tvl_b (tn_b he 3) t2).1
          have tx3 := TX_sT tx2 hs3
          have nc3 := NC_sT nc2 hs3
          have pc3 := PC_sT (by decide) pc2 hs3
          have sl3 := sl2.tr (hs3.sL (q := 7))
          conv => whnf
          refine b1 (by decide) ?_
          conv => whnf
          show Ev l X uX3_isWall (d + 8) true 0 0 [.ref 7, .int (I3 2 7)] (mk w p 7 I3 L3) _
          rw [w3]
          refine x_isWall (q := 7) (Or.inl rfl) pc3 ?_
          conv => whnf
          refine ⟨fun z3 => ?_, fun z3 => ?_⟩
          · rw [if_neg (by rw [bI_f z3]; decide)] at hE hO
            conv => whnf
            refine ⟨F 6, ix (N := 4) (by omega) (by decide), ?_⟩
            conv => whnf
            show Ev l X uX4_take (d + 8) true 0 0 [.ref 2] (mk w p 7 (u2 I3 16 (F 6) (I3 2 7)) L3) _
            rw [w3]
            show Ev l X uX4_take (d + 8) true 0 0 [.ref 2] (mk w p 7 (u2 I3 16 (F 6) (nI (tvl b n (tn b n 3 e)))) L3) _
            obtain ⟨I4, hI4⟩ : ∃ J, J = u2 I3 16 (F 6) (nI (tvl b n (tn b n 3 e))) := ⟨_, rfl⟩
            obtain ⟨L4, hL4⟩ : ∃ J, J = L3 := ⟨_, rfl⟩
            rw [← hI4, ← hL4]
            have tx4 : TX b n I4 := by rw [hI4]; exact TX_u (by decide) tx3
            have hc4 : TC b n (tn b n 3 e) I4 L4 := by rw [hI4, hL4]; exact TC_u (by decide) hc3
            have nc4 : NC b (nm ++ [nw b n (tn b n 1 e) 3 (F 6)]) I4 L4 := by rw [hI4, hL4]; exact NC_u (by decide) nc3
            have pc4 : PC 7 F W I4 := by rw [hI4]; exact PC_new (q := 7) (j := 9) pc3 (by omega)
            have sl4 : sL 7 I I4 L L4 := by rw [hI4, hL4]; exact sl3.tr (sL_u (by decide))
            have xa4 : I4 16 (F 6) = (nI (tvl b n (tn b n 3 e))) := by rw [hI4, u2_s]
            refine x_take (d := d + 7) tx4 (tn_b he 4) hc4.2.2.1 (fun I5 L5 hs5 hc5 => ?_)
            have hc5 : TC b n (tn b n 4 e) I5 L5 := hc5
            have tx5 := TX_sT tx4 hs5
            have nc5 := NC_sT nc4 hs5
            have pc5 := PC_sT (by decide) pc4 hs5
            have sl5 := sl4.tr (hs5.sL (q := 7))
            have xa5 : I5 16 (F 6) = (nI (tvl b n (tn b n 3 e))) := (hs5.1 _ _ (by omega)).trans xa4
            conv => whnf
            refine x_cells (q := 7) (Or.inl rfl) B0 B1 pc5 ?_
            conv => whnf
            show Ev l X uX4_labelled (d + 8) true 0 0 [.ref 2, .ref 5019, .int (nI 0), .int (nI (F 0 * F 1) - nI 1)] (mk w p 7 I5 L5) _
            rw [ecel]
            refine x_labelled (wd := 5019) (lo := 0) (hi := (F 0 * F 1 - 1)) (d := d + 2) (by decide) (by omega) tx5 (tn_b he 4) hc5 (by decide) (fun q I6 L6 hs6 hc6 t2 v1 v2 => ?_) (fun q I6 L6 hs6 => ?_)
            · have q : (lab b n 19 0 (F 0 * F 1 - 1) (tn b n 4 e)).1 = 0 := q
              rw [if_neg (fun z => z q)] at hE hO
              have hc6 : TC b n (tn b n 5 e) I6 L6 := hc6
              have w5 : I6 2 7 = nI (tvl b n (tn b n 5 e)) := hc6.2.2.2.1 t2
              have hu5 : tvl b n (tn b n 5 e) < 1000 := (tvl_b (tn_b he 5) t2).1
              have tx6 := TX_sT tx5 hs6
              have nc6 := NC_sT nc5 hs6
              have pc6 := PC_sT (by decide) pc5 hs6
              have sl6 := sl5.tr (hs6.sL (q := 7))
              have xa6 : I6 16 (F 6) = (nI (tvl b n (tn b n 3 e))) := (hs6.1 _ _ (by omega)).trans xa5
              conv => whnf
              refine b1 (by decide) ?_
              conv => whnf
              show Ev l X uX3_isWall (d + 8) true 0 0 [.ref 7, .int (I6 2 7)] (mk w p 7 I6 L6) _
              rw [w5]
              refine x_isWall (q := 7) (Or.inl rfl) pc6 ?_
              conv => whnf
              refine ⟨fun z3 => ?_, fun z3 => ?_⟩
              · rw [if_neg (by rw [bI_f z3]; decide)] at hE hO
                conv => whnf
                refine ⟨F 6, ix (N := 4) (by omega) (by decide), ?_⟩
                conv => whnf
                show Ev l X uX4_take (d + 8) true 0 0 [.ref 2] (mk w p 7 (u2 (u2 I6 17 (F 6) (I6 2 7)) 7 14 (u2 I6 17 (F 6) (I6 2 7) 7 14 + 1)) L6) _
                rw [w5, u2_o (by omega), show I6 7 14 = nI (F 6) from pc6.1.2.2.2.2.2.2.1, nI_1]
                have pcn : PC 7 F W (u2 I6 17 (F 6) (nI (tvl b n (tn b n 5 e)))) := PC_new (q := 7) (j := 10) pc6 (by omega)
                have pcf := PC_walker pcn B4 B5 B6 B7 (by omega) (by rw [u2_o (by omega)]; exact xa6) (by rw [u2_s])
                refine x_take (d := d + 7) (TX_u (by decide) (TX_u (by decide) tx6)) (tn_b he 6) (TC_u (by decide) (TC_u (by decide) hc6)).2.2.1 (fun I99 L99 hs99 hc99 => ?_)
                conv => whnf
                exact ⟨Or.inr rfl, hO _ rfl I99 L99 (sl6.tr ((sL_u (by decide)).tr ((sL_u (by decide)).tr hs99.sL))) ⟨TX_sT (TX_u (by decide) (TX_u (by decide) tx6)) hs99, tn_b he 6, hc99, NC_sT (NC_u (by decide) (NC_u (by decide) nc6)) hs99, PC_sT (by decide) pcf hs99⟩⟩
              · rw [if_pos (bI_t z3)] at hE
                conv => whnf
                refine x_fails hc6 ?_
                conv => whnf
                exact ⟨Or.inl rfl, hE (7, tst b n (tn b n 5 e)) rfl (fl I6 7 (tst b n (tn b n 5 e))) L6 (sl6.tr sL_fl) fl_13 fl_14⟩
            · have q : (lab b n 19 0 (F 0 * F 1 - 1) (tn b n 4 e)).1 ≠ 0 := q
              rw [if_pos q] at hE
              conv => whnf
              refine b2 (by decide) ?_
              conv => whnf
              exact ⟨Or.inl rfl, hE _ rfl _ _ ((sl5.tr (hs6.sL (q := 7))).tr sL_fl) fl_13 fl_14⟩
          · rw [if_pos (bI_t z3)] at hE
            conv => whnf
            refine x_fails hc3 ?_
            conv => whnf
            exact ⟨Or.inl rfl, hE (7, tst b n (tn b n 3 e)) rfl (fl I3 7 (tst b n (tn b n 3 e))) L3 (sl3.tr sL_fl) fl_13 fl_14⟩
        · have q : (lab b n 18 0 (F 0 * F 1 - 1) (tn b n 2 e)).1 ≠ 0 := q
          rw [if_pos q] at hE
          conv => whnf
          refine b2 (by decide) ?_
          conv => whnf
          exact ⟨Or.inl rfl, hE _ rfl _ _ ((sl2.tr (hs3.sL (q := 7))).tr sL_fl) fl_13 fl_14⟩
      · rw [if_pos q] at hE
        conv => whnf
        refine b1 (by decide) ?_
        conv => whnf
        exact ⟨Or.inl rfl, hE _ rfl _ _ (sl1.tr sL_fl) fl_13 fl_14⟩
    · have z : ¬ nI (F 6) < 4 := z
      rw [show (4 : Int32) = nI 4 from rfl, nI_ltI (by omega) (by decide)] at z
      rw [if_pos (by omega)] at hE
      conv => whnf
      refine x_fails hc0 ?_
      conv => whnf
      exact ⟨Or.inl rfl, hE (5, tst b n (tn b n 0 e)) rfl (fl I 5 (tst b n (tn b n 0 e))) L (sl0.tr sL_fl) fl_13 fl_14⟩
  · refine Wf.gc tkX4_readsWalker [8] ?_
    conv => whnf
    show Wf l X uX4_readsWalker (d + 9) true (mC (mk w p 20 I L) + 0, mS (mk w p 20 I L) + 0) 8 [(0, .ref 2), (1, .int (I 20 14))] [] (mk w p 20 I L) kr
    rw [show I 20 14 = nI (F 6) from pc0.1.2.2.2.2.2.2.1]
    refine Wf.gc tkX4_readsWalker [] ?_
    conv => whnf
    refine ⟨fun z => ?_, fun z => ?_⟩
    · have z : nI (F 6) < 4 := z
      rw [show (4 : Int32) = nI 4 from rfl, nI_ltI (by omega) (by decide)] at z
      rw [if_neg (by omega)] at hE hO
      conv => whnf
      refine x_take (d := d + 7) tx0 (tn_b he 1) hc0.2.2.1 (fun I1 L1 hs1 hc1 => ?_)
      have hc1 : TC b n (tn b n 1 e) I1 L1 := hc1
      have tx1 := TX_sT tx0 hs1
      have nc1 := NC_sT nc0 hs1
      have pc1 := PC_sT (by decide) pc0 hs1
      have sl1 := sl0.tr (hs1.sL (q := 20))
      conv => whnf
      show Ev l X uX4_tells (d + 8) true 0 0 [.ref 2, .int (nI 3), .int (nI (F 6))] (mk w p 20 I1 L1) _
      refine x_tells (d := d + 1) tx1 (tn_b he 1) hc1 nc1 (by omega) (fun q I2 L2 hs2 ht2 nc2 hc2 => ?_) (fun q => ?_)
      · rw [if_neg (fun z => z q)] at hE hO
        conv => whnf
        refine b2 (by decide) ?_
        conv => whnf
        have hc2 : TC b n (tn b n 2 e) I2 L2 := hc2
        have nc2 : NC b (nm ++ [nw b n (tn b n 1 e) 3 (F 6)]) I2 L2 := nc2
        have tx2 : TX b n I2 := TX_sL (Or.inl rfl) tx1 hs2
        have pc2 : PC 20 F W I2 := PC_eq pc1 (fun a i z1 z2 => ht2 a i (by omega) (by omega) (by omega))
        have sl2 : sL 20 I I2 L L2 := sl1.tr ⟨fun a i z1 z2 z3 z4 => hs2x hs2 ht2 z1 z2 z3, hs2.2⟩
        have Bs2 := nms_a (x := nw b n (tn b n 1 e) 3 (F 6)) Bs ⟨by show 3 < 10; decide, by show F 6 < 6; omega⟩
        refine x_cells (q := 20) (Or.inr rfl) B0 B1 pc2 ?_
        conv => whnf
        show Ev l X uX4_labelled (d + 8) true 0 0 [.ref 2, .ref 5018, .int (nI 0), .int (nI (F 0 * F 1) - nI 1)] (mk w p 20 I2 L2) _
        rw [ecel]
        refine x_labelled (wd := 5018) (lo := 0) (hi := (F 0 * F 1 - 1)) (d := d + 2) (by decide) (by omega) tx2 (tn_b he 2) hc2 (by decide) (fun q I3 L3 hs3 hc3 t2 v1 v2 => ?_) (fun q I3 L3 hs3 => ?_)
        · have q : (lab b n 18 0 (F 0 * F 1 - 1) (tn b n 2 e)).1 = 0 := q
          rw [if_neg (fun z => z q)] at hE hO
          have hc3 : TC b n (tn b n 3 e) I3 L3 := hc3
          have w3 : I3 2 7 = nI (tvl b n (tn b n 3 e)) := hc3.2.2.2.1 t2
          have hu3 : tvl b n (tn b n 3 e) < 1000 := (tvl_b (tn_b he 3) t2).1
          have tx3 := TX_sT tx2 hs3
          have nc3 := NC_sT nc2 hs3
          have pc3 := PC_sT (by decide) pc2 hs3
          have sl3 := sl2.tr (hs3.sL (q := 20))
          conv => whnf
          refine b1 (by decide) ?_
          conv => whnf
          show Ev l X uX3_isWall (d + 8) true 0 0 [.ref 20, .int (I3 2 7)] (mk w p 20 I3 L3) _
          rw [w3]
          refine x_isWall (q := 20) (Or.inr rfl) pc3 ?_
          conv => whnf
          refine ⟨fun z3 => ?_, fun z3 => ?_⟩
          · rw [if_neg (by rw [bI_f z3]; decide)] at hE hO
            conv => whnf
            refine ⟨F 6, ix (N := 4) (by omega) (by decide), ?_⟩
            conv => whnf
            show Ev l X uX4_take (d + 8) true 0 0 [.ref 2] (mk w p 20 (u2 I3 29 (F 6) (I3 2 7)) L3) _
            rw [w3]
            show Ev l X uX4_take (d + 8) true 0 0 [.ref 2] (mk w p 20 (u2 I3 29 (F 6) (nI (tvl b n (tn b n 3 e)))) L3) _
            obtain ⟨I4, hI4⟩ : ∃ J, J = u2 I3 29 (F 6) (nI (tvl b n (tn b n 3 e))) := ⟨_, rfl⟩
            obtain ⟨L4, hL4⟩ : ∃ J, J = L3 := ⟨_, rfl⟩
            rw [← hI4, ← hL4]
            have tx4 : TX b n I4 := by rw [hI4]; exact TX_u (by decide) tx3
            have hc4 : TC b n (tn b n 3 e) I4 L4 := by rw [hI4, hL4]; exact TC_u (by decide) hc3
            have nc4 : NC b (nm ++ [nw b n (tn b n 1 e) 3 (F 6)]) I4 L4 := by rw [hI4, hL4]; exact NC_u (by decide) nc3
            have pc4 : PC 20 F W I4 := by rw [hI4]; exact PC_new (q := 20) (j := 9) pc3 (by omega)
            have sl4 : sL 20 I I4 L L4 := by rw [hI4, hL4]; exact sl3.tr (sL_u (by decide))
            have xa4 : I4 29 (F 6) = (nI (tvl b n (tn b n 3 e))) := by rw [hI4, u2_s]
            refine x_take (d := d + 7) tx4 (tn_b he 4) hc4.2.2.1 (fun I5 L5 hs5 hc5 => ?_)
            have hc5 : TC b n (tn b n 4 e) I5 L5 := hc5
            have tx5 := TX_sT tx4 hs5
            have nc5 := NC_sT nc4 hs5
            have pc5 := PC_sT (by decide) pc4 hs5
            have sl5 := sl4.tr (hs5.sL (q := 20))
            have xa5 : I5 29 (F 6) = (nI (tvl b n (tn b n 3 e))) := (hs5.1 _ _ (by omega)).trans xa4
            conv => whnf
            refine x_cells (q := 20) (Or.inr rfl) B0 B1 pc5 ?_
            conv => whnf
            show Ev l X uX4_labelled (d + 8) true 0 0 [.ref 2, .ref 5019, .int (nI 0), .int (nI (F 0 * F 1) - nI 1)] (mk w p 20 I5 L5) _
            rw [ecel]
            refine x_labelled (wd := 5019) (lo := 0) (hi := (F 0 * F 1 - 1)) (d := d + 2) (by decide) (by omega) tx5 (tn_b he 4) hc5 (by decide) (fun q I6 L6 hs6 hc6 t2 v1 v2 => ?_) (fun q I6 L6 hs6 => ?_)
            · have q : (lab b n 19 0 (F 0 * F 1 - 1) (tn b n 4 e)).1 = 0 := q
              rw [if_neg (fun z => z q)] at hE hO
              have hc6 : TC b n (tn b n 5 e) I6 L6 := hc6
              have w5 : I6 2 7 = nI (tvl b n (tn b n 5 e)) := hc6.2.2.2.1 t2
              have hu5 : tvl b n (tn b n 5 e) < 1000 := (tvl_b (tn_b he 5) t2).1
              have tx6 := TX_sT tx5 hs6
              have nc6 := NC_sT nc5 hs6
              have pc6 := PC_sT (by decide) pc5 hs6
              have sl6 := sl5.tr (hs6.sL (q := 20))
              have xa6 : I6 29 (F 6) = (nI (tvl b n (tn b n 3 e))) := (hs6.1 _ _ (by omega)).trans xa5
              conv => whnf
              refine b1 (by decide) ?_
              conv => whnf
              show Ev l X uX3_isWall (d + 8) true 0 0 [.ref 20, .int (I6 2 7)] (mk w p 20 I6 L6) _
              rw [w5]
              refine x_isWall (q := 20) (Or.inr rfl) pc6 ?_
              conv => whnf
              refine ⟨fun z3 => ?_, fun z3 => ?_⟩
              · rw [if_neg (by rw [bI_f z3]; decide)] at hE hO
                conv => whnf
                refine ⟨F 6, ix (N := 4) (by omega) (by decide), ?_⟩
                conv => whnf
                show Ev l X uX4_take (d + 8) true 0 0 [.ref 2] (mk w p 20 (u2 (u2 I6 30 (F 6) (I6 2 7)) 20 14 (u2 I6 30 (F 6) (I6 2 7) 20 14 + 1)) L6) _
                rw [w5, u2_o (by omega), show I6 20 14 = nI (F 6) from pc6.1.2.2.2.2.2.2.1, nI_1]
                have pcn : PC 20 F W (u2 I6 30 (F 6) (nI (tvl b n (tn b n 5 e)))) := PC_new (q := 20) (j := 10) pc6 (by omega)
                have pcf := PC_walker pcn B4 B5 B6 B7 (by omega) (by rw [u2_o (by omega)]; exact xa6) (by rw [u2_s])
                refine x_take (d := d + 7) (TX_u (by decide) (TX_u (by decide) tx6)) (tn_b he 6) (TC_u (by decide) (TC_u (by decide) hc6)).2.2.1 (fun I99 L99 hs99 hc99 => ?_)
                conv => whnf
                exact ⟨Or.inr rfl, hO _ rfl I99 L99 (sl6.tr ((sL_u (by decide)).tr ((sL_u (by decide)).tr hs99.sL))) ⟨TX_sT (TX_u (by decide) (TX_u (by decide) tx6)) hs99, tn_b he 6, hc99, NC_sT (NC_u (by decide) (NC_u (by decide) nc6)) hs99, PC_sT (by decide) pcf hs99⟩⟩
              · rw [if_pos (bI_t z3)] at hE
                conv => whnf
                refine x_fails hc6 ?_
                conv => whnf
                exact ⟨Or.inl rfl, hE (7, tst b n (tn b n 5 e)) rfl (fl I6 7 (tst b n (tn b n 5 e))) L6 (sl6.tr sL_fl) fl_13 fl_14⟩
            · have q : (lab b n 19 0 (F 0 * F 1 - 1) (tn b n 4 e)).1 ≠ 0 := q
              rw [if_pos q] at hE
              conv => whnf
              refine b2 (by decide) ?_
              conv => whnf
              exact ⟨Or.inl rfl, hE _ rfl _ _ ((sl5.tr (hs6.sL (q := 20))).tr sL_fl) fl_13 fl_14⟩
          · rw [if_pos (bI_t z3)] at hE
            conv => whnf
            refine x_fails hc3 ?_
            conv => whnf
            exact ⟨Or.inl rfl, hE (7, tst b n (tn b n 3 e)) rfl (fl I3 7 (tst b n (tn b n 3 e))) L3 (sl3.tr sL_fl) fl_13 fl_14⟩
        · have q : (lab b n 18 0 (F 0 * F 1 - 1) (tn b n 2 e)).1 ≠ 0 := q
          rw [if_pos q] at hE
          conv => whnf
          refine b2 (by decide) ?_
          conv => whnf
          exact ⟨Or.inl rfl, hE _ rfl _ _ ((sl2.tr (hs3.sL (q := 20))).tr sL_fl) fl_13 fl_14⟩
      · rw [if_pos q] at hE
        conv => whnf
        refine b1 (by decide) ?_
        conv => whnf
        exact ⟨Or.inl rfl, hE _ rfl _ _ (sl1.tr sL_fl) fl_13 fl_14⟩
    · have z : ¬ nI (F 6) < 4 := z
      rw [show (4 : Int32) = nI 4 from rfl, nI_ltI (by omega) (by decide)] at z
      rw [if_pos (by omega)] at hE
      conv => whnf
      refine x_fails hc0 ?_
      conv => whnf
      exact ⟨Or.inl rfl, hE (5, tst b n (tn b n 0 e)) rfl (fl I 5 (tst b n (tn b n 0 e))) L (sl0.tr sL_fl) fl_13 fl_14⟩
end LNX
end
section
/-! the class's lines: canons, walkers; unsure, dropped -/
section LNX
variable {l : Launch} {X : Nat × (Nat → Int32)} {d : Nat} {w : Nat × Nat} {p r : Nat} {I : Nat → Nat → Int32} {L : Nat → Nat → Int64} {kr : KR} {b : Nat → Nat} {n e : Nat} {nm : List Nm} {F : Nat → Nat} {W : Int32}
set_option maxHeartbeats 2000000 in
set_option maxRecDepth 20000 in
theorem x_readsUnsure (hq : r = 7 ∨ r = 20) (hB : Bd F W nm) (hT : 0 < F 0) (hS : SC b n r (F, W, nm, e) I L) (hE : ∀ er, lnUnsure b n F W nm e = .inl er → ∀ I' L', sL r I I' L L' → I' 2 13 = nI er.1 → I' 2 14 = nI er.2 → kr (some (.int 0)) (mk w p r I' L')) (hO : ∀ P', lnUnsure b n F W nm e = .inr P' → ∀ I' L', sL r I I' L L' → SC b n r P' I' L' → kr (some (.int 1)) (mk w p r I' L')) : Ev l X uX4_readsUnsure (d + 9) true 0 0 [.ref 2] (mk w p r I L) kr := by
  obtain ⟨tx0, he, hc0, nc0, pc0⟩ := hS
  have he : e ≤ n := he
  have hc0 : TC b n (tn b n 0 e) I L := hc0
  have nc0 : NC b nm I L := nc0
  have sl0 : sL r I I L L := sL.rf
  obtain ⟨⟨B0, B1, B3, B4, B5, B6, B7⟩, BF, Bp, Bn, Bs, Bt⟩ := hB
  refine Ev.of (by decide) (Nat.le_of_ble_eq_true rfl) ?_
  unfold lnUnsure at hE hO
  obtain ⟨Bt0, Bt1⟩ := Bt hT
  have hc4 : 2 * 2 ≤ F 0 * F 1 := Nat.mul_le_mul Bt0 Bt1
  have hc20 : F 0 * F 1 ≤ 5 * 4 := Nat.mul_le_mul B0 B1
  have ecel : (nI (F 0 * F 1) - nI 1 : Int32) = nI (F 0 * F 1 - 1) := nI_sub (by omega)
  rcases hq with rfl | rfl
  · refine Wf.gc tkX4_readsUnsure [8] ?_
    conv => whnf
    show Wf l X uX4_readsUnsure (d + 9) true (mC (mk w p 7 I L) + 0, mS (mk w p 7 I L) + 0) 8 [(0, .ref 2), (1, .int (I 7 17))] [] (mk w p 7 I L) kr
    rw [show I 7 17 = nI (F 7) from pc0.1.2.2.2.2.2.2.2]
    refine Wf.gc tkX4_readsUnsure [] ?_
    conv => whnf
    refine ⟨fun z => ?_, fun z => ?_⟩
    · have z : nI (F 7) < 4 := z
      rw [show (4 : Int32) = nI 4 from rfl, nI_ltI (by omega) (by decide)] at z
      rw [if_neg (by omega)] at hE hO
      conv => whnf
      refine x_take (d := d + 7) tx0 (tn_b he 1) hc0.2.2.1 (fun I1 L1 hs1 hc1 => ?_)
      have hc1 : TC b n (tn b n 1 e) I1 L1 := hc1
      have tx1 := TX_sT tx0 hs1
      have nc1 := NC_sT nc0 hs1
      have pc1 := PC_sT (by decide) pc0 hs1
      have sl1 := sl0.tr (hs1.sL (q := 7))
      conv => whnf
      show Ev l X uX4_named (d + 8) true 0 0 [.ref 2, .int (nI 2)] (mk w p 7 I1 L1) _
      have hf6 : (nam b n nm 2 (tn b n 1 e)).2 < 6 := nam_6 (fun i hi => (Bs i hi).2)
      refine x_named (so := 2) (d := d + 1) (by decide) (fun i hi => (Bs i hi).1) tx1 (tn_b he 1) hc1 nc1 (fun q => ?_) (fun q => ?_)
      · rw [if_neg (fun z => z q)] at hE hO
        conv => whnf
        refine b1 (nI_m2 (by omega)) ?_
        conv => whnf
        refine x_unsureOf (q := 7) (Or.inl rfl) (by omega) (fun f _ => BF _) B7 pc1 ?_
        conv => whnf
        cases hfo : usd F (nam b n nm 2 (tn b n 1 e)).2 with
        | some g =>
          rw [if_pos (by rw [hfo]; rfl)] at hE
          have := ff_b hfo
          refine b2 (nI_m2 (by omega)) ?_
          conv => whnf
          refine x_fails hc1 ?_
          conv => whnf
          exact ⟨Or.inl rfl, hE (3, tst b n (tn b n 1 e)) rfl (fl I1 3 (tst b n (tn b n 1 e))) L1 (sl1.tr sL_fl) fl_13 fl_14⟩
        | none =>
          rw [if_neg (by rw [hfo]; decide)] at hE hO
          refine b1 (fun z => z rfl) ?_
          conv => whnf
          refine x_take (d := d + 7) tx1 (tn_b he 2) hc1.2.2.1 (fun I2 L2 hs2 hc2 => ?_)
          have hc2 : TC b n (tn b n 2 e) I2 L2 := hc2
          have tx2 := TX_sT tx1 hs2
          have nc2 := NC_sT nc1 hs2
          have pc2 := PC_sT (by decide) pc1 hs2
          have sl2 := sl1.tr (hs2.sL (q := 7))
          conv => whnf
          show Ev l X uX4_bounded (d + 8) true 0 0 [.ref 2, .int (nI 1), .int (nI 30)] (mk w p 7 I2 L2) _
          refine x_bounded (d := d + 7) (by decide) (by decide) (tn_b he 2) hc2 (fun q => ?_) (fun q => ?_)
          · have t2 : tso b n (tn b n 2 e) = 2 := bnd_t q
            have w2 : I2 2 7 = nI (tvl b n (tn b n 2 e)) := hc2.2.2.2.1 t2
            rw [if_neg (fun z => z q)] at hE hO
            conv => whnf
            refine b1 (by decide) ?_
            conv => whnf
            refine ⟨F 7, ix (N := 4) (by omega) (by decide), ?_⟩
            conv => whnf
            refine ⟨F 7, ix (N := 4) (by omega) (by decide), ?_⟩
            conv => whnf
            show Ev l X uX4_take (d + 8) true 0 0 [.ref 2] (mk w p 7 (u2 (u2 (u2 I2 18 (F 7) (nI (nam b n nm 2 (tn b n 1 e)).2)) 19 (F 7) (I2 2 7)) 7 17 (u2 (u2 I2 18 (F 7) (nI (nam b n nm 2 (tn b n 1 e)).2)) 19 (F 7) (I2 2 7) 7 17 + 1)) L2) _
            rw [w2, u2_o (by omega), u2_o (by omega), show I2 7 17 = nI (F 7) from pc2.1.2.2.2.2.2.2.2, nI_1]
            have pcn : PC 7 F W (u2 (u2 I2 18 (F 7) (nI (nam b n nm 2 (tn b n 1 e)).2)) 19 (F 7) (nI (tvl b n (tn b n 2 e)))) := PC_new (q := 7) (j := 12) (PC_new (q := 7) (j := 11) pc2 (by omega)) (by omega)
            have pcf := PC_unsure pcn B4 B5 B6 B7 (by omega) (by rw [u2_o (by omega), u2_s]) (by rw [u2_s])
            refine x_take (d := d + 7) (TX_u (by decide) (TX_u (by decide) (TX_u (by decide) tx2))) (tn_b he 3) (TC_u (by decide) (TC_u (by decide) (TC_u (by decide) hc2))).2.2.1 (fun I99 L99 hs99 hc99 => ?_)
            conv => whnf
            exact ⟨Or.inr rfl, hO _ rfl I99 L99 (sl2.tr ((sL_u (by decide)).tr ((sL_u (by decide)).tr ((sL_u (by decide)).tr hs99.sL)))) ⟨TX_sT (TX_u (by decide) (TX_u (by decide) (TX_u (by decide) tx2))) hs99, tn_b he 3, hc99, NC_sT (NC_u (by decide) (NC_u (by decide) (NC_u (by decide) nc2))) hs99, PC_sT (by decide) pcf hs99⟩⟩
          · rw [if_pos q] at hE
            conv => whnf
            refine b2 (by decide) ?_
            conv => whnf
            exact ⟨Or.inl rfl, hE _ rfl _ _ (sl2.tr sL_fl) fl_13 fl_14⟩
      · rw [if_pos q] at hE
        conv => whnf
        refine b2 (fun z => z rfl) ?_
        conv => whnf
        exact ⟨Or.inl rfl, hE _ rfl _ _ (sl1.tr sL_fl) fl_13 fl_14⟩
    · have z : ¬ nI (F 7) < 4 := z
      rw [show (4 : Int32) = nI 4 from rfl, nI_ltI (by omega) (by decide)] at z
      rw [if_pos (by omega)] at hE
      conv => whnf
      refine x_fails hc0 ?_
      conv => whnf
      exact ⟨Or.inl rfl, hE (5, tst b n (tn b n 0 e)) rfl (fl I 5 (tst b n (tn b n 0 e))) L (sl0.tr sL_fl) fl_13 fl_14⟩
  · refine Wf.gc tkX4_readsUnsure [8] ?_
    conv => whnf
    show Wf l X uX4_readsUnsure (d + 9) true (mC (mk w p 20 I L) + 0, mS (mk w p 20 I L) + 0) 8 [(0, .ref 2), (1, .int (I 20 17))] [] (mk w p 20 I L) kr
    rw [show I 20 17 = nI (F 7) from pc0.1.2.2.2.2.2.2.2]
    refine Wf.gc tkX4_readsUnsure [] ?_
    conv => whnf
    refine ⟨fun z => ?_, fun z => ?_⟩
    · have z : nI (F 7) < 4 := z
      rw [show (4 : Int32) = nI 4 from rfl, nI_ltI (by omega) (by decide)] at z
      rw [if_neg (by omega)] at hE hO
      conv => whnf
      refine x_take (d := d + 7) tx0 (tn_b he 1) hc0.2.2.1 (fun I1 L1 hs1 hc1 => ?_)
      have hc1 : TC b n (tn b n 1 e) I1 L1 := hc1
      have tx1 := TX_sT tx0 hs1
      have nc1 := NC_sT nc0 hs1
      have pc1 := PC_sT (by decide) pc0 hs1
      have sl1 := sl0.tr (hs1.sL (q := 20))
      conv => whnf
      show Ev l X uX4_named (d + 8) true 0 0 [.ref 2, .int (nI 2)] (mk w p 20 I1 L1) _
      have hf6 : (nam b n nm 2 (tn b n 1 e)).2 < 6 := nam_6 (fun i hi => (Bs i hi).2)
      refine x_named (so := 2) (d := d + 1) (by decide) (fun i hi => (Bs i hi).1) tx1 (tn_b he 1) hc1 nc1 (fun q => ?_) (fun q => ?_)
      · rw [if_neg (fun z => z q)] at hE hO
        conv => whnf
        refine b1 (nI_m2 (by omega)) ?_
        conv => whnf
        refine x_unsureOf (q := 20) (Or.inr rfl) (by omega) (fun f _ => BF _) B7 pc1 ?_
        conv => whnf
        cases hfo : usd F (nam b n nm 2 (tn b n 1 e)).2 with
        | some g =>
          rw [if_pos (by rw [hfo]; rfl)] at hE
          have := ff_b hfo
          refine b2 (nI_m2 (by omega)) ?_
          conv => whnf
          refine x_fails hc1 ?_
          conv => whnf
          exact ⟨Or.inl rfl, hE (3, tst b n (tn b n 1 e)) rfl (fl I1 3 (tst b n (tn b n 1 e))) L1 (sl1.tr sL_fl) fl_13 fl_14⟩
        | none =>
          rw [if_neg (by rw [hfo]; decide)] at hE hO
          refine b1 (fun z => z rfl) ?_
          conv => whnf
          refine x_take (d := d + 7) tx1 (tn_b he 2) hc1.2.2.1 (fun I2 L2 hs2 hc2 => ?_)
          have hc2 : TC b n (tn b n 2 e) I2 L2 := hc2
          have tx2 := TX_sT tx1 hs2
          have nc2 := NC_sT nc1 hs2
          have pc2 := PC_sT (by decide) pc1 hs2
          have sl2 := sl1.tr (hs2.sL (q := 20))
          conv => whnf
          show Ev l X uX4_bounded (d + 8) true 0 0 [.ref 2, .int (nI 1), .int (nI 30)] (mk w p 20 I2 L2) _
          refine x_bounded (d := d + 7) (by decide) (by decide) (tn_b he 2) hc2 (fun q => ?_) (fun q => ?_)
          · have t2 : tso b n (tn b n 2 e) = 2 := bnd_t q
            have w2 : I2 2 7 = nI (tvl b n (tn b n 2 e)) := hc2.2.2.2.1 t2
            rw [if_neg (fun z => z q)] at hE hO
            conv => whnf
            refine b1 (by decide) ?_
            conv => whnf
            refine ⟨F 7, ix (N := 4) (by omega) (by decide), ?_⟩
            conv => whnf
            refine ⟨F 7, ix (N := 4) (by omega) (by decide), ?_⟩
            conv => whnf
            show Ev l X uX4_take (d + 8) true 0 0 [.ref 2] (mk w p 20 (u2 (u2 (u2 I2 31 (F 7) (nI (nam b n nm 2 (tn b n 1 e)).2)) 32 (F 7) (I2 2 7)) 20 17 (u2 (u2 I2 31 (F 7) (nI (nam b n nm 2 (tn b n 1 e)).2)) 32 (F 7) (I2 2 7) 20 17 + 1)) L2) _
            rw [w2, u2_o (by omega), u2_o (by omega), show I2 20 17 = nI (F 7) from pc2.1.2.2.2.2.2.2.2, nI_1]
            have pcn : PC 20 F W (u2 (u2 I2 31 (F 7) (nI (nam b n nm 2 (tn b n 1 e)).2)) 32 (F 7) (nI (tvl b n (tn b n 2 e)))) := PC_new (q := 20) (j := 12) (PC_new (q := 20) (j := 11) pc2 (by omega)) (by omega)
            have pcf := PC_unsure pcn B4 B5 B6 B7 (by omega) (by rw [u2_o (by omega), u2_s]) (by rw [u2_s])
            refine x_take (d := d + 7) (TX_u (by decide) (TX_u (by decide) (TX_u (by decide) tx2))) (tn_b he 3) (TC_u (by decide) (TC_u (by decide) (TC_u (by decide) hc2))).2.2.1 (fun I99 L99 hs99 hc99 => ?_)
            conv => whnf
            exact ⟨Or.inr rfl, hO _ rfl I99 L99 (sl2.tr ((sL_u (by decide)).tr ((sL_u (by decide)).tr ((sL_u (by decide)).tr hs99.sL)))) ⟨TX_sT (TX_u (by decide) (TX_u (by decide) (TX_u (by decide) tx2))) hs99, tn_b he 3, hc99, NC_sT (NC_u (by decide) (NC_u (by decide) (NC_u (by decide) nc2))) hs99, PC_sT (by decide) pcf hs99⟩⟩
          · rw [if_pos q] at hE
            conv => whnf
            refine b2 (by decide) ?_
            conv => whnf
            exact ⟨Or.inl rfl, hE _ rfl _ _ (sl2.tr sL_fl) fl_13 fl_14⟩
      · rw [if_pos q] at hE
        conv => whnf
        refine b2 (fun z => z rfl) ?_
        conv => whnf
        exact ⟨Or.inl rfl, hE _ rfl _ _ (sl1.tr sL_fl) fl_13 fl_14⟩
    · have z : ¬ nI (F 7) < 4 := z
      rw [show (4 : Int32) = nI 4 from rfl, nI_ltI (by omega) (by decide)] at z
      rw [if_pos (by omega)] at hE
      conv => whnf
      refine x_fails hc0 ?_
      conv => whnf
      exact ⟨Or.inl rfl, hE (5, tst b n (tn b n 0 e)) rfl (fl I 5 (tst b n (tn b n 0 e))) L (sl0.tr sL_fl) fl_13 fl_14⟩
set_option maxHeartbeats 2000000 in
set_option maxRecDepth 20000 in
theorem x_readsDropped (hq : r = 7 ∨ r = 20) (hB : Bd F W nm) (hT : 0 < F 0) (hS : SC b n r (F, W, nm, e) I L) (hE : ∀ er, lnDropped b n F W nm e = .inl er → ∀ I' L', sL r I I' L L' → I' 2 13 = nI er.1 → I' 2 14 = nI er.2 → kr (some (.int 0)) (mk w p r I' L')) (hO : ∀ P', lnDropped b n F W nm e = .inr P' → ∀ I' L', sL r I I' L L' → SC b n r P' I' L' → kr (some (.int 1)) (mk w p r I' L')) : Ev l X uX4_readsDropped (d + 9) true 0 0 [.ref 2] (mk w p r I L) kr := by
  obtain ⟨tx0, he, hc0, nc0, pc0⟩ := hS
  have he : e ≤ n := he
  have hc0 : TC b n (tn b n 0 e) I L := hc0
  have nc0 : NC b nm I L := nc0
  have sl0 : sL r I I L L := sL.rf
  obtain ⟨⟨B0, B1, B3, B4, B5, B6, B7⟩, BF, Bp, Bn, Bs, Bt⟩ := hB
  refine Ev.of (by decide) (Nat.le_of_ble_eq_true rfl) ?_
  unfold lnDropped at hE hO
  obtain ⟨Bt0, Bt1⟩ := Bt hT
  have hc4 : 2 * 2 ≤ F 0 * F 1 := Nat.mul_le_mul Bt0 Bt1
  have hc20 : F 0 * F 1 ≤ 5 * 4 := Nat.mul_le_mul B0 B1
  have ecel : (nI (F 0 * F 1) - nI 1 : Int32) = nI (F 0 * F 1 - 1) := nI_sub (by omega)
  rcases hq with rfl | rfl
  · refine Wf.gc tkX4_readsDropped [] ?_
    conv => whnf
    refine x_take (d := d + 7) tx0 (tn_b he 1) hc0.2.2.1 (fun I1 L1 hs1 hc1 => ?_)
    have hc1 : TC b n (tn b n 1 e) I1 L1 := hc1
    have tx1 := TX_sT tx0 hs1
    have nc1 := NC_sT nc0 hs1
    have pc1 := PC_sT (by decide) pc0 hs1
    have sl1 := sl0.tr (hs1.sL (q := 7))
    conv => whnf
    show Ev l X uX4_named (d + 8) true 0 0 [.ref 2, .int (nI 1)] (mk w p 7 I1 L1) _
    have hf6 : (nam b n nm 1 (tn b n 1 e)).2 < 6 := nam_6 (fun i hi => (Bs i hi).2)
    refine x_named (so := 1) (d := d + 1) (by decide) (fun i hi => (Bs i hi).1) tx1 (tn_b he 1) hc1 nc1 (fun q => ?_) (fun q => ?_)
    · rw [if_neg (fun z => z q)] at hE hO
      conv => whnf
      refine b1 (nI_m2 (by omega)) ?_
      conv => whnf
      refine ⟨(nam b n nm 1 (tn b n 1 e)).2, ix (N := 6) hf6 (by decide), ?_⟩
      conv => whnf
      refine ⟨fun z3 => ?_, fun z3 => ?_⟩
      · have z3 : I1 12 (nam b n nm 1 (tn b n 1 e)).2 = 0 := z3
        rw [show I1 12 (nam b n nm 1 (tn b n 1 e)).2 = nI (F (61 + (nam b n nm 1 (tn b n 1 e)).2)) from pc1.2.2.1 _ hf6, show (0 : Int32) = nI 0 from rfl, nI_eq (by have := BF (61 + (nam b n nm 1 (tn b n 1 e)).2); omega) (by decide)] at z3
        rw [if_neg (fun q => q z3)] at hE hO
        conv => whnf
        refine x_take (d := d + 7) tx1 (tn_b he 2) hc1.2.2.1 (fun I2 L2 hs2 hc2 => ?_)
        have hc2 : TC b n (tn b n 2 e) I2 L2 := hc2
        have tx2 := TX_sT tx1 hs2
        have nc2 := NC_sT nc1 hs2
        have pc2 := PC_sT (by decide) pc1 hs2
        have sl2 := sl1.tr (hs2.sL (q := 7))
        conv => whnf
        refine x_labelled (wd := 5020) (lo := 1) (hi := 40) (d := d + 2) (by decide) (by decide) tx2 (tn_b he 2) hc2 (by decide) (fun q I3 L3 hs3 hc3 t2 v1 v2 => ?_) (fun q I3 L3 hs3 => ?_)
        · have q : (lab b n 20 1 40 (tn b n 2 e)).1 = 0 := q
          rw [if_neg (fun z => z q)] at hE hO
          have hc3 : TC b n (tn b n 3 e) I3 L3 := hc3
          have w3 : I3 2 7 = nI (tvl b n (tn b n 3 e)) := hc3.2.2.2.1 t2
          have hu3 : tvl b n (tn b n 3 e) < 1000 := (tvl_b (tn_b he 3) t2).1
          have tx3 := TX_sT tx2 hs3
          have nc3 := NC_sT nc2 hs3
          have pc3 := PC_sT (by decide) pc2 hs3
          have sl3 := sl2.tr (hs3.sL (q := 7))
          conv => whnf
          refine b1 (by decide) ?_
          conv => whnf
          refine ⟨(nam b n nm 1 (tn b n 1 e)).2, ix (N := 6) hf6 (by decide), ?_⟩
          conv => whnf
          show Ev l X uX4_take (d + 8) true 0 0 [.ref 2] (mk w p 7 (u2 I3 12 (nam b n nm 1 (tn b n 1 e)).2 (I3 2 7)) L3) _
          rw [w3]
          have pcf := PC_drop (v := tvl b n (tn b n 3 e)) hf6 B4 B5 B6 B7 pc3
          refine x_take (d := d + 7) (TX_u (by decide) tx3) (tn_b he 4) (TC_u (by decide) hc3).2.2.1 (fun I99 L99 hs99 hc99 => ?_)
          conv => whnf
          exact ⟨Or.inr rfl, hO _ rfl I99 L99 (sl3.tr ((sL_u (by decide)).tr hs99.sL)) ⟨TX_sT (TX_u (by decide) tx3) hs99, tn_b he 4, hc99, NC_sT (NC_u (by decide) nc3) hs99, PC_sT (by decide) pcf hs99⟩⟩
        · have q : (lab b n 20 1 40 (tn b n 2 e)).1 ≠ 0 := q
          rw [if_pos q] at hE
          conv => whnf
          refine b2 (by decide) ?_
          conv => whnf
          exact ⟨Or.inl rfl, hE _ rfl _ _ ((sl2.tr (hs3.sL (q := 7))).tr sL_fl) fl_13 fl_14⟩
      · have z3 : ¬ I1 12 (nam b n nm 1 (tn b n 1 e)).2 = 0 := z3
        rw [show I1 12 (nam b n nm 1 (tn b n 1 e)).2 = nI (F (61 + (nam b n nm 1 (tn b n 1 e)).2)) from pc1.2.2.1 _ hf6, show (0 : Int32) = nI 0 from rfl, nI_eq (by have := BF (61 + (nam b n nm 1 (tn b n 1 e)).2); omega) (by decide)] at z3
        rw [if_pos z3] at hE
        conv => whnf
        refine x_fails hc1 ?_
        conv => whnf
        exact ⟨Or.inl rfl, hE (3, tst b n (tn b n 1 e)) rfl (fl I1 3 (tst b n (tn b n 1 e))) L1 (sl1.tr sL_fl) fl_13 fl_14⟩
    · rw [if_pos q] at hE
      conv => whnf
      refine b2 (fun z => z rfl) ?_
      conv => whnf
      exact ⟨Or.inl rfl, hE _ rfl _ _ (sl1.tr sL_fl) fl_13 fl_14⟩
  · refine Wf.gc tkX4_readsDropped [] ?_
    conv => whnf
    refine x_take (d := d + 7) tx0 (tn_b he 1) hc0.2.2.1 (fun I1 L1 hs1 hc1 => ?_)
    have hc1 : TC b n (tn b n 1 e) I1 L1 := hc1
    have tx1 := TX_sT tx0 hs1
    have nc1 := NC_sT nc0 hs1
    have pc1 := PC_sT (by decide) pc0 hs1
    have sl1 := sl0.tr (hs1.sL (q := 20))
    conv => whnf
    show Ev l X uX4_named (d + 8) true 0 0 [.ref 2, .int (nI 1)] (mk w p 20 I1 L1) _
    have hf6 : (nam b n nm 1 (tn b n 1 e)).2 < 6 := nam_6 (fun i hi => (Bs i hi).2)
    refine x_named (so := 1) (d := d + 1) (by decide) (fun i hi => (Bs i hi).1) tx1 (tn_b he 1) hc1 nc1 (fun q => ?_) (fun q => ?_)
    · rw [if_neg (fun z => z q)] at hE hO
      conv => whnf
      refine b1 (nI_m2 (by omega)) ?_
      conv => whnf
      refine ⟨(nam b n nm 1 (tn b n 1 e)).2, ix (N := 6) hf6 (by decide), ?_⟩
      conv => whnf
      refine ⟨fun z3 => ?_, fun z3 => ?_⟩
      · have z3 : I1 25 (nam b n nm 1 (tn b n 1 e)).2 = 0 := z3
        rw [show I1 25 (nam b n nm 1 (tn b n 1 e)).2 = nI (F (61 + (nam b n nm 1 (tn b n 1 e)).2)) from pc1.2.2.1 _ hf6, show (0 : Int32) = nI 0 from rfl, nI_eq (by have := BF (61 + (nam b n nm 1 (tn b n 1 e)).2); omega) (by decide)] at z3
        rw [if_neg (fun q => q z3)] at hE hO
        conv => whnf
        refine x_take (d := d + 7) tx1 (tn_b he 2) hc1.2.2.1 (fun I2 L2 hs2 hc2 => ?_)
        have hc2 : TC b n (tn b n 2 e) I2 L2 := hc2
        have tx2 := TX_sT tx1 hs2
        have nc2 := NC_sT nc1 hs2
        have pc2 := PC_sT (by decide) pc1 hs2
        have sl2 := sl1.tr (hs2.sL (q := 20))
        conv => whnf
        refine x_labelled (wd := 5020) (lo := 1) (hi := 40) (d := d + 2) (by decide) (by decide) tx2 (tn_b he 2) hc2 (by decide) (fun q I3 L3 hs3 hc3 t2 v1 v2 => ?_) (fun q I3 L3 hs3 => ?_)
        · have q : (lab b n 20 1 40 (tn b n 2 e)).1 = 0 := q
          rw [if_neg (fun z => z q)] at hE hO
          have hc3 : TC b n (tn b n 3 e) I3 L3 := hc3
          have w3 : I3 2 7 = nI (tvl b n (tn b n 3 e)) := hc3.2.2.2.1 t2
          have hu3 : tvl b n (tn b n 3 e) < 1000 := (tvl_b (tn_b he 3) t2).1
          have tx3 := TX_sT tx2 hs3
          have nc3 := NC_sT nc2 hs3
          have pc3 := PC_sT (by decide) pc2 hs3
          have sl3 := sl2.tr (hs3.sL (q := 20))
          conv => whnf
          refine b1 (by decide) ?_
          conv => whnf
          refine ⟨(nam b n nm 1 (tn b n 1 e)).2, ix (N := 6) hf6 (by decide), ?_⟩
          conv => whnf
          show Ev l X uX4_take (d + 8) true 0 0 [.ref 2] (mk w p 20 (u2 I3 25 (nam b n nm 1 (tn b n 1 e)).2 (I3 2 7)) L3) _
          rw [w3]
          have pcf := PC_drop (v := tvl b n (tn b n 3 e)) hf6 B4 B5 B6 B7 pc3
          refine x_take (d := d + 7) (TX_u (by decide) tx3) (tn_b he 4) (TC_u (by decide) hc3).2.2.1 (fun I99 L99 hs99 hc99 => ?_)
          conv => whnf
          exact ⟨Or.inr rfl, hO _ rfl I99 L99 (sl3.tr ((sL_u (by decide)).tr hs99.sL)) ⟨TX_sT (TX_u (by decide) tx3) hs99, tn_b he 4, hc99, NC_sT (NC_u (by decide) nc3) hs99, PC_sT (by decide) pcf hs99⟩⟩
        · have q : (lab b n 20 1 40 (tn b n 2 e)).1 ≠ 0 := q
          rw [if_pos q] at hE
          conv => whnf
          refine b2 (by decide) ?_
          conv => whnf
          exact ⟨Or.inl rfl, hE _ rfl _ _ ((sl2.tr (hs3.sL (q := 20))).tr sL_fl) fl_13 fl_14⟩
      · have z3 : ¬ I1 25 (nam b n nm 1 (tn b n 1 e)).2 = 0 := z3
        rw [show I1 25 (nam b n nm 1 (tn b n 1 e)).2 = nI (F (61 + (nam b n nm 1 (tn b n 1 e)).2)) from pc1.2.2.1 _ hf6, show (0 : Int32) = nI 0 from rfl, nI_eq (by have := BF (61 + (nam b n nm 1 (tn b n 1 e)).2); omega) (by decide)] at z3
        rw [if_pos z3] at hE
        conv => whnf
        refine x_fails hc1 ?_
        conv => whnf
        exact ⟨Or.inl rfl, hE (3, tst b n (tn b n 1 e)) rfl (fl I1 3 (tst b n (tn b n 1 e))) L1 (sl1.tr sL_fl) fl_13 fl_14⟩
    · rw [if_pos q] at hE
      conv => whnf
      refine b2 (fun z => z rfl) ?_
      conv => whnf
      exact ⟨Or.inl rfl, hE _ rfl _ _ (sl1.tr sL_fl) fl_13 fl_14⟩
end LNX
end
section
/-! the class's readsLine -/
section RLN
variable {l : Launch} {X : Nat × (Nat → Int32)} {d : Nat} {w : Nat × Nat} {p r : Nat} {I : Nat → Nat → Int32} {L : Nat → Nat → Int64} {kr : KR} {b : Nat → Nat} {n e : Nat} {nm : List Nm} {F : Nat → Nat} {W : Int32}
set_option maxHeartbeats 2000000 in
set_option maxRecDepth 20000 in
theorem x_readsLine (hq : r = 7 ∨ r = 20) (hB : Bd F W nm) (hS : SC b n r (F, W, nm, e) I L) (hE : ∀ er, ln b n F W nm e = .inl er → ∀ I' L', sL r I I' L L' → I' 2 13 = nI er.1 → I' 2 14 = nI er.2 → kr (some (.int 0)) (mk w p r I' L')) (hO : ∀ P', ln b n F W nm e = .inr P' → ∀ I' L', sL r I I' L L' → SC b n r P' I' L' → kr (some (.int 1)) (mk w p r I' L')) : Ev l X uX4_readsLine (d + 10) true 0 0 [.ref 2] (mk w p r I L) kr := by
  obtain ⟨tx, he, hc, nc, pc⟩ := id hS
  have he : e ≤ n := he
  have hc : TC b n e I L := hc
  have pc : PC r F W I := pc
  obtain ⟨⟨B0, B1, B3, B4, B5, B6, B7⟩, BF, Bp, Bn, Bs, Bt⟩ := id hB
  have er : ∀ (k : Nat) (J : Nat → Nat → Int32), J = fl I k (tst b n e) → ln b n F W nm e = .inl (k, tst b n e) → kr (some (.int 0)) (mk w p r J L) := fun k J hJ hl => hE _ hl J L (by rw [hJ]; exact sL_fl) (by rw [hJ]; exact fl_13) (by rw [hJ]; exact fl_14)
  refine Ev.of (by decide) (Nat.le_of_ble_eq_true rfl) ?_
  unfold ln at hE hO er
  rcases hq with rfl | rfl
  · refine Wf.gc tkX4_readsLine [] ?_
    conv => whnf
    refine x_beginsLine (d := d + 3) tx he hc ?_
    conv => whnf
    refine ⟨fun z => ?_, fun z => ?_⟩
    · rw [if_neg (by rw [bI_t z]; decide)] at hE hO er
      conv => whnf
      refine x_isWord (wd := 5000) (d := d + 4) tx he hc (by decide) ?_
      conv => whnf
      refine ⟨fun z2 => ?_, fun z2 => ?_⟩
      · rw [if_neg (by rw [show isW b n 0 e = false from bI_f z2]; decide)] at hE hO er
        conv => whnf
        refine ⟨fun z3 => ?_, fun z3 => ?_⟩
        · have z3 : ¬ I 7 0 = 0 := z3
          rw [show I 7 0 = nI (F 0) from pc.1.1, show (0 : Int32) = nI 0 from rfl, nI_eq (by omega) (by decide)] at z3
          rw [if_neg z3] at hE hO
          have hT : 0 < F 0 := by omega
          conv => whnf
          refine x_isWord (wd := 5001) (d := d + 4) tx he hc (by decide) ?_
          conv => whnf
          refine ⟨fun z4 => ?_, fun z4 => ?_⟩
          · rw [if_neg (by rw [show isW b n 1 e = false from bI_f z4]; decide)] at hE hO
            conv => whnf
            refine x_isWord (wd := 5002) (d := d + 4) tx he hc (by decide) ?_
            conv => whnf
            refine ⟨fun z4 => ?_, fun z4 => ?_⟩
            · rw [if_neg (by rw [show isW b n 2 e = false from bI_f z4]; decide)] at hE hO
              conv => whnf
              refine x_isWord (wd := 5003) (d := d + 4) tx he hc (by decide) ?_
              conv => whnf
              refine ⟨fun z4 => ?_, fun z4 => ?_⟩
              · rw [if_neg (by rw [show isW b n 3 e = false from bI_f z4]; decide)] at hE hO
                conv => whnf
                refine x_isWord (wd := 5004) (d := d + 4) tx he hc (by decide) ?_
                conv => whnf
                refine ⟨fun z4 => ?_, fun z4 => ?_⟩
                · rw [if_neg (by rw [show isW b n 4 e = false from bI_f z4]; decide)] at hE hO
                  conv => whnf
                  refine x_isWord (wd := 5005) (d := d + 4) tx he hc (by decide) ?_
                  conv => whnf
                  refine ⟨fun z4 => ?_, fun z4 => ?_⟩
                  · rw [if_neg (by rw [show isW b n 5 e = false from bI_f z4]; decide)] at hE hO
                    conv => whnf
                    refine x_readsDropped (d := d) (Or.inl rfl) hB hT hS (fun er he I' L' h1 h2 h3 => ?_) (fun P' he I' L' h1 h2 => ?_)
                    · conv => whnf
                      exact ⟨Or.inl rfl, hE er he I' L' h1 h2 h3⟩
                    · conv => whnf
                      exact ⟨Or.inr rfl, hO P' he I' L' h1 h2⟩
                  · rw [if_pos (show isW b n 5 e = true from bI_t z4)] at hE hO
                    conv => whnf
                    refine x_readsUnsure (d := d) (Or.inl rfl) hB hT hS (fun er he I' L' h1 h2 h3 => ?_) (fun P' he I' L' h1 h2 => ?_)
                    · conv => whnf
                      exact ⟨Or.inl rfl, hE er he I' L' h1 h2 h3⟩
                    · conv => whnf
                      exact ⟨Or.inr rfl, hO P' he I' L' h1 h2⟩
                · rw [if_pos (show isW b n 4 e = true from bI_t z4)] at hE hO
                  conv => whnf
                  refine x_readsWalker (d := d) (Or.inl rfl) hB hT hS (fun er he I' L' h1 h2 h3 => ?_) (fun P' he I' L' h1 h2 => ?_)
                  · conv => whnf
                    exact ⟨Or.inl rfl, hE er he I' L' h1 h2 h3⟩
                  · conv => whnf
                    exact ⟨Or.inr rfl, hO P' he I' L' h1 h2⟩
              · rw [if_pos (show isW b n 3 e = true from bI_t z4)] at hE hO
                conv => whnf
                refine x_readsCanon (d := d) (Or.inl rfl) hB hT hS (fun er he I' L' h1 h2 h3 => ?_) (fun P' he I' L' h1 h2 => ?_)
                · conv => whnf
                  exact ⟨Or.inl rfl, hE er he I' L' h1 h2 h3⟩
                · conv => whnf
                  exact ⟨Or.inr rfl, hO P' he I' L' h1 h2⟩
            · rw [if_pos (show isW b n 2 e = true from bI_t z4)] at hE hO
              conv => whnf
              refine x_readsFace (d := d) (Or.inl rfl) hB hT hS (fun er he I' L' h1 h2 h3 => ?_) (fun P' he I' L' h1 h2 => ?_)
              · conv => whnf
                exact ⟨Or.inl rfl, hE er he I' L' h1 h2 h3⟩
              · conv => whnf
                exact ⟨Or.inr rfl, hO P' he I' L' h1 h2⟩
          · rw [if_pos (show isW b n 1 e = true from bI_t z4)] at hE hO
            conv => whnf
            refine x_readsWall (d := d + 1) (Or.inl rfl) hB hT hS (fun er he I' L' h1 h2 h3 => ?_) (fun P' he I' L' h1 h2 => ?_)
            · conv => whnf
              exact ⟨Or.inl rfl, hE er he I' L' h1 h2 h3⟩
            · conv => whnf
              exact ⟨Or.inr rfl, hO P' he I' L' h1 h2⟩
        · have z3 : I 7 0 = 0 := z3
          rw [show I 7 0 = nI (F 0) from pc.1.1, show (0 : Int32) = nI 0 from rfl, nI_eq (by omega) (by decide)] at z3
          rw [if_pos z3] at er
          conv => whnf
          refine x_fails hc ?_
          conv => whnf
          exact ⟨Or.inl rfl, er 6 _ rfl rfl⟩
      · rw [if_pos (show isW b n 0 e = true from bI_t z2)] at hE hO er
        conv => whnf
        refine ⟨fun z3 => ?_, fun z3 => ?_⟩
        · have z3 : I 7 0 ≤ 0 := z3
          rw [show I 7 0 = nI (F 0) from pc.1.1, show (0 : Int32) = nI 0 from rfl, nI_leI (by omega) (by decide)] at z3
          rw [if_neg (by omega)] at hE hO
          conv => whnf
          refine x_readsClose (d := d + 1) (Or.inl rfl) hB hS (fun er he I' L' h1 h2 h3 => ?_) (fun P' he I' L' h1 h2 => ?_)
          · conv => whnf
            exact ⟨Or.inl rfl, hE er he I' L' h1 h2 h3⟩
          · conv => whnf
            exact ⟨Or.inr rfl, hO P' he I' L' h1 h2⟩
        · have z3 : ¬ I 7 0 ≤ 0 := z3
          rw [show I 7 0 = nI (F 0) from pc.1.1, show (0 : Int32) = nI 0 from rfl, nI_leI (by omega) (by decide)] at z3
          rw [if_pos (by omega)] at er
          conv => whnf
          refine x_fails hc ?_
          conv => whnf
          exact ⟨Or.inl rfl, er 3 _ rfl rfl⟩
    · rw [if_pos (show bgl b n e = false from bI_f z)] at er
      conv => whnf
      refine x_fails hc ?_
      conv => whnf
      exact ⟨Or.inl rfl, er 1 _ rfl rfl⟩
  · refine Wf.gc tkX4_readsLine [] ?_
    conv => whnf
    refine x_beginsLine (d := d + 3) tx he hc ?_
    conv => whnf
    refine ⟨fun z => ?_, fun z => ?_⟩
    · rw [if_neg (by rw [bI_t z]; decide)] at hE hO er
      conv => whnf
      refine x_isWord (wd := 5000) (d := d + 4) tx he hc (by decide) ?_
      conv => whnf
      refine ⟨fun z2 => ?_, fun z2 => ?_⟩
      · rw [if_neg (by rw [show isW b n 0 e = false from bI_f z2]; decide)] at hE hO er
        conv => whnf
        refine ⟨fun z3 => ?_, fun z3 => ?_⟩
        · have z3 : ¬ I 20 0 = 0 := z3
          rw [show I 20 0 = nI (F 0) from pc.1.1, show (0 : Int32) = nI 0 from rfl, nI_eq (by omega) (by decide)] at z3
          rw [if_neg z3] at hE hO
          have hT : 0 < F 0 := by omega
          conv => whnf
          refine x_isWord (wd := 5001) (d := d + 4) tx he hc (by decide) ?_
          conv => whnf
          refine ⟨fun z4 => ?_, fun z4 => ?_⟩
          · rw [if_neg (by rw [show isW b n 1 e = false from bI_f z4]; decide)] at hE hO
            conv => whnf
            refine x_isWord (wd := 5002) (d := d + 4) tx he hc (by decide) ?_
            conv => whnf
            refine ⟨fun z4 => ?_, fun z4 => ?_⟩
            · rw [if_neg (by rw [show isW b n 2 e = false from bI_f z4]; decide)] at hE hO
              conv => whnf
              refine x_isWord (wd := 5003) (d := d + 4) tx he hc (by decide) ?_
              conv => whnf
              refine ⟨fun z4 => ?_, fun z4 => ?_⟩
              · rw [if_neg (by rw [show isW b n 3 e = false from bI_f z4]; decide)] at hE hO
                conv => whnf
                refine x_isWord (wd := 5004) (d := d + 4) tx he hc (by decide) ?_
                conv => whnf
                refine ⟨fun z4 => ?_, fun z4 => ?_⟩
                · rw [if_neg (by rw [show isW b n 4 e = false from bI_f z4]; decide)] at hE hO
                  conv => whnf
                  refine x_isWord (wd := 5005) (d := d + 4) tx he hc (by decide) ?_
                  conv => whnf
                  refine ⟨fun z4 => ?_, fun z4 => ?_⟩
                  · rw [if_neg (by rw [show isW b n 5 e = false from bI_f z4]; decide)] at hE hO
                    conv => whnf
                    refine x_readsDropped (d := d) (Or.inr rfl) hB hT hS (fun er he I' L' h1 h2 h3 => ?_) (fun P' he I' L' h1 h2 => ?_)
                    · conv => whnf
                      exact ⟨Or.inl rfl, hE er he I' L' h1 h2 h3⟩
                    · conv => whnf
                      exact ⟨Or.inr rfl, hO P' he I' L' h1 h2⟩
                  · rw [if_pos (show isW b n 5 e = true from bI_t z4)] at hE hO
                    conv => whnf
                    refine x_readsUnsure (d := d) (Or.inr rfl) hB hT hS (fun er he I' L' h1 h2 h3 => ?_) (fun P' he I' L' h1 h2 => ?_)
                    · conv => whnf
                      exact ⟨Or.inl rfl, hE er he I' L' h1 h2 h3⟩
                    · conv => whnf
                      exact ⟨Or.inr rfl, hO P' he I' L' h1 h2⟩
                · rw [if_pos (show isW b n 4 e = true from bI_t z4)] at hE hO
                  conv => whnf
                  refine x_readsWalker (d := d) (Or.inr rfl) hB hT hS (fun er he I' L' h1 h2 h3 => ?_) (fun P' he I' L' h1 h2 => ?_)
                  · conv => whnf
                    exact ⟨Or.inl rfl, hE er he I' L' h1 h2 h3⟩
                  · conv => whnf
                    exact ⟨Or.inr rfl, hO P' he I' L' h1 h2⟩
              · rw [if_pos (show isW b n 3 e = true from bI_t z4)] at hE hO
                conv => whnf
                refine x_readsCanon (d := d) (Or.inr rfl) hB hT hS (fun er he I' L' h1 h2 h3 => ?_) (fun P' he I' L' h1 h2 => ?_)
                · conv => whnf
                  exact ⟨Or.inl rfl, hE er he I' L' h1 h2 h3⟩
                · conv => whnf
                  exact ⟨Or.inr rfl, hO P' he I' L' h1 h2⟩
            · rw [if_pos (show isW b n 2 e = true from bI_t z4)] at hE hO
              conv => whnf
              refine x_readsFace (d := d) (Or.inr rfl) hB hT hS (fun er he I' L' h1 h2 h3 => ?_) (fun P' he I' L' h1 h2 => ?_)
              · conv => whnf
                exact ⟨Or.inl rfl, hE er he I' L' h1 h2 h3⟩
              · conv => whnf
                exact ⟨Or.inr rfl, hO P' he I' L' h1 h2⟩
          · rw [if_pos (show isW b n 1 e = true from bI_t z4)] at hE hO
            conv => whnf
            refine x_readsWall (d := d + 1) (Or.inr rfl) hB hT hS (fun er he I' L' h1 h2 h3 => ?_) (fun P' he I' L' h1 h2 => ?_)
            · conv => whnf
              exact ⟨Or.inl rfl, hE er he I' L' h1 h2 h3⟩
            · conv => whnf
              exact ⟨Or.inr rfl, hO P' he I' L' h1 h2⟩
        · have z3 : I 20 0 = 0 := z3
          rw [show I 20 0 = nI (F 0) from pc.1.1, show (0 : Int32) = nI 0 from rfl, nI_eq (by omega) (by decide)] at z3
          rw [if_pos z3] at er
          conv => whnf
          refine x_fails hc ?_
          conv => whnf
          exact ⟨Or.inl rfl, er 6 _ rfl rfl⟩
      · rw [if_pos (show isW b n 0 e = true from bI_t z2)] at hE hO er
        conv => whnf
        refine ⟨fun z3 => ?_, fun z3 => ?_⟩
        · have z3 : I 20 0 ≤ 0 := z3
          rw [show I 20 0 = nI (F 0) from pc.1.1, show (0 : Int32) = nI 0 from rfl, nI_leI (by omega) (by decide)] at z3
          rw [if_neg (by omega)] at hE hO
          conv => whnf
          refine x_readsClose (d := d + 1) (Or.inr rfl) hB hS (fun er he I' L' h1 h2 h3 => ?_) (fun P' he I' L' h1 h2 => ?_)
          · conv => whnf
            exact ⟨Or.inl rfl, hE er he I' L' h1 h2 h3⟩
          · conv => whnf
            exact ⟨Or.inr rfl, hO P' he I' L' h1 h2⟩
        · have z3 : ¬ I 20 0 ≤ 0 := z3
          rw [show I 20 0 = nI (F 0) from pc.1.1, show (0 : Int32) = nI 0 from rfl, nI_leI (by omega) (by decide)] at z3
          rw [if_pos (by omega)] at er
          conv => whnf
          refine x_fails hc ?_
          conv => whnf
          exact ⟨Or.inl rfl, er 3 _ rfl rfl⟩
    · rw [if_pos (show bgl b n e = false from bI_f z)] at er
      conv => whnf
      refine x_fails hc ?_
      conv => whnf
      exact ⟨Or.inl rfl, er 1 _ rfl rfl⟩
end RLN
end
section
/-! walls counted; bounds behind a line -/
section POP
noncomputable def pcT (x : Nat) : Nat → Nat
  | 0 => 0
  | j + 1 => pcT x j + (x.testBit j).toNat
theorem pcT_cg {x y : Nat} : ∀ {K : Nat}, (∀ j, j < K → x.testBit j = y.testBit j) → pcT x K = pcT y K
  | 0, _ => rfl
  | K + 1, h => by
    show pcT x K + (x.testBit K).toNat = pcT y K + (y.testBit K).toNat
    rw [pcT_cg (fun j hj => h j (by omega)), h K (by omega)]
theorem pcT_or {x k : Nat} (hb : x.testBit k = false) : ∀ {K : Nat}, pcT (x ||| 2 ^ k) K = pcT x K + (if k < K then 1 else 0)
  | 0 => rfl
  | K + 1 => by
    show pcT (x ||| 2 ^ k) K + ((x ||| 2 ^ k).testBit K).toNat = pcT x K + (x.testBit K).toNat + _
    rw [pcT_or hb, Nat.testBit_or, Nat.testBit_two_pow]
    by_cases h : k = K
    · subst h
      rw [hb, if_neg (Nat.lt_irrefl _), if_pos (Nat.lt_succ_self _), decide_eq_true rfl]
      rfl
    · rw [decide_eq_false h, Bool.or_false]
      by_cases h2 : k < K
      · rw [if_pos h2, if_pos (by omega)]; omega
      · rw [if_neg h2, if_neg (by omega)]; omega
/-- bits counted as bitCount does, in plain numbers -/
noncomputable def pQ1 (x : Nat) : Nat := x - ((x >>> 1) &&& 1431655765)
noncomputable def pQ2 (x : Nat) : Nat := (x &&& 858993459) + ((x >>> 2) &&& 858993459)
noncomputable def pQ3 (x : Nat) : Nat := (x + (x >>> 4)) &&& 252645135
noncomputable def pQ4 (x : Nat) : Nat := x + (x >>> 8)
noncomputable def pQ5 (x : Nat) : Nat := x + (x >>> 16)
noncomputable def pQ (x : Nat) : Nat := pQ5 (pQ4 (pQ3 (pQ2 (pQ1 x)))) &&& 63
theorem nI_andq {x y : Nat} : nI x &&& nI y = nI (x &&& y) := by
  apply Int32.toBitVec_inj.mp
  apply BitVec.eq_of_toNat_eq
  show (BitVec.ofNat 32 x &&& BitVec.ofNat 32 y).toNat = (BitVec.ofNat 32 (x &&& y)).toNat
  rw [BitVec.toNat_and, BitVec.toNat_ofNat, BitVec.toNat_ofNat, BitVec.toNat_ofNat, Nat.and_mod_two_pow]
theorem ush_q {x k : Nat} {y : Int32} (hx : x < 2 ^ 32) (hk : (y.toUInt32 &&& Int32.toUInt32 31).toBitVec.toNat % 32 = k) : ush (nI x) y = nI (x >>> k) := by
  unfold ush
  apply Int32.toBitVec_inj.mp
  apply BitVec.eq_of_toNat_eq
  show (BitVec.ofNat 32 x).toNat >>> ((y.toUInt32 &&& Int32.toUInt32 31).toBitVec.toNat % 32) = (BitVec.ofNat 32 (x >>> k)).toNat
  have := Nat.shiftRight_le x k
  rw [hk, BitVec.toNat_ofNat, BitVec.toNat_ofNat, Nat.mod_eq_of_lt hx, Nat.mod_eq_of_lt (by omega)]
theorem pcI_q {x : Nat} (hx : x < 2 ^ 20) : pcI (nI x) = nI (pQ x) := by
  have e1 : pc1 (nI x) = nI (pQ1 x) := by
    unfold pc1 pQ1
    have a := Nat.and_le_left (n := x >>> 1) (m := 1431655765)
    have b := Nat.shiftRight_le x 1
    rw [ush_q (k := 1) (by omega) (by decide), show (1431655765 : Int32) = nI 1431655765 from rfl, nI_andq, nI_sub (by omega)]
  have b1 : pQ1 x < 2 ^ 20 := Nat.lt_of_le_of_lt (Nat.sub_le _ _) hx
  have e2 : ∀ y, y < 2 ^ 20 → pc2 (nI y) = nI (pQ2 y) ∧ pQ2 y < 2 ^ 21 := by
    intro y hy
    have a := Nat.and_le_left (n := y) (m := 858993459)
    have b := Nat.and_le_left (n := y >>> 2) (m := 858993459)
    have c := Nat.shiftRight_le y 2
    unfold pc2 pQ2
    refine ⟨?_, by omega⟩
    rw [ush_q (k := 2) (by omega) (by decide), show (858993459 : Int32) = nI 858993459 from rfl, nI_andq, nI_andq, nI_add]
  have e3 : ∀ y, y < 2 ^ 21 → pc3 (nI y) = nI (pQ3 y) ∧ pQ3 y < 2 ^ 22 := by
    intro y hy
    have c := Nat.shiftRight_le y 4
    have a := Nat.and_le_left (n := y + (y >>> 4)) (m := 252645135)
    unfold pc3 pQ3
    refine ⟨?_, by omega⟩
    rw [ush_q (k := 4) (by omega) (by decide), nI_add, show (252645135 : Int32) = nI 252645135 from rfl, nI_andq]
  have e4 : ∀ y, y < 2 ^ 22 → pc4 (nI y) = nI (pQ4 y) ∧ pQ4 y < 2 ^ 23 := by
    intro y hy
    have c := Nat.shiftRight_le y 8
    unfold pc4 pQ4
    refine ⟨?_, by omega⟩
    rw [ush_q (k := 8) (by omega) (by decide), nI_add]
  have e5 : ∀ y, y < 2 ^ 23 → pc5 (nI y) = nI (pQ5 y) := by
    intro y hy
    unfold pc5 pQ5
    rw [ush_q (k := 16) (by omega) (by decide), nI_add]
  unfold pcI pQ
  rw [e1, (e2 _ b1).1, (e3 _ (e2 _ b1).2).1, (e4 _ (e3 _ (e2 _ b1).2).2).1, e5 _ (e4 _ (e3 _ (e2 _ b1).2).2).2, show (63 : Int32) = nI 63 from rfl, nI_andq]
/-- all numbers of at most m bits below 2 ^ k are counted rightly -/
noncomputable def chk5 : Nat → Nat → Nat → Nat → Bool
  | 0, _, acc, c => Nat.beq (pQ acc) c
  | k + 1, 0, acc, c => chk5 k 0 acc c
  | k + 1, m + 1, acc, c => chk5 k (m + 1) acc c && chk5 k m (acc + 2 ^ k) (c + 1)
theorem chk5_ok : ∀ (k m acc c : Nat), chk5 k m acc c = true → ∀ y, y < 2 ^ k → pcT y k ≤ m → pQ (acc + y) = c + pcT y k
  | 0, m, acc, c, h, y, hy, _ => by
    have e : y = 0 := by omega
    subst e
    exact Nat.eq_of_beq_eq_true h
  | k + 1, m, acc, c, h, y, hy, hm => by
    rw [Nat.pow_succ] at hy
    rcases Nat.lt_or_ge y (2 ^ k) with z | z
    · have e1 : pcT y (k + 1) = pcT y k := by
        show pcT y k + (y.testBit k).toNat = _
        rw [Nat.testBit_lt_two_pow z]
        rfl
      rw [e1] at hm ⊢
      cases m with
      | zero => exact chk5_ok k 0 acc c h y z hm
      | succ m => exact chk5_ok k (m + 1) acc c (andT h).1 y z hm
    · obtain ⟨x, rfl⟩ : ∃ x, y = 2 ^ k + x := ⟨y - 2 ^ k, by omega⟩
      have hx : x < 2 ^ k := by omega
      have e1 : pcT (2 ^ k + x) (k + 1) = pcT x k + 1 := by
        show pcT (2 ^ k + x) k + ((2 ^ k + x).testBit k).toNat = _
        rw [Nat.testBit_two_pow_add_eq, Nat.testBit_lt_two_pow hx, pcT_cg (fun j hj => Nat.testBit_two_pow_add_gt hj x)]
        rfl
      rw [e1] at hm ⊢
      cases m with
      | zero => omega
      | succ m =>
        have := chk5_ok k m (acc + 2 ^ k) (c + 1) (andT h).2 x hx (by omega)
        rw [Nat.add_assoc] at this
        rw [this]
        omega
set_option maxRecDepth 20000 in
theorem chk5_20 : chk5 20 5 0 0 = true := by decide +kernel
theorem pc_20 {x : Nat} (hx : x < 2 ^ 20) (h5 : pcT x 20 ≤ 5) : pcI (nI x) = nI (pcT x 20) := by
  have := chk5_ok 20 5 0 0 chk5_20 x hx h5
  rw [Nat.zero_add, Nat.zero_add] at this
  rw [pcI_q hx, this]
/-- the walls are a set of so many cells -/
noncomputable def BW (F : Nat → Nat) (W : Int32) : Prop := ∃ x, x < 2 ^ 20 ∧ W = nI x ∧ pcT x 20 = F 3
theorem sh31 : ∀ k, k < 32 → ((nI k &&& 31).toBitVec.smod 32).toNat = k := by decide +kernel
theorem isWl_bit {x k : Nat} (hx : x < 2 ^ 20) (hk : k < 20) : isWl (nI x) k = x.testBit k := by
  unfold isWl
  rw [pk_shrN (by omega) _ k (sh31 k (by omega)), show (1 : Int32) = nI 1 from rfl, pk_andN (n := x / 2 ^ k) (by have := Nat.div_le_self x (2 ^ k); omega) (m := nI 1) 1 rfl, show (0 : Int32) = nI 0 from rfl, Nat.testBit_eq_decide_div_mod_eq]
  have h2 : x / 2 ^ k % 2 ^ 1 < 2 := Nat.mod_lt _ (by decide)
  have e : (2 : Nat) ^ 1 = 2 := rfl
  rw [e] at h2 ⊢
  by_cases h : x / 2 ^ k % 2 = 1
  · rw [h, decide_eq_true rfl]
    decide
  · have h0 : x / 2 ^ k % 2 = 0 := by omega
    rw [h0]
    decide
theorem nI_or {x y : Nat} : nI x ||| nI y = nI (x ||| y) := by
  apply Int32.toBitVec_inj.mp
  apply BitVec.eq_of_toNat_eq
  show (BitVec.ofNat 32 x ||| BitVec.ofNat 32 y).toNat = (BitVec.ofNat 32 (x ||| y)).toNat
  rw [BitVec.toNat_or, BitVec.toNat_ofNat, BitVec.toNat_ofNat, BitVec.toNat_ofNat, Nat.or_mod_two_pow]
theorem wall_or {x k : Nat} (hk : k < 20) : nI x ||| ((1 : Int32) <<< (nI k &&& 31)) = nI (x ||| 2 ^ k) := by
  have h2 : 2 ^ k ≤ 2 ^ 19 := Nat.pow_le_pow_right (by decide) (by omega)
  rw [show (1 : Int32) = nI 1 from rfl, pk_shlN (n := 1) _ k (sh31 k (by omega)) (by omega), Nat.one_mul, nI_or]
theorem BW_add {F : Nat → Nat} {W : Int32} {k : Nat} (hk : k < 20) (h : BW F W) (hw : isWl W k = false) : BW (uF F 3 (F 3 + 1)) (W ||| ((1 : Int32) <<< (nI k &&& 31))) := by
  obtain ⟨x, h1, rfl, h3⟩ := h
  rw [isWl_bit h1 hk] at hw
  refine ⟨x ||| 2 ^ k, Nat.or_lt_two_pow h1 (Nat.pow_lt_pow_right (by decide) hk), wall_or hk, ?_⟩
  rw [pcT_or hw, if_pos hk, h3, uF_s]
end POP
section BDL
variable {b : Nat → Nat} {n e : Nat} {nm : List Nm} {F : Nat → Nat} {W : Int32}
/-- all bounds -/
noncomputable def B2 (P : Ps) : Prop := Bd P.1 P.2.1 P.2.2.1 ∧ BW P.1 P.2.1
theorem Bp_of (h : BW F W) (h3 : F 3 ≤ 5) : pcI W = nI (F 3) := by
  obtain ⟨x, h1, rfl, h4⟩ := h
  rw [pc_20 h1 (by omega), h4]
theorem tn_le (he : e ≤ n) : ∀ k, tn b n k e ≤ tn b n (k + 1) e := fun k => by
  have h1 := tn_b (b := b) he k
  have h2 := (tst_b (b := b) h1).1
  have h3 := (tsp_b (b := b) h1).1
  show tn b n k e ≤ tsp b n (tn b n k e)
  omega
theorem tn_ge (he : e ≤ n) : ∀ k, 1 ≤ k → tn b n 1 e ≤ tn b n k e
  | 0, h => by omega
  | 1, _ => Nat.le_refl _
  | k + 2, _ => Nat.le_trans (tn_ge he (k + 1) (by omega)) (tn_le he (k + 1))
theorem isW_1 {i : Nat} (h : isW b n i e = true) : tso b n e = 1 := Nat.eq_of_beq_eq_true (andT h).1
theorem bgl_1 (h : bgl b n e = true) : tso b n e = 1 := by
  unfold bgl at h
  rcases Bool.or_eq_true_iff.mp h with z | h
  · exact isW_1 z
  rcases Bool.or_eq_true_iff.mp h with z | h
  · exact isW_1 z
  rcases Bool.or_eq_true_iff.mp h with z | h
  · exact isW_1 z
  rcases Bool.or_eq_true_iff.mp h with z | h
  · exact isW_1 z
  rcases Bool.or_eq_true_iff.mp h with z | h
  · exact isW_1 z
  rcases Bool.or_eq_true_iff.mp h with z | h
  · exact isW_1 z
  · exact isW_1 h
/-- a line goes on behind its own word -/
theorem ln_gt (he : e ≤ n) (h : bgl b n e = true) (k : Nat) (hk : 1 ≤ k) : e < tn b n k e := by
  have h1 : e < tn b n 1 e := tsp_gt he (by rw [bgl_1 h]; decide)
  exact Nat.lt_of_lt_of_le h1 (tn_ge he k hk)
theorem lab_v {i lo hi : Nat} (h : ¬ (lab b n i lo hi e).1 ≠ 0) : lo ≤ tvl b n (tsp b n e) ∧ tvl b n (tsp b n e) ≤ hi := by
  have h : (lab b n i lo hi e).1 = 0 := Decidable.not_not.mp h
  unfold lab at h
  split at h
  · exact bnd_v h
  · cases h
theorem uF_lt {k v : Nat} (h : ∀ j, F j < 1000) (hv : v < 1000) : ∀ j, uF F k v j < 1000 := fun j => by
  unfold uF
  split
  · exact hv
  · exact h j
end BDL
end
