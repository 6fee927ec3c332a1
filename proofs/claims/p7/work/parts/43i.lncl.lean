/-! the class's lines -/
section LNC
variable {l : Launch} {X : Nat × (Nat → Int32)} {d : Nat} {w : Nat × Nat} {p r : Nat} {I : Nat → Nat → Int32} {L : Nat → Nat → Int64} {kr : KR} {b : Nat → Nat} {n e : Nat} {nm : List Nm} {F : Nat → Nat} {W : Int32}
/-- bounds of what was told -/
def Bd (F : Nat → Nat) (W : Int32) (nm : List Nm) : Prop := (F 0 ≤ 5 ∧ F 1 ≤ 4 ∧ F 3 ≤ 5 ∧ F 4 ≤ 6 ∧ F 5 ≤ 5 ∧ F 6 ≤ 4 ∧ F 7 ≤ 4) ∧ (∀ k, F k < 1000) ∧ pcI W = nI (F 3) ∧ nm.length = F 4 + F 5 + F 6 ∧ (∀ i, i < nm.length → (nmD nm i).2.2.1 < 10 ∧ (nmD nm i).2.2.2 < 6) ∧ (0 < F 0 → 2 ≤ F 0 ∧ 2 ≤ F 1)
theorem TX_u {a i : Nat} {v : Int32} (ha : 7 ≤ a) (h : TX b n I) : TX b n (u2 I a i v) := ⟨h.1, by rw [u2_o (by omega)]; exact h.2.1, fun j hj => ⟨(h.2.2 j hj).1, by rw [u2_o (by omega)]; exact (h.2.2 j hj).2⟩⟩
theorem TC_u {a i : Nat} {v : Int32} (ha : 7 ≤ a) (h : TC b n e I L) : TC b n e (u2 I a i v) L := ⟨by rw [u2_o (by omega)]; exact h.1, by rw [u2_o (by omega)]; exact h.2.1, by rw [u2_o (by omega)]; exact h.2.2.1, fun z => by rw [u2_o (by omega)]; exact h.2.2.2.1 z, h.2.2.2.2⟩
theorem NC_u {a i : Nat} {v : Int32} (ha : 7 ≤ a) (h : NC b nm I L) : NC b nm (u2 I a i v) L := ⟨⟨by rw [u2_o (by omega)]; exact h.1.1, by rw [u2_o (by omega)]; exact h.1.2⟩, h.2.1, fun j hj => by
  obtain ⟨h1, h2, h3, h4⟩ := h.2.2 j hj
  exact ⟨h1, h2, by rw [u2_o (by omega)]; exact h3, by rw [u2_o (by omega)]; exact h4⟩⟩
theorem sL_u {q a i : Nat} {v : Int32} (ha : q ≤ a ∧ a ≤ q + 12) : sL q I (u2 I a i v) L L := ⟨fun c j _ _ _ z => u2_o (by omega), fun _ _ _ _ => rfl⟩
theorem uFx {x y z v j : Nat} (h : j ≠ 0 ∧ j ≠ 1 ∧ j ≠ 2 ∧ j ≠ 9) : uF (uF (uF (uF F 0 x) 1 y) 2 z) 9 v j = F j := by
  rw [uF_o h.2.2.2, uF_o h.2.2.1, uF_o h.2.1, uF_o h.1]
set_option maxHeartbeats 2000000 in
set_option maxRecDepth 20000 in
theorem x_readsClose (hq : r = 7 ∨ r = 20) (hB : Bd F W nm) (hS : SC b n r (F, W, nm, e) I L) (hE : ∀ er, lnClose b n F W nm e = .inl er → ∀ I' L', sL r I I' L L' → I' 2 13 = nI er.1 → I' 2 14 = nI er.2 → kr (some (.int 0)) (mk w p r I' L')) (hO : ∀ P', lnClose b n F W nm e = .inr P' → ∀ I' L', sL r I I' L L' → SC b n r P' I' L' → kr (some (.int 1)) (mk w p r I' L')) : Ev l X uX4_readsClose (d + 8) true 0 0 [.ref 2] (mk w p r I L) kr := by
  obtain ⟨tx0, he, hc0, nc0, pc0⟩ := hS
  have he : e ≤ n := he
  have hc0 : TC b n (tn b n 0 e) I L := hc0
  have nc0 : NC b nm I L := nc0
  have sl0 : sL r I I L L := sL.rf
  obtain ⟨⟨B0, B1, B3, B4, B5, B6, B7⟩, BF, Bp, Bn, Bs, Bt⟩ := hB
  refine Ev.of (by decide) (Nat.le_of_ble_eq_true rfl) ?_
  unfold lnClose at hE hO
  rcases hq with rfl | rfl
  · refine Wf.gc tkX4_readsClose [] ?_
    conv => whnf
    refine x_take (d := d + 6) tx0 (tn_b he 1) hc0.2.2.1 (fun I1 L1 hs1 hc1 => ?_)
    have hc1 : TC b n (tn b n 1 e) I1 L1 := hc1
    have tx1 := TX_sT tx0 hs1
    have nc1 := NC_sT nc0 hs1
    have pc1 := PC_sT (by decide) pc0 hs1
    have sl1 := sl0.tr (hs1.sL (q := 7))
    conv => whnf
    refine x_labelled (wd := 5007) (lo := 2) (hi := 5) (d := d + 1) (by decide) (by decide) tx1 (tn_b he 1) hc1 (by decide) (fun q I2 L2 hs2 hc2 t2 v1 v2 => ?_) (fun q I2 L2 hs2 => ?_)
    · have q : (lab b n 7 2 5 (tn b n 1 e)).1 = 0 := q
      rw [if_neg (fun z => z q)] at hE hO
      have hc2 : TC b n (tn b n 2 e) I2 L2 := hc2
      have w2 : I2 2 7 = nI (tvl b n (tn b n 2 e)) := hc2.2.2.2.1 t2
      have hu2 : tvl b n (tn b n 2 e) < 1000 := (tvl_b (tn_b he 2) t2).1
      have tx2 := TX_sT tx1 hs2
      have nc2 := NC_sT nc1 hs2
      have pc2 := PC_sT (by decide) pc1 hs2
      have sl2 := sl1.tr (hs2.sL (q := 7))
      conv => whnf
      refine b1 (by decide) ?_
      conv => whnf
      refine x_take (d := d + 6) tx2 (tn_b he 3) hc2.2.2.1 (fun I3 L3 hs3 hc3 => ?_)
      have hc3 : TC b n (tn b n 3 e) I3 L3 := hc3
      have tx3 := TX_sT tx2 hs3
      have nc3 := NC_sT nc2 hs3
      have pc3 := PC_sT (by decide) pc2 hs3
      have sl3 := sl2.tr (hs3.sL (q := 7))
      conv => whnf
      refine x_labelled (wd := 5008) (lo := 2) (hi := 4) (d := d + 1) (by decide) (by decide) tx3 (tn_b he 3) hc3 (by decide) (fun q I4 L4 hs4 hc4 t2 v1 v2 => ?_) (fun q I4 L4 hs4 => ?_)
      · have q : (lab b n 8 2 4 (tn b n 3 e)).1 = 0 := q
        rw [if_neg (fun z => z q)] at hE hO
        have hc4 : TC b n (tn b n 4 e) I4 L4 := hc4
        have w4 : I4 2 7 = nI (tvl b n (tn b n 4 e)) := hc4.2.2.2.1 t2
        have hu4 : tvl b n (tn b n 4 e) < 1000 := (tvl_b (tn_b he 4) t2).1
        have tx4 := TX_sT tx3 hs4
        have nc4 := NC_sT nc3 hs4
        have pc4 := PC_sT (by decide) pc3 hs4
        have sl4 := sl3.tr (hs4.sL (q := 7))
        conv => whnf
        refine b1 (by decide) ?_
        conv => whnf
        refine x_take (d := d + 6) tx4 (tn_b he 5) hc4.2.2.1 (fun I5 L5 hs5 hc5 => ?_)
        have hc5 : TC b n (tn b n 5 e) I5 L5 := hc5
        have tx5 := TX_sT tx4 hs5
        have nc5 := NC_sT nc4 hs5
        have pc5 := PC_sT (by decide) pc4 hs5
        have sl5 := sl4.tr (hs5.sL (q := 7))
        conv => whnf
        refine x_labelled (wd := 5009) (lo := 0) (hi := 100) (d := d + 1) (by decide) (by decide) tx5 (tn_b he 5) hc5 (by decide) (fun q I6 L6 hs6 hc6 t2 v1 v2 => ?_) (fun q I6 L6 hs6 => ?_)
        · have q : (lab b n 9 0 100 (tn b n 5 e)).1 = 0 := q
          rw [if_neg (fun z => z q)] at hE hO
          have hc6 : TC b n (tn b n 6 e) I6 L6 := hc6
          have w6 : I6 2 7 = nI (tvl b n (tn b n 6 e)) := hc6.2.2.2.1 t2
          have hu6 : tvl b n (tn b n 6 e) < 1000 := (tvl_b (tn_b he 6) t2).1
          have tx6 := TX_sT tx5 hs6
          have nc6 := NC_sT nc5 hs6
          have pc6 := PC_sT (by decide) pc5 hs6
          have sl6 := sl5.tr (hs6.sL (q := 7))
          conv => whnf
          refine b1 (by decide) ?_
          conv => whnf
          have hp1 : I6 2 7 = nI (tvl b n (tn b n 6 e)) := w6
          show Ev l X uX4_take (d + 7) true 0 0 [.ref 2] (mk w p 7 (u2 (u2 (u2 I6 7 0 (I2 2 7)) 7 1 (I4 2 7)) 7 2 (I6 2 7)) L6) _
          rw [w2, w4, w6]
          refine x_take (d := d + 6) (TX_u (by decide) (TX_u (by decide) (TX_u (by decide) tx6))) (tn_b he 7) (TC_u (by decide) (TC_u (by decide) (TC_u (by decide) hc6))).2.2.1 (fun I9 L9 hs9 hc9 => ?_)
          conv => whnf
          refine ⟨Or.inr rfl, hO _ rfl I9 L9 (sl6.tr ((sL_u (by decide)).tr ((sL_u (by decide)).tr ((sL_u (by decide)).tr hs9.sL)))) ⟨TX_sT (TX_u (by decide) (TX_u (by decide) (TX_u (by decide) tx6))) hs9, tn_b he 7, hc9, NC_sT (NC_u (by decide) (NC_u (by decide) (NC_u (by decide) nc6))) hs9, PC_sT (by decide) ?_ hs9⟩⟩
          obtain ⟨⟨a0, a1, a2, a3, a4, a5, a6, a7⟩, b1, b2, b3, b4, b5⟩ := pc6
          refine ⟨⟨?_, ?_, ?_, ?_, ?_, ?_, ?_, ?_⟩, fun f hf => ?_, fun f hf => ?_, fun f hf => ?_, fun f hf => ?_, fun f hf => ?_⟩
          · exact rfl
          · exact rfl
          · exact rfl
          · exact a3
          · exact a4
          · exact a5
          · exact a6
          · exact a7
          · have hf : f < F 4 := hf
            rw [u2_o (by omega), u2_o (by omega), u2_o (by omega), u2_o (by omega), u2_o (by omega), u2_o (by omega), u2_o (by omega), u2_o (by omega), u2_o (by omega), u2_o (by omega), u2_o (by omega), u2_o (by omega)]
            show _ = nI (uF (uF (uF (uF F 0 _) 1 _) 2 _) 9 1 _) ∧ _
            simp only [uFx (show 11 + 4 * f ≠ 0 ∧ 11 + 4 * f ≠ 1 ∧ 11 + 4 * f ≠ 2 ∧ 11 + 4 * f ≠ 9 by omega), uFx (show 12 + 4 * f ≠ 0 ∧ 12 + 4 * f ≠ 1 ∧ 12 + 4 * f ≠ 2 ∧ 12 + 4 * f ≠ 9 by omega), uFx (show 13 + 4 * f ≠ 0 ∧ 13 + 4 * f ≠ 1 ∧ 13 + 4 * f ≠ 2 ∧ 13 + 4 * f ≠ 9 by omega), uFx (show 14 + 4 * f ≠ 0 ∧ 14 + 4 * f ≠ 1 ∧ 14 + 4 * f ≠ 2 ∧ 14 + 4 * f ≠ 9 by omega)]
            exact b1 f hf
          · rw [u2_o (by omega), u2_o (by omega), u2_o (by omega)]
            show _ = nI (uF (uF (uF (uF F 0 _) 1 _) 2 _) 9 1 (61 + f))
            rw [uFx (by omega)]
            exact b2 f hf
          · have hf : f < F 5 := hf
            rw [u2_o (by omega), u2_o (by omega), u2_o (by omega), u2_o (by omega), u2_o (by omega), u2_o (by omega), u2_o (by omega), u2_o (by omega), u2_o (by omega)]
            show _ = nI (uF (uF (uF (uF F 0 _) 1 _) 2 _) 9 1 _) ∧ _
            simp only [uFx (show 300 + f ≠ 0 ∧ 300 + f ≠ 1 ∧ 300 + f ≠ 2 ∧ 300 + f ≠ 9 by omega), uFx (show 35 + 2 * f ≠ 0 ∧ 35 + 2 * f ≠ 1 ∧ 35 + 2 * f ≠ 2 ∧ 35 + 2 * f ≠ 9 by omega), uFx (show 36 + 2 * f ≠ 0 ∧ 36 + 2 * f ≠ 1 ∧ 36 + 2 * f ≠ 2 ∧ 36 + 2 * f ≠ 9 by omega)]
            exact b3 f hf
          · have hf : f < F 6 := hf
            rw [u2_o (by omega), u2_o (by omega), u2_o (by omega), u2_o (by omega), u2_o (by omega), u2_o (by omega)]
            show _ = nI (uF (uF (uF (uF F 0 _) 1 _) 2 _) 9 1 _) ∧ _
            simp only [uFx (show 45 + 2 * f ≠ 0 ∧ 45 + 2 * f ≠ 1 ∧ 45 + 2 * f ≠ 2 ∧ 45 + 2 * f ≠ 9 by omega), uFx (show 46 + 2 * f ≠ 0 ∧ 46 + 2 * f ≠ 1 ∧ 46 + 2 * f ≠ 2 ∧ 46 + 2 * f ≠ 9 by omega)]
            exact b4 f hf
          · have hf : f < F 7 := hf
            rw [u2_o (by omega), u2_o (by omega), u2_o (by omega), u2_o (by omega), u2_o (by omega), u2_o (by omega)]
            show _ = nI (uF (uF (uF (uF F 0 _) 1 _) 2 _) 9 1 _) ∧ _
            simp only [uFx (show 53 + 2 * f ≠ 0 ∧ 53 + 2 * f ≠ 1 ∧ 53 + 2 * f ≠ 2 ∧ 53 + 2 * f ≠ 9 by omega), uFx (show 54 + 2 * f ≠ 0 ∧ 54 + 2 * f ≠ 1 ∧ 54 + 2 * f ≠ 2 ∧ 54 + 2 * f ≠ 9 by omega)]
            exact b5 f hf
        · have q : (lab b n 9 0 100 (tn b n 5 e)).1 ≠ 0 := q
          rw [if_pos q] at hE
          conv => whnf
          refine b2 (by decide) ?_
          conv => whnf
          exact ⟨Or.inl rfl, hE _ rfl _ _ ((sl5.tr (hs6.sL (q := 7))).tr sL_fl) fl_13 fl_14⟩
      · have q : (lab b n 8 2 4 (tn b n 3 e)).1 ≠ 0 := q
        rw [if_pos q] at hE
        conv => whnf
        refine b2 (by decide) ?_
        conv => whnf
        exact ⟨Or.inl rfl, hE _ rfl _ _ ((sl3.tr (hs4.sL (q := 7))).tr sL_fl) fl_13 fl_14⟩
    · have q : (lab b n 7 2 5 (tn b n 1 e)).1 ≠ 0 := q
      rw [if_pos q] at hE
      conv => whnf
      refine b2 (by decide) ?_
      conv => whnf
      exact ⟨Or.inl rfl, hE _ rfl _ _ ((sl1.tr (hs2.sL (q := 7))).tr sL_fl) fl_13 fl_14⟩
  · refine Wf.gc tkX4_readsClose [] ?_
    conv => whnf
    refine x_take (d := d + 6) tx0 (tn_b he 1) hc0.2.2.1 (fun I1 L1 hs1 hc1 => ?_)
    have hc1 : TC b n (tn b n 1 e) I1 L1 := hc1
    have tx1 := TX_sT tx0 hs1
    have nc1 := NC_sT nc0 hs1
    have pc1 := PC_sT (by decide) pc0 hs1
    have sl1 := sl0.tr (hs1.sL (q := 20))
    conv => whnf
    refine x_labelled (wd := 5007) (lo := 2) (hi := 5) (d := d + 1) (by decide) (by decide) tx1 (tn_b he 1) hc1 (by decide) (fun q I2 L2 hs2 hc2 t2 v1 v2 => ?_) (fun q I2 L2 hs2 => ?_)
    · have q : (lab b n 7 2 5 (tn b n 1 e)).1 = 0 := q
      rw [if_neg (fun z => z q)] at hE hO
      have hc2 : TC b n (tn b n 2 e) I2 L2 := hc2
      have w2 : I2 2 7 = nI (tvl b n (tn b n 2 e)) := hc2.2.2.2.1 t2
      have hu2 : tvl b n (tn b n 2 e) < 1000 := (tvl_b (tn_b he 2) t2).1
      have tx2 := TX_sT tx1 hs2
      have nc2 := NC_sT nc1 hs2
      have pc2 := PC_sT (by decide) pc1 hs2
      have sl2 := sl1.tr (hs2.sL (q := 20))
      conv => whnf
      refine b1 (by decide) ?_
      conv => whnf
      refine x_take (d := d + 6) tx2 (tn_b he 3) hc2.2.2.1 (fun I3 L3 hs3 hc3 => ?_)
      have hc3 : TC b n (tn b n 3 e) I3 L3 := hc3
      have tx3 := TX_sT tx2 hs3
      have nc3 := NC_sT nc2 hs3
      have pc3 := PC_sT (by decide) pc2 hs3
      have sl3 := sl2.tr (hs3.sL (q := 20))
      conv => whnf
      refine x_labelled (wd := 5008) (lo := 2) (hi := 4) (d := d + 1) (by decide) (by decide) tx3 (tn_b he 3) hc3 (by decide) (fun q I4 L4 hs4 hc4 t2 v1 v2 => ?_) (fun q I4 L4 hs4 => ?_)
      · have q : (lab b n 8 2 4 (tn b n 3 e)).1 = 0 := q
        rw [if_neg (fun z => z q)] at hE hO
        have hc4 : TC b n (tn b n 4 e) I4 L4 := hc4
        have w4 : I4 2 7 = nI (tvl b n (tn b n 4 e)) := hc4.2.2.2.1 t2
        have hu4 : tvl b n (tn b n 4 e) < 1000 := (tvl_b (tn_b he 4) t2).1
        have tx4 := TX_sT tx3 hs4
        have nc4 := NC_sT nc3 hs4
        have pc4 := PC_sT (by decide) pc3 hs4
        have sl4 := sl3.tr (hs4.sL (q := 20))
        conv => whnf
        refine b1 (by decide) ?_
        conv => whnf
        refine x_take (d := d + 6) tx4 (tn_b he 5) hc4.2.2.1 (fun I5 L5 hs5 hc5 => ?_)
        have hc5 : TC b n (tn b n 5 e) I5 L5 := hc5
        have tx5 := TX_sT tx4 hs5
        have nc5 := NC_sT nc4 hs5
        have pc5 := PC_sT (by decide) pc4 hs5
        have sl5 := sl4.tr (hs5.sL (q := 20))
        conv => whnf
        refine x_labelled (wd := 5009) (lo := 0) (hi := 100) (d := d + 1) (by decide) (by decide) tx5 (tn_b he 5) hc5 (by decide) (fun q I6 L6 hs6 hc6 t2 v1 v2 => ?_) (fun q I6 L6 hs6 => ?_)
        · have q : (lab b n 9 0 100 (tn b n 5 e)).1 = 0 := q
          rw [if_neg (fun z => z q)] at hE hO
          have hc6 : TC b n (tn b n 6 e) I6 L6 := hc6
          have w6 : I6 2 7 = nI (tvl b n (tn b n 6 e)) := hc6.2.2.2.1 t2
          have hu6 : tvl b n (tn b n 6 e) < 1000 := (tvl_b (tn_b he 6) t2).1
          have tx6 := TX_sT tx5 hs6
          have nc6 := NC_sT nc5 hs6
          have pc6 := PC_sT (by decide) pc5 hs6
          have sl6 := sl5.tr (hs6.sL (q := 20))
          conv => whnf
          refine b1 (by decide) ?_
          conv => whnf
          have hp1 : I6 2 7 = nI (tvl b n (tn b n 6 e)) := w6
          show Ev l X uX4_take (d + 7) true 0 0 [.ref 2] (mk w p 20 (u2 (u2 (u2 I6 20 0 (I2 2 7)) 20 1 (I4 2 7)) 20 2 (I6 2 7)) L6) _
          rw [w2, w4, w6]
          refine x_take (d := d + 6) (TX_u (by decide) (TX_u (by decide) (TX_u (by decide) tx6))) (tn_b he 7) (TC_u (by decide) (TC_u (by decide) (TC_u (by decide) hc6))).2.2.1 (fun I9 L9 hs9 hc9 => ?_)
          conv => whnf
          refine ⟨Or.inr rfl, hO _ rfl I9 L9 (sl6.tr ((sL_u (by decide)).tr ((sL_u (by decide)).tr ((sL_u (by decide)).tr hs9.sL)))) ⟨TX_sT (TX_u (by decide) (TX_u (by decide) (TX_u (by decide) tx6))) hs9, tn_b he 7, hc9, NC_sT (NC_u (by decide) (NC_u (by decide) (NC_u (by decide) nc6))) hs9, PC_sT (by decide) ?_ hs9⟩⟩
          obtain ⟨⟨a0, a1, a2, a3, a4, a5, a6, a7⟩, b1, b2, b3, b4, b5⟩ := pc6
          refine ⟨⟨?_, ?_, ?_, ?_, ?_, ?_, ?_, ?_⟩, fun f hf => ?_, fun f hf => ?_, fun f hf => ?_, fun f hf => ?_, fun f hf => ?_⟩
          · exact rfl
          · exact rfl
          · exact rfl
          · exact a3
          · exact a4
          · exact a5
          · exact a6
          · exact a7
          · have hf : f < F 4 := hf
            rw [u2_o (by omega), u2_o (by omega), u2_o (by omega), u2_o (by omega), u2_o (by omega), u2_o (by omega), u2_o (by omega), u2_o (by omega), u2_o (by omega), u2_o (by omega), u2_o (by omega), u2_o (by omega)]
            show _ = nI (uF (uF (uF (uF F 0 _) 1 _) 2 _) 9 1 _) ∧ _
            simp only [uFx (show 11 + 4 * f ≠ 0 ∧ 11 + 4 * f ≠ 1 ∧ 11 + 4 * f ≠ 2 ∧ 11 + 4 * f ≠ 9 by omega), uFx (show 12 + 4 * f ≠ 0 ∧ 12 + 4 * f ≠ 1 ∧ 12 + 4 * f ≠ 2 ∧ 12 + 4 * f ≠ 9 by omega), uFx (show 13 + 4 * f ≠ 0 ∧ 13 + 4 * f ≠ 1 ∧ 13 + 4 * f ≠ 2 ∧ 13 + 4 * f ≠ 9 by omega), uFx (show 14 + 4 * f ≠ 0 ∧ 14 + 4 * f ≠ 1 ∧ 14 + 4 * f ≠ 2 ∧ 14 + 4 * f ≠ 9 by omega)]
            exact b1 f hf
          · rw [u2_o (by omega), u2_o (by omega), u2_o (by omega)]
            show _ = nI (uF (uF (uF (uF F 0 _) 1 _) 2 _) 9 1 (61 + f))
            rw [uFx (by omega)]
            exact b2 f hf
          · have hf : f < F 5 := hf
            rw [u2_o (by omega), u2_o (by omega), u2_o (by omega), u2_o (by omega), u2_o (by omega), u2_o (by omega), u2_o (by omega), u2_o (by omega), u2_o (by omega)]
            show _ = nI (uF (uF (uF (uF F 0 _) 1 _) 2 _) 9 1 _) ∧ _
            simp only [uFx (show 300 + f ≠ 0 ∧ 300 + f ≠ 1 ∧ 300 + f ≠ 2 ∧ 300 + f ≠ 9 by omega), uFx (show 35 + 2 * f ≠ 0 ∧ 35 + 2 * f ≠ 1 ∧ 35 + 2 * f ≠ 2 ∧ 35 + 2 * f ≠ 9 by omega), uFx (show 36 + 2 * f ≠ 0 ∧ 36 + 2 * f ≠ 1 ∧ 36 + 2 * f ≠ 2 ∧ 36 + 2 * f ≠ 9 by omega)]
            exact b3 f hf
          · have hf : f < F 6 := hf
            rw [u2_o (by omega), u2_o (by omega), u2_o (by omega), u2_o (by omega), u2_o (by omega), u2_o (by omega)]
            show _ = nI (uF (uF (uF (uF F 0 _) 1 _) 2 _) 9 1 _) ∧ _
            simp only [uFx (show 45 + 2 * f ≠ 0 ∧ 45 + 2 * f ≠ 1 ∧ 45 + 2 * f ≠ 2 ∧ 45 + 2 * f ≠ 9 by omega), uFx (show 46 + 2 * f ≠ 0 ∧ 46 + 2 * f ≠ 1 ∧ 46 + 2 * f ≠ 2 ∧ 46 + 2 * f ≠ 9 by omega)]
            exact b4 f hf
          · have hf : f < F 7 := hf
            rw [u2_o (by omega), u2_o (by omega), u2_o (by omega), u2_o (by omega), u2_o (by omega), u2_o (by omega)]
            show _ = nI (uF (uF (uF (uF F 0 _) 1 _) 2 _) 9 1 _) ∧ _
            simp only [uFx (show 53 + 2 * f ≠ 0 ∧ 53 + 2 * f ≠ 1 ∧ 53 + 2 * f ≠ 2 ∧ 53 + 2 * f ≠ 9 by omega), uFx (show 54 + 2 * f ≠ 0 ∧ 54 + 2 * f ≠ 1 ∧ 54 + 2 * f ≠ 2 ∧ 54 + 2 * f ≠ 9 by omega)]
            exact b5 f hf
        · have q : (lab b n 9 0 100 (tn b n 5 e)).1 ≠ 0 := q
          rw [if_pos q] at hE
          conv => whnf
          refine b2 (by decide) ?_
          conv => whnf
          exact ⟨Or.inl rfl, hE _ rfl _ _ ((sl5.tr (hs6.sL (q := 20))).tr sL_fl) fl_13 fl_14⟩
      · have q : (lab b n 8 2 4 (tn b n 3 e)).1 ≠ 0 := q
        rw [if_pos q] at hE
        conv => whnf
        refine b2 (by decide) ?_
        conv => whnf
        exact ⟨Or.inl rfl, hE _ rfl _ _ ((sl3.tr (hs4.sL (q := 20))).tr sL_fl) fl_13 fl_14⟩
    · have q : (lab b n 7 2 5 (tn b n 1 e)).1 ≠ 0 := q
      rw [if_pos q] at hE
      conv => whnf
      refine b2 (by decide) ?_
      conv => whnf
      exact ⟨Or.inl rfl, hE _ rfl _ _ ((sl1.tr (hs2.sL (q := 20))).tr sL_fl) fl_13 fl_14⟩
end LNC
