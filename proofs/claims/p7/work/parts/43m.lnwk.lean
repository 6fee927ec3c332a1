/-! the class's lines: canons, walkers; unsure, dropped -/
section LNX
variable {l : Launch} {X : Nat × (Nat → Int32)} {d : Nat} {w : Nat × Nat} {p r : Nat} {I : Nat → Nat → Int32} {L : Nat → Nat → Int64} {kr : KR} {b : Nat → Nat} {n e : Nat} {nm : List Nm} {F : Nat → Nat} {W : Int32}
set_option maxHeartbeats 2000000 in
set_option maxRecDepth 20000 in
theorem x_readsWalker (hq : r = 7 ∨ r = 20) (hB : Bd F W nm) (hT : 0 < F 0) (hS : SC b n r (F, W, nm, e) I L) (hE : ∀ er, lnWalker b n F W nm e = .inl er → ∀ I' L', sL r I I' L L' → I' 2 13 = nI er.1 → I' 2 14 = nI er.2 → kr (some (.int 0)) (mk w p r I' L')) (hO : ∀ P', lnWalker b n F W nm e = .inr P' → ∀ I' L', sL r I I' L L' → SC b n r P' I' L' → kr (some (.int 1)) (mk w p r I' L')) : Ev l X uX4_readsWalker (d + 9) true 0 0 [.ref 2] (mk w p r I L) kr := by
  obtain ⟨tx0, he, hc0, nc0, pc0⟩ := hS
  have he : e ≤ n := he
  have hc0 : TC b n (tn b n 0 e) I L := hc0
  have nc0 : NC b nm I L := nc0
  have sl0 : sL r I I L L := sL.rf
  obtain ⟨⟨B0, B1, B3, B4, B5, B6, B7⟩, BF, Bp, Bn, Bs, Bt⟩ := hB
  refine Ev.of (by decide) (Nat.le_of_ble_eq_true rfl) ?_
  unfold lnWalker at hE hO
  obtain ⟨Bt0, Bt1⟩ := Bt hT
  have hc4 : 2 * 2 ≤ F 0 * F 1 := Nat.mul_le_mul Bt0 Bt1
  have hc20 : F 0 * F 1 ≤ 5 * 4 := Nat.mul_le_mul B0 B1
  have ecel : (nI (F 0 * F 1) - nI 1 : Int32) = nI (F 0 * F 1 - 1) := nI_sub (by omega)
  rcases hq with rfl | rfl
  · refine Wf.gc tkX4_readsWalker [8] ?_
    conv => whnf
    show Wf l X uX4_readsWalker (d + 9) true (mC (mk w p 7 I L) + 0, mS (mk w p 7 I L) + 0) 8 [(0, .ref 2), (1, .int (I 7 14))] [] (mk w p 7 I L) kr
    rw [show I 7 14 = nI (F 6) from pc0.1.2.2.2.2.2.2.1]
    refine Wf.gc tkX4_readsWalker [] ?_
    conv => whnf
    refine ⟨fun z => ?_, fun z => ?_⟩
    · have z : nI (F 6) < 4 := z
      rw [show (4 : Int32) = nI 4 from rfl, nI_ltI (by omega) (by decide)] at z
      rw [if_neg (by omega)] at hE hO
      conv => whnf
      refine x_take (d := d + 7) tx0 (tn_b he 1) hc0.2.2.1 (fun I1 L1 hs1 hc1 => ?_)
      have hc1 : TC b n (tn b n 1 e) I1 L1 := hc1
      have tx1 := TX_sT tx0 hs1
      have nc1 := NC_sT nc0 hs1
      have pc1 := PC_sT (by decide) pc0 hs1
      have sl1 := sl0.tr (hs1.sL (q := 7))
      conv => whnf
      show Ev l X uX4_tells (d + 8) true 0 0 [.ref 2, .int (nI 3), .int (nI (F 6))] (mk w p 7 I1 L1) _
      refine x_tells (d := d + 1) tx1 (tn_b he 1) hc1 nc1 (by omega) (fun q I2 L2 hs2 ht2 nc2 hc2 => ?_) (fun q => ?_)
      · rw [if_neg (fun z => z q)] at hE hO
        conv => whnf
        refine b2 (by decide) ?_
        conv => whnf
        have hc2 : TC b n (tn b n 2 e) I2 L2 := hc2
        have nc2 : NC b (nm ++ [nw b n (tn b n 1 e) 3 (F 6)]) I2 L2 := nc2
        have tx2 : TX b n I2 := TX_sL (Or.inl rfl) tx1 hs2
        have pc2 : PC 7 F W I2 := PC_eq pc1 (fun a i z1 z2 => ht2 a i (by omega) (by omega) (by omega))
        have sl2 : sL 7 I I2 L L2 := sl1.tr ⟨fun a i z1 z2 z3 z4 => hs2x hs2 ht2 z1 z2 z3, hs2.2⟩
        have Bs2 := nms_a (x := nw b n (tn b n 1 e) 3 (F 6)) Bs ⟨by show 3 < 10; decide, by show F 6 < 6; omega⟩
        refine x_cells (q := 7) (Or.inl rfl) B0 B1 pc2 ?_
        conv => whnf
        show Ev l X uX4_labelled (d + 8) true 0 0 [.ref 2, .ref 5018, .int (nI 0), .int (nI (F 0 * F 1) - nI 1)] (mk w p 7 I2 L2) _
        rw [ecel]
        refine x_labelled (wd := 5018) (lo := 0) (hi := (F 0 * F 1 - 1)) (d := d + 2) (by decide) (by omega) tx2 (tn_b he 2) hc2 (by decide) (fun q I3 L3 hs3 hc3 t2 v1 v2 => ?_) (fun q I3 L3 hs3 => ?_)
        · have q : (lab b n 18 0 (F 0 * F 1 - 1) (tn b n 2 e)).1 = 0 := q
          rw [if_neg (fun z => z q)] at hE hO
          have hc3 : TC b n (tn b n 3 e) I3 L3 := hc3
          have w3 : I3 2 7 = nI (tvl b n (tn b n 3 e)) := hc3.2.2.2.1 t2
          have hu3 : tvl b n (tn b n 3 e) < 1000 := (tvl_b (tn_b he 3) t2).1
          have tx3 := TX_sT tx2 hs3
          have nc3 := NC_sT nc2 hs3
          have pc3 := PC_sT (by decide) pc2 hs3
          have sl3 := sl2.tr (hs3.sL (q := 7))
          conv => whnf
          refine b1 (by decide) ?_
          conv => whnf
          show Ev l X uX3_isWall (d + 8) true 0 0 [.ref 7, .int (I3 2 7)] (mk w p 7 I3 L3) _
          rw [w3]
          refine x_isWall (q := 7) (Or.inl rfl) pc3 ?_
          conv => whnf
          refine ⟨fun z3 => ?_, fun z3 => ?_⟩
          · rw [if_neg (by rw [bI_f z3]; decide)] at hE hO
            conv => whnf
            refine ⟨F 6, ix (N := 4) (by omega) (by decide), ?_⟩
            conv => whnf
            show Ev l X uX4_take (d + 8) true 0 0 [.ref 2] (mk w p 7 (u2 I3 16 (F 6) (I3 2 7)) L3) _
            rw [w3]
            show Ev l X uX4_take (d + 8) true 0 0 [.ref 2] (mk w p 7 (u2 I3 16 (F 6) (nI (tvl b n (tn b n 3 e)))) L3) _
            obtain ⟨I4, hI4⟩ : ∃ J, J = u2 I3 16 (F 6) (nI (tvl b n (tn b n 3 e))) := ⟨_, rfl⟩
            obtain ⟨L4, hL4⟩ : ∃ J, J = L3 := ⟨_, rfl⟩
            rw [← hI4, ← hL4]
            have tx4 : TX b n I4 := by rw [hI4]; exact TX_u (by decide) tx3
            have hc4 : TC b n (tn b n 3 e) I4 L4 := by rw [hI4, hL4]; exact TC_u (by decide) hc3
            have nc4 : NC b (nm ++ [nw b n (tn b n 1 e) 3 (F 6)]) I4 L4 := by rw [hI4, hL4]; exact NC_u (by decide) nc3
            have pc4 : PC 7 F W I4 := by rw [hI4]; exact PC_new (q := 7) (j := 9) pc3 (by omega)
            have sl4 : sL 7 I I4 L L4 := by rw [hI4, hL4]; exact sl3.tr (sL_u (by decide))
            have xa4 : I4 16 (F 6) = (nI (tvl b n (tn b n 3 e))) := by rw [hI4, u2_s]
            refine x_take (d := d + 7) tx4 (tn_b he 4) hc4.2.2.1 (fun I5 L5 hs5 hc5 => ?_)
            have hc5 : TC b n (tn b n 4 e) I5 L5 := hc5
            have tx5 := TX_sT tx4 hs5
            have nc5 := NC_sT nc4 hs5
            have pc5 := PC_sT (by decide) pc4 hs5
            have sl5 := sl4.tr (hs5.sL (q := 7))
            have xa5 : I5 16 (F 6) = (nI (tvl b n (tn b n 3 e))) := (hs5.1 _ _ (by omega)).trans xa4
            conv => whnf
            refine x_cells (q := 7) (Or.inl rfl) B0 B1 pc5 ?_
            conv => whnf
            show Ev l X uX4_labelled (d + 8) true 0 0 [.ref 2, .ref 5019, .int (nI 0), .int (nI (F 0 * F 1) - nI 1)] (mk w p 7 I5 L5) _
            rw [ecel]
            refine x_labelled (wd := 5019) (lo := 0) (hi := (F 0 * F 1 - 1)) (d := d + 2) (by decide) (by omega) tx5 (tn_b he 4) hc5 (by decide) (fun q I6 L6 hs6 hc6 t2 v1 v2 => ?_) (fun q I6 L6 hs6 => ?_)
            · have q : (lab b n 19 0 (F 0 * F 1 - 1) (tn b n 4 e)).1 = 0 := q
              rw [if_neg (fun z => z q)] at hE hO
              have hc6 : TC b n (tn b n 5 e) I6 L6 := hc6
              have w5 : I6 2 7 = nI (tvl b n (tn b n 5 e)) := hc6.2.2.2.1 t2
              have hu5 : tvl b n (tn b n 5 e) < 1000 := (tvl_b (tn_b he 5) t2).1
              have tx6 := TX_sT tx5 hs6
              have nc6 := NC_sT nc5 hs6
              have pc6 := PC_sT (by decide) pc5 hs6
              have sl6 := sl5.tr (hs6.sL (q := 7))
              have xa6 : I6 16 (F 6) = (nI (tvl b n (tn b n 3 e))) := (hs6.1 _ _ (by omega)).trans xa5
              conv => whnf
              refine b1 (by decide) ?_
              conv => whnf
              show Ev l X uX3_isWall (d + 8) true 0 0 [.ref 7, .int (I6 2 7)] (mk w p 7 I6 L6) _
              rw [w5]
              refine x_isWall (q := 7) (Or.inl rfl) pc6 ?_
              conv => whnf
              refine ⟨fun z3 => ?_, fun z3 => ?_⟩
              · rw [if_neg (by rw [bI_f z3]; decide)] at hE hO
                conv => whnf
                refine ⟨F 6, ix (N := 4) (by omega) (by decide), ?_⟩
                conv => whnf
                show Ev l X uX4_take (d + 8) true 0 0 [.ref 2] (mk w p 7 (u2 (u2 I6 17 (F 6) (I6 2 7)) 7 14 (u2 I6 17 (F 6) (I6 2 7) 7 14 + 1)) L6) _
                rw [w5, u2_o (by omega), show I6 7 14 = nI (F 6) from pc6.1.2.2.2.2.2.2.1, nI_1]
                have pcn : PC 7 F W (u2 I6 17 (F 6) (nI (tvl b n (tn b n 5 e)))) := PC_new (q := 7) (j := 10) pc6 (by omega)
                have pcf := PC_walker pcn B4 B5 B6 B7 (by omega) (by rw [u2_o (by omega)]; exact xa6) (by rw [u2_s])
                refine x_take (d := d + 7) (TX_u (by decide) (TX_u (by decide) tx6)) (tn_b he 6) (TC_u (by decide) (TC_u (by decide) hc6)).2.2.1 (fun I99 L99 hs99 hc99 => ?_)
                conv => whnf
                exact ⟨Or.inr rfl, hO _ rfl I99 L99 (sl6.tr ((sL_u (by decide)).tr ((sL_u (by decide)).tr hs99.sL))) ⟨TX_sT (TX_u (by decide) (TX_u (by decide) tx6)) hs99, tn_b he 6, hc99, NC_sT (NC_u (by decide) (NC_u (by decide) nc6)) hs99, PC_sT (by decide) pcf hs99⟩⟩
              · rw [if_pos (bI_t z3)] at hE
                conv => whnf
                refine x_fails hc6 ?_
                conv => whnf
                exact ⟨Or.inl rfl, hE (7, tst b n (tn b n 5 e)) rfl (fl I6 7 (tst b n (tn b n 5 e))) L6 (sl6.tr sL_fl) fl_13 fl_14⟩
            · have q : (lab b n 19 0 (F 0 * F 1 - 1) (tn b n 4 e)).1 ≠ 0 := q
              rw [if_pos q] at hE
              conv => whnf
              refine b2 (by decide) ?_
              conv => whnf
              exact ⟨Or.inl rfl, hE _ rfl _ _ ((sl5.tr (hs6.sL (q := 7))).tr sL_fl) fl_13 fl_14⟩
          · rw [if_pos (bI_t z3)] at hE
            conv => whnf
            refine x_fails hc3 ?_
            conv => whnf
            exact ⟨Or.inl rfl, hE (7, tst b n (tn b n 3 e)) rfl (fl I3 7 (tst b n (tn b n 3 e))) L3 (sl3.tr sL_fl) fl_13 fl_14⟩
        · have q : (lab b n 18 0 (F 0 * F 1 - 1) (tn b n 2 e)).1 ≠ 0 := q
          rw [if_pos q] at hE
          conv => whnf
          refine b2 (by decide) ?_
          conv => whnf
          exact ⟨Or.inl rfl, hE _ rfl _ _ ((sl2.tr (hs3.sL (q := 7))).tr sL_fl) fl_13 fl_14⟩
      · rw [if_pos q] at hE
        conv => whnf
        refine b1 (by decide) ?_
        conv => whnf
        exact ⟨Or.inl rfl, hE _ rfl _ _ (sl1.tr sL_fl) fl_13 fl_14⟩
    · have z : ¬ nI (F 6) < 4 := z
      rw [show (4 : Int32) = nI 4 from rfl, nI_ltI (by omega) (by decide)] at z
      rw [if_pos (by omega)] at hE
      conv => whnf
      refine x_fails hc0 ?_
      conv => whnf
      exact ⟨Or.inl rfl, hE (5, tst b n (tn b n 0 e)) rfl (fl I 5 (tst b n (tn b n 0 e))) L (sl0.tr sL_fl) fl_13 fl_14⟩
  · refine Wf.gc tkX4_readsWalker [8] ?_
    conv => whnf
    show Wf l X uX4_readsWalker (d + 9) true (mC (mk w p 20 I L) + 0, mS (mk w p 20 I L) + 0) 8 [(0, .ref 2), (1, .int (I 20 14))] [] (mk w p 20 I L) kr
    rw [show I 20 14 = nI (F 6) from pc0.1.2.2.2.2.2.2.1]
    refine Wf.gc tkX4_readsWalker [] ?_
    conv => whnf
    refine ⟨fun z => ?_, fun z => ?_⟩
    · have z : nI (F 6) < 4 := z
      rw [show (4 : Int32) = nI 4 from rfl, nI_ltI (by omega) (by decide)] at z
      rw [if_neg (by omega)] at hE hO
      conv => whnf
      refine x_take (d := d + 7) tx0 (tn_b he 1) hc0.2.2.1 (fun I1 L1 hs1 hc1 => ?_)
      have hc1 : TC b n (tn b n 1 e) I1 L1 := hc1
      have tx1 := TX_sT tx0 hs1
      have nc1 := NC_sT nc0 hs1
      have pc1 := PC_sT (by decide) pc0 hs1
      have sl1 := sl0.tr (hs1.sL (q := 20))
      conv => whnf
      show Ev l X uX4_tells (d + 8) true 0 0 [.ref 2, .int (nI 3), .int (nI (F 6))] (mk w p 20 I1 L1) _
      refine x_tells (d := d + 1) tx1 (tn_b he 1) hc1 nc1 (by omega) (fun q I2 L2 hs2 ht2 nc2 hc2 => ?_) (fun q => ?_)
      · rw [if_neg (fun z => z q)] at hE hO
        conv => whnf
        refine b2 (by decide) ?_
        conv => whnf
        have hc2 : TC b n (tn b n 2 e) I2 L2 := hc2
        have nc2 : NC b (nm ++ [nw b n (tn b n 1 e) 3 (F 6)]) I2 L2 := nc2
        have tx2 : TX b n I2 := TX_sL (Or.inl rfl) tx1 hs2
        have pc2 : PC 20 F W I2 := PC_eq pc1 (fun a i z1 z2 => ht2 a i (by omega) (by omega) (by omega))
        have sl2 : sL 20 I I2 L L2 := sl1.tr ⟨fun a i z1 z2 z3 z4 => hs2x hs2 ht2 z1 z2 z3, hs2.2⟩
        have Bs2 := nms_a (x := nw b n (tn b n 1 e) 3 (F 6)) Bs ⟨by show 3 < 10; decide, by show F 6 < 6; omega⟩
        refine x_cells (q := 20) (Or.inr rfl) B0 B1 pc2 ?_
        conv => whnf
        show Ev l X uX4_labelled (d + 8) true 0 0 [.ref 2, .ref 5018, .int (nI 0), .int (nI (F 0 * F 1) - nI 1)] (mk w p 20 I2 L2) _
        rw [ecel]
        refine x_labelled (wd := 5018) (lo := 0) (hi := (F 0 * F 1 - 1)) (d := d + 2) (by decide) (by omega) tx2 (tn_b he 2) hc2 (by decide) (fun q I3 L3 hs3 hc3 t2 v1 v2 => ?_) (fun q I3 L3 hs3 => ?_)
        · have q : (lab b n 18 0 (F 0 * F 1 - 1) (tn b n 2 e)).1 = 0 := q
          rw [if_neg (fun z => z q)] at hE hO
          have hc3 : TC b n (tn b n 3 e) I3 L3 := hc3
          have w3 : I3 2 7 = nI (tvl b n (tn b n 3 e)) := hc3.2.2.2.1 t2
          have hu3 : tvl b n (tn b n 3 e) < 1000 := (tvl_b (tn_b he 3) t2).1
          have tx3 := TX_sT tx2 hs3
          have nc3 := NC_sT nc2 hs3
          have pc3 := PC_sT (by decide) pc2 hs3
          have sl3 := sl2.tr (hs3.sL (q := 20))
          conv => whnf
          refine b1 (by decide) ?_
          conv => whnf
          show Ev l X uX3_isWall (d + 8) true 0 0 [.ref 20, .int (I3 2 7)] (mk w p 20 I3 L3) _
          rw [w3]
          refine x_isWall (q := 20) (Or.inr rfl) pc3 ?_
          conv => whnf
          refine ⟨fun z3 => ?_, fun z3 => ?_⟩
          · rw [if_neg (by rw [bI_f z3]; decide)] at hE hO
            conv => whnf
            refine ⟨F 6, ix (N := 4) (by omega) (by decide), ?_⟩
            conv => whnf
            show Ev l X uX4_take (d + 8) true 0 0 [.ref 2] (mk w p 20 (u2 I3 29 (F 6) (I3 2 7)) L3) _
            rw [w3]
            show Ev l X uX4_take (d + 8) true 0 0 [.ref 2] (mk w p 20 (u2 I3 29 (F 6) (nI (tvl b n (tn b n 3 e)))) L3) _
            obtain ⟨I4, hI4⟩ : ∃ J, J = u2 I3 29 (F 6) (nI (tvl b n (tn b n 3 e))) := ⟨_, rfl⟩
            obtain ⟨L4, hL4⟩ : ∃ J, J = L3 := ⟨_, rfl⟩
            rw [← hI4, ← hL4]
            have tx4 : TX b n I4 := by rw [hI4]; exact TX_u (by decide) tx3
            have hc4 : TC b n (tn b n 3 e) I4 L4 := by rw [hI4, hL4]; exact TC_u (by decide) hc3
            have nc4 : NC b (nm ++ [nw b n (tn b n 1 e) 3 (F 6)]) I4 L4 := by rw [hI4, hL4]; exact NC_u (by decide) nc3
            have pc4 : PC 20 F W I4 := by rw [hI4]; exact PC_new (q := 20) (j := 9) pc3 (by omega)
            have sl4 : sL 20 I I4 L L4 := by rw [hI4, hL4]; exact sl3.tr (sL_u (by decide))
            have xa4 : I4 29 (F 6) = (nI (tvl b n (tn b n 3 e))) := by rw [hI4, u2_s]
            refine x_take (d := d + 7) tx4 (tn_b he 4) hc4.2.2.1 (fun I5 L5 hs5 hc5 => ?_)
            have hc5 : TC b n (tn b n 4 e) I5 L5 := hc5
            have tx5 := TX_sT tx4 hs5
            have nc5 := NC_sT nc4 hs5
            have pc5 := PC_sT (by decide) pc4 hs5
            have sl5 := sl4.tr (hs5.sL (q := 20))
            have xa5 : I5 29 (F 6) = (nI (tvl b n (tn b n 3 e))) := (hs5.1 _ _ (by omega)).trans xa4
            conv => whnf
            refine x_cells (q := 20) (Or.inr rfl) B0 B1 pc5 ?_
            conv => whnf
            show Ev l X uX4_labelled (d + 8) true 0 0 [.ref 2, .ref 5019, .int (nI 0), .int (nI (F 0 * F 1) - nI 1)] (mk w p 20 I5 L5) _
            rw [ecel]
            refine x_labelled (wd := 5019) (lo := 0) (hi := (F 0 * F 1 - 1)) (d := d + 2) (by decide) (by omega) tx5 (tn_b he 4) hc5 (by decide) (fun q I6 L6 hs6 hc6 t2 v1 v2 => ?_) (fun q I6 L6 hs6 => ?_)
            · have q : (lab b n 19 0 (F 0 * F 1 - 1) (tn b n 4 e)).1 = 0 := q
              rw [if_neg (fun z => z q)] at hE hO
              have hc6 : TC b n (tn b n 5 e) I6 L6 := hc6
              have w5 : I6 2 7 = nI (tvl b n (tn b n 5 e)) := hc6.2.2.2.1 t2
              have hu5 : tvl b n (tn b n 5 e) < 1000 := (tvl_b (tn_b he 5) t2).1
              have tx6 := TX_sT tx5 hs6
              have nc6 := NC_sT nc5 hs6
              have pc6 := PC_sT (by decide) pc5 hs6
              have sl6 := sl5.tr (hs6.sL (q := 20))
              have xa6 : I6 29 (F 6) = (nI (tvl b n (tn b n 3 e))) := (hs6.1 _ _ (by omega)).trans xa5
              conv => whnf
              refine b1 (by decide) ?_
              conv => whnf
              show Ev l X uX3_isWall (d + 8) true 0 0 [.ref 20, .int (I6 2 7)] (mk w p 20 I6 L6) _
              rw [w5]
              refine x_isWall (q := 20) (Or.inr rfl) pc6 ?_
              conv => whnf
              refine ⟨fun z3 => ?_, fun z3 => ?_⟩
              · rw [if_neg (by rw [bI_f z3]; decide)] at hE hO
                conv => whnf
                refine ⟨F 6, ix (N := 4) (by omega) (by decide), ?_⟩
                conv => whnf
                show Ev l X uX4_take (d + 8) true 0 0 [.ref 2] (mk w p 20 (u2 (u2 I6 30 (F 6) (I6 2 7)) 20 14 (u2 I6 30 (F 6) (I6 2 7) 20 14 + 1)) L6) _
                rw [w5, u2_o (by omega), show I6 20 14 = nI (F 6) from pc6.1.2.2.2.2.2.2.1, nI_1]
                have pcn : PC 20 F W (u2 I6 30 (F 6) (nI (tvl b n (tn b n 5 e)))) := PC_new (q := 20) (j := 10) pc6 (by omega)
                have pcf := PC_walker pcn B4 B5 B6 B7 (by omega) (by rw [u2_o (by omega)]; exact xa6) (by rw [u2_s])
                refine x_take (d := d + 7) (TX_u (by decide) (TX_u (by decide) tx6)) (tn_b he 6) (TC_u (by decide) (TC_u (by decide) hc6)).2.2.1 (fun I99 L99 hs99 hc99 => ?_)
                conv => whnf
                exact ⟨Or.inr rfl, hO _ rfl I99 L99 (sl6.tr ((sL_u (by decide)).tr ((sL_u (by decide)).tr hs99.sL))) ⟨TX_sT (TX_u (by decide) (TX_u (by decide) tx6)) hs99, tn_b he 6, hc99, NC_sT (NC_u (by decide) (NC_u (by decide) nc6)) hs99, PC_sT (by decide) pcf hs99⟩⟩
              · rw [if_pos (bI_t z3)] at hE
                conv => whnf
                refine x_fails hc6 ?_
                conv => whnf
                exact ⟨Or.inl rfl, hE (7, tst b n (tn b n 5 e)) rfl (fl I6 7 (tst b n (tn b n 5 e))) L6 (sl6.tr sL_fl) fl_13 fl_14⟩
            · have q : (lab b n 19 0 (F 0 * F 1 - 1) (tn b n 4 e)).1 ≠ 0 := q
              rw [if_pos q] at hE
              conv => whnf
              refine b2 (by decide) ?_
              conv => whnf
              exact ⟨Or.inl rfl, hE _ rfl _ _ ((sl5.tr (hs6.sL (q := 20))).tr sL_fl) fl_13 fl_14⟩
          · rw [if_pos (bI_t z3)] at hE
            conv => whnf
            refine x_fails hc3 ?_
            conv => whnf
            exact ⟨Or.inl rfl, hE (7, tst b n (tn b n 3 e)) rfl (fl I3 7 (tst b n (tn b n 3 e))) L3 (sl3.tr sL_fl) fl_13 fl_14⟩
        · have q : (lab b n 18 0 (F 0 * F 1 - 1) (tn b n 2 e)).1 ≠ 0 := q
          rw [if_pos q] at hE
          conv => whnf
          refine b2 (by decide) ?_
          conv => whnf
          exact ⟨Or.inl rfl, hE _ rfl _ _ ((sl2.tr (hs3.sL (q := 20))).tr sL_fl) fl_13 fl_14⟩
      · rw [if_pos q] at hE
        conv => whnf
        refine b1 (by decide) ?_
        conv => whnf
        exact ⟨Or.inl rfl, hE _ rfl _ _ (sl1.tr sL_fl) fl_13 fl_14⟩
    · have z : ¬ nI (F 6) < 4 := z
      rw [show (4 : Int32) = nI 4 from rfl, nI_ltI (by omega) (by decide)] at z
      rw [if_pos (by omega)] at hE
      conv => whnf
      refine x_fails hc0 ?_
      conv => whnf
      exact ⟨Or.inl rfl, hE (5, tst b n (tn b n 0 e)) rfl (fl I 5 (tst b n (tn b n 0 e))) L (sl0.tr sL_fl) fl_13 fl_14⟩
end LNX
