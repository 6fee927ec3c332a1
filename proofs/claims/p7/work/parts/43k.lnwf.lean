/-! the class's lines: walls, faces -/
section LNW
variable {l : Launch} {X : Nat × (Nat → Int32)} {d : Nat} {w : Nat × Nat} {p r : Nat} {I : Nat → Nat → Int32} {L : Nat → Nat → Int64} {kr : KR} {b : Nat → Nat} {n e : Nat} {nm : List Nm} {F : Nat → Nat} {W : Int32}
theorem bnd_t {lo hi : Nat} (h : bnd b n lo hi e = 0) : tso b n e = 2 := by
  unfold bnd at h
  split at h
  · assumption
  · cases h
theorem bnd_v {lo hi : Nat} (h : bnd b n lo hi e = 0) : lo ≤ tvl b n e ∧ tvl b n e ≤ hi := by
  unfold bnd at h
  split at h
  · split at h
    · assumption
    · cases h
  · cases h
theorem kin_3 {k : Nat} (h : kin b n e = some k) : k < 3 := by
  unfold kin at h
  split at h
  · cases h; decide
  · split at h
    · cases h; decide
    · split at h
      · cases h; decide
      · cases h
theorem oI_2 {o : Option Nat} (h : ∀ k, o = some k → k < 1000) : oI o = -2 ↔ o = none := by
  cases o with
  | none => exact ⟨fun _ => rfl, fun _ => rfl⟩
  | some k =>
    refine ⟨fun z => ?_, fun z => (by cases z)⟩
    have z : (nI k).toInt = (-2 : Int32).toInt := by rw [show nI k = -2 from z]
    rw [nI_toInt (by have := h k rfl; omega)] at z
    have : (-2 : Int32).toInt = -2 := rfl
    omega
theorem nI_m2 {k : Nat} (h : k < 1000) : ¬ nI k = -2 := by
  intro z
  have z : (nI k).toInt = (-2 : Int32).toInt := by rw [z]
  rw [nI_toInt (by omega)] at z
  have : (-2 : Int32).toInt = -2 := rfl
  omega
theorem ff_b {P : Nat → Bool} {m k : Nat} (h : ff P m 0 = some k) : k < m := by
  have := ff_lt h
  omega
theorem hs2x {q : Nat} {I' : Nat → Nat → Int32} {L' : Nat → Nat → Int64} {a i : Nat} (hs : sL q I I' L L') (ht : ∀ a i, a ≠ 2 → a ≠ 5 → a ≠ 6 → I' a i = I a i) (z1 : ¬ (a = 2 ∧ 4 ≤ i)) (z2 : a ≠ 5) (z3 : a ≠ 6) (hq : 7 ≤ q := by decide) : I' a i = I a i := by
  by_cases e : a = 2
  · exact hs.1 a i z1 z2 z3 (by omega)
  · exact ht a i e z2 z3
set_option maxHeartbeats 2000000 in
set_option maxRecDepth 20000 in
theorem x_readsWall (hq : r = 7 ∨ r = 20) (hB : Bd F W nm) (hT : 0 < F 0) (hS : SC b n r (F, W, nm, e) I L) (hE : ∀ er, lnWall b n F W nm e = .inl er → ∀ I' L', sL r I I' L L' → I' 2 13 = nI er.1 → I' 2 14 = nI er.2 → kr (some (.int 0)) (mk w p r I' L')) (hO : ∀ P', lnWall b n F W nm e = .inr P' → ∀ I' L', sL r I I' L L' → SC b n r P' I' L' → kr (some (.int 1)) (mk w p r I' L')) : Ev l X uX4_readsWall (d + 8) true 0 0 [.ref 2] (mk w p r I L) kr := by
  obtain ⟨tx0, he, hc0, nc0, pc0⟩ := hS
  have he : e ≤ n := he
  have hc0 : TC b n (tn b n 0 e) I L := hc0
  have nc0 : NC b nm I L := nc0
  have sl0 : sL r I I L L := sL.rf
  obtain ⟨⟨B0, B1, B3, B4, B5, B6, B7⟩, BF, Bp, Bn, Bs, Bt⟩ := hB
  refine Ev.of (by decide) (Nat.le_of_ble_eq_true rfl) ?_
  unfold lnWall at hE hO
  obtain ⟨Bt0, Bt1⟩ := Bt hT
  have hc4 : 2 * 2 ≤ F 0 * F 1 := Nat.mul_le_mul Bt0 Bt1
  have hc20 : F 0 * F 1 ≤ 5 * 4 := Nat.mul_le_mul B0 B1
  have ecel : (nI (F 0 * F 1) - nI 1 : Int32) = nI (F 0 * F 1 - 1) := nI_sub (by omega)
  rcases hq with rfl | rfl
  · refine Wf.gc tkX4_readsWall [] ?_
    conv => whnf
    have a6 : I 7 14 = nI (F 6) := pc0.1.2.2.2.2.2.2.1
    refine x_wallCount (q := 7) (d := d + 6) (Or.inl rfl) pc0 ?_
    conv => whnf
    refine ⟨fun z => ?_, fun z => ?_⟩
    · have z : pcI W < 5 := z
      rw [Bp, show (5 : Int32) = nI 5 from rfl, nI_ltI (by omega) (by decide)] at z
      rw [if_neg (by omega)] at hE hO
      conv => whnf
      refine ⟨fun z2 => ?_, fun z2 => ?_⟩
      · have z2 : I 7 14 ≤ 0 := z2
        rw [a6, show (0 : Int32) = nI 0 from rfl, nI_leI (by omega) (by decide)] at z2
        rw [if_neg (by omega)] at hE hO
        conv => whnf
        refine x_take (d := d + 6) tx0 (tn_b he 1) hc0.2.2.1 (fun I1 L1 hs1 hc1 => ?_)
        have hc1 : TC b n (tn b n 1 e) I1 L1 := hc1
        have tx1 := TX_sT tx0 hs1
        have nc1 := NC_sT nc0 hs1
        have pc1 := PC_sT (by decide) pc0 hs1
        have sl1 := sl0.tr (hs1.sL (q := 7))
        conv => whnf
        refine x_cells (q := 7) (Or.inl rfl) B0 B1 pc1 ?_
        conv => whnf
        show Ev l X uX4_bounded (d + 7) true 0 0 [.ref 2, .int (nI 0), .int (nI (F 0 * F 1) - nI 1)] (mk w p 7 I1 L1) _
        rw [ecel]
        refine x_bounded (d := d + 6) (by decide) (by omega) (tn_b he 1) hc1 (fun q => ?_) (fun q => ?_)
        · have t2 : tso b n (tn b n 1 e) = 2 := bnd_t q
          have w1 : I1 2 7 = nI (tvl b n (tn b n 1 e)) := hc1.2.2.2.1 t2
          rw [if_neg (fun z => z q)] at hE hO
          conv => whnf
          refine b1 (by decide) ?_
          conv => whnf
          show Ev l X uX3_isWall (d + 7) true 0 0 [.ref 7, .int (I1 2 7)] (mk w p 7 I1 L1) _
          rw [w1]
          refine x_isWall (q := 7) (Or.inl rfl) pc1 ?_
          conv => whnf
          refine ⟨fun z3 => ?_, fun z3 => ?_⟩
          · rw [if_neg (by rw [bI_f z3]; decide)] at hO
            conv => whnf
            show Ev l X uX4_take (d + 7) true 0 0 [.ref 2] (mk w p 7 (u2 I1 7 3 (I1 7 3 ||| ((1 : Int32) <<< (I1 2 7 &&& 31)))) L1) _
            rw [w1, show I1 7 3 = W from pc1.1.2.2.2.1]
            refine x_take (d := d + 6) (TX_u (by decide) tx1) (tn_b he 2) (TC_u (by decide) hc1).2.2.1 (fun I9 L9 hs9 hc9 => ?_)
            conv => whnf
            exact ⟨Or.inr rfl, hO _ rfl I9 L9 (sl1.tr ((sL_u (by decide)).tr hs9.sL)) ⟨TX_sT (TX_u (by decide) tx1) hs9, tn_b he 2, hc9, NC_sT (NC_u (by decide) nc1) hs9, PC_sT (by decide) (PC_uF (Or.inl rfl) (PC_W pc1)) hs9⟩⟩
          · rw [if_pos (bI_t z3)] at hE
            conv => whnf
            refine x_fails hc1 ?_
            conv => whnf
            exact ⟨Or.inl rfl, hE (3, tst b n (tn b n 1 e)) rfl (fl I1 3 (tst b n (tn b n 1 e))) L1 (sl1.tr sL_fl) fl_13 fl_14⟩
        · rw [if_pos q] at hE
          conv => whnf
          refine b2 (by decide) ?_
          conv => whnf
          exact ⟨Or.inl rfl, hE _ rfl _ _ (sl1.tr sL_fl) fl_13 fl_14⟩
      · have z2 : ¬ I 7 14 ≤ 0 := z2
        rw [a6, show (0 : Int32) = nI 0 from rfl, nI_leI (by omega) (by decide)] at z2
        rw [if_pos (by omega)] at hE
        conv => whnf
        refine x_fails hc0 ?_
        conv => whnf
        exact ⟨Or.inl rfl, hE (7, tst b n (tn b n 0 e)) rfl (fl I 7 (tst b n (tn b n 0 e))) L (sl0.tr sL_fl) fl_13 fl_14⟩
    · have z : ¬ pcI W < 5 := z
      rw [Bp, show (5 : Int32) = nI 5 from rfl, nI_ltI (by omega) (by decide)] at z
      rw [if_pos (by omega)] at hE
      conv => whnf
      refine x_fails hc0 ?_
      conv => whnf
      exact ⟨Or.inl rfl, hE (5, tst b n (tn b n 0 e)) rfl (fl I 5 (tst b n (tn b n 0 e))) L (sl0.tr sL_fl) fl_13 fl_14⟩
  · refine Wf.gc tkX4_readsWall [] ?_
    conv => whnf
    have a6 : I 20 14 = nI (F 6) := pc0.1.2.2.2.2.2.2.1
    refine x_wallCount (q := 20) (d := d + 6) (Or.inr rfl) pc0 ?_
    conv => whnf
    refine ⟨fun z => ?_, fun z => ?_⟩
    · have z : pcI W < 5 := z
      rw [Bp, show (5 : Int32) = nI 5 from rfl, nI_ltI (by omega) (by decide)] at z
      rw [if_neg (by omega)] at hE hO
      conv => whnf
      refine ⟨fun z2 => ?_, fun z2 => ?_⟩
      · have z2 : I 20 14 ≤ 0 := z2
        rw [a6, show (0 : Int32) = nI 0 from rfl, nI_leI (by omega) (by decide)] at z2
        rw [if_neg (by omega)] at hE hO
        conv => whnf
        refine x_take (d := d + 6) tx0 (tn_b he 1) hc0.2.2.1 (fun I1 L1 hs1 hc1 => ?_)
        have hc1 : TC b n (tn b n 1 e) I1 L1 := hc1
        have tx1 := TX_sT tx0 hs1
        have nc1 := NC_sT nc0 hs1
        have pc1 := PC_sT (by decide) pc0 hs1
        have sl1 := sl0.tr (hs1.sL (q := 20))
        conv => whnf
        refine x_cells (q := 20) (Or.inr rfl) B0 B1 pc1 ?_
        conv => whnf
        show Ev l X uX4_bounded (d + 7) true 0 0 [.ref 2, .int (nI 0), .int (nI (F 0 * F 1) - nI 1)] (mk w p 20 I1 L1) _
        rw [ecel]
        refine x_bounded (d := d + 6) (by decide) (by omega) (tn_b he 1) hc1 (fun q => ?_) (fun q => ?_)
        · have t2 : tso b n (tn b n 1 e) = 2 := bnd_t q
          have w1 : I1 2 7 = nI (tvl b n (tn b n 1 e)) := hc1.2.2.2.1 t2
          rw [if_neg (fun z => z q)] at hE hO
          conv => whnf
          refine b1 (by decide) ?_
          conv => whnf
          show Ev l X uX3_isWall (d + 7) true 0 0 [.ref 20, .int (I1 2 7)] (mk w p 20 I1 L1) _
          rw [w1]
          refine x_isWall (q := 20) (Or.inr rfl) pc1 ?_
          conv => whnf
          refine ⟨fun z3 => ?_, fun z3 => ?_⟩
          · rw [if_neg (by rw [bI_f z3]; decide)] at hO
            conv => whnf
            show Ev l X uX4_take (d + 7) true 0 0 [.ref 2] (mk w p 20 (u2 I1 20 3 (I1 20 3 ||| ((1 : Int32) <<< (I1 2 7 &&& 31)))) L1) _
            rw [w1, show I1 20 3 = W from pc1.1.2.2.2.1]
            refine x_take (d := d + 6) (TX_u (by decide) tx1) (tn_b he 2) (TC_u (by decide) hc1).2.2.1 (fun I9 L9 hs9 hc9 => ?_)
            conv => whnf
            exact ⟨Or.inr rfl, hO _ rfl I9 L9 (sl1.tr ((sL_u (by decide)).tr hs9.sL)) ⟨TX_sT (TX_u (by decide) tx1) hs9, tn_b he 2, hc9, NC_sT (NC_u (by decide) nc1) hs9, PC_sT (by decide) (PC_uF (Or.inl rfl) (PC_W pc1)) hs9⟩⟩
          · rw [if_pos (bI_t z3)] at hE
            conv => whnf
            refine x_fails hc1 ?_
            conv => whnf
            exact ⟨Or.inl rfl, hE (3, tst b n (tn b n 1 e)) rfl (fl I1 3 (tst b n (tn b n 1 e))) L1 (sl1.tr sL_fl) fl_13 fl_14⟩
        · rw [if_pos q] at hE
          conv => whnf
          refine b2 (by decide) ?_
          conv => whnf
          exact ⟨Or.inl rfl, hE _ rfl _ _ (sl1.tr sL_fl) fl_13 fl_14⟩
      · have z2 : ¬ I 20 14 ≤ 0 := z2
        rw [a6, show (0 : Int32) = nI 0 from rfl, nI_leI (by omega) (by decide)] at z2
        rw [if_pos (by omega)] at hE
        conv => whnf
        refine x_fails hc0 ?_
        conv => whnf
        exact ⟨Or.inl rfl, hE (7, tst b n (tn b n 0 e)) rfl (fl I 7 (tst b n (tn b n 0 e))) L (sl0.tr sL_fl) fl_13 fl_14⟩
    · have z : ¬ pcI W < 5 := z
      rw [Bp, show (5 : Int32) = nI 5 from rfl, nI_ltI (by omega) (by decide)] at z
      rw [if_pos (by omega)] at hE
      conv => whnf
      refine x_fails hc0 ?_
      conv => whnf
      exact ⟨Or.inl rfl, hE (5, tst b n (tn b n 0 e)) rfl (fl I 5 (tst b n (tn b n 0 e))) L (sl0.tr sL_fl) fl_13 fl_14⟩
set_option maxHeartbeats 2000000 in
set_option maxRecDepth 20000 in
theorem x_readsFace (hq : r = 7 ∨ r = 20) (hB : Bd F W nm) (hT : 0 < F 0) (hS : SC b n r (F, W, nm, e) I L) (hE : ∀ er, lnFace b n F W nm e = .inl er → ∀ I' L', sL r I I' L L' → I' 2 13 = nI er.1 → I' 2 14 = nI er.2 → kr (some (.int 0)) (mk w p r I' L')) (hO : ∀ P', lnFace b n F W nm e = .inr P' → ∀ I' L', sL r I I' L L' → SC b n r P' I' L' → kr (some (.int 1)) (mk w p r I' L')) : Ev l X uX4_readsFace (d + 9) true 0 0 [.ref 2] (mk w p r I L) kr := by
  obtain ⟨tx0, he, hc0, nc0, pc0⟩ := hS
  have he : e ≤ n := he
  have hc0 : TC b n (tn b n 0 e) I L := hc0
  have nc0 : NC b nm I L := nc0
  have sl0 : sL r I I L L := sL.rf
  obtain ⟨⟨B0, B1, B3, B4, B5, B6, B7⟩, BF, Bp, Bn, Bs, Bt⟩ := hB
  refine Ev.of (by decide) (Nat.le_of_ble_eq_true rfl) ?_
  unfold lnFace at hE hO
  obtain ⟨Bt0, Bt1⟩ := Bt hT
  have hc4 : 2 * 2 ≤ F 0 * F 1 := Nat.mul_le_mul Bt0 Bt1
  have hc20 : F 0 * F 1 ≤ 5 * 4 := Nat.mul_le_mul B0 B1
  have ecel : (nI (F 0 * F 1) - nI 1 : Int32) = nI (F 0 * F 1 - 1) := nI_sub (by omega)
  rcases hq with rfl | rfl
  · refine Wf.gc tkX4_readsFace [8] ?_
    conv => whnf
    show Wf l X uX4_readsFace (d + 9) true (mC (mk w p 7 I L) + 0, mS (mk w p 7 I L) + 0) 8 [(0, .ref 2), (1, .int (I 7 4))] [] (mk w p 7 I L) kr
    rw [show I 7 4 = nI (F 4) from pc0.1.2.2.2.2.1]
    refine Wf.gc tkX4_readsFace [] ?_
    conv => whnf
    refine ⟨fun z => ?_, fun z => ?_⟩
    · have z : nI (F 4) < 6 := z
      rw [show (6 : Int32) = nI 6 from rfl, nI_ltI (by omega) (by decide)] at z
      rw [if_neg (by omega)] at hE hO
      conv => whnf
      refine x_take (d := d + 7) tx0 (tn_b he 1) hc0.2.2.1 (fun I1 L1 hs1 hc1 => ?_)
      have hc1 : TC b n (tn b n 1 e) I1 L1 := hc1
      have tx1 := TX_sT tx0 hs1
      have nc1 := NC_sT nc0 hs1
      have pc1 := PC_sT (by decide) pc0 hs1
      have sl1 := sl0.tr (hs1.sL (q := 7))
      conv => whnf
      show Ev l X uX4_tells (d + 8) true 0 0 [.ref 2, .int (nI 1), .int (nI (F 4))] (mk w p 7 I1 L1) _
      refine x_tells (d := d + 1) tx1 (tn_b he 1) hc1 nc1 (by omega) (fun q I2 L2 hs2 ht2 nc2 hc2 => ?_) (fun q => ?_)
      · rw [if_neg (fun z => z q)] at hE hO
        conv => whnf
        refine b1 (by decide) ?_
        conv => whnf
        have hc2 : TC b n (tn b n 2 e) I2 L2 := hc2
        have nc2 : NC b (nm ++ [nw b n (tn b n 1 e) 1 (F 4)]) I2 L2 := nc2
        have tx2 : TX b n I2 := TX_sL (Or.inl rfl) tx1 hs2
        have pc2 : PC 7 F W I2 := PC_eq pc1 (fun a i z1 z2 => ht2 a i (by omega) (by omega) (by omega))
        have sl2 : sL 7 I I2 L L2 := sl1.tr ⟨fun a i z1 z2 z3 z4 => hs2x hs2 ht2 z1 z2 z3, hs2.2⟩
        refine x_kindHere (d := d + 2) tx2 (tn_b he 2) hc2 ?_
        conv => whnf
        cases hkd : kin b n (tn b n 2 e) with
        | none =>
          rw [hkd] at hE
          refine b2 (fun z => z rfl) ?_
          conv => whnf
          refine x_fails hc2 ?_
          conv => whnf
          exact ⟨Or.inl rfl, hE (1, tst b n (tn b n 2 e)) rfl (fl I2 1 (tst b n (tn b n 2 e))) L2 (sl2.tr sL_fl) fl_13 fl_14⟩
        | some kd =>
          rw [hkd] at hE hO
          dsimp only at hE hO
          have hk3 := kin_3 hkd
          refine b1 (fun z => nI_m2 (by omega) z) ?_
          conv => whnf
          refine ⟨F 4, ix (N := 6) (by omega) (by decide), ?_⟩
          conv => whnf
          show Ev l X uX4_take (d + 8) true 0 0 [.ref 2] (mk w p 7 (u2 I2 8 (F 4) (nI kd)) L2) _
          obtain ⟨I3, hI3⟩ : ∃ J, J = u2 I2 8 (F 4) (nI kd) := ⟨_, rfl⟩
          obtain ⟨L3, hL3⟩ : ∃ J, J = L2 := ⟨_, rfl⟩
          rw [← hI3, ← hL3]
          have tx3 : TX b n I3 := by rw [hI3]; exact TX_u (by decide) tx2
          have hc3 : TC b n (tn b n 2 e) I3 L3 := by rw [hI3, hL3]; exact TC_u (by decide) hc2
          have nc3 : NC b (nm ++ [nw b n (tn b n 1 e) 1 (F 4)]) I3 L3 := by rw [hI3, hL3]; exact NC_u (by decide) nc2
          have pc3 : PC 7 F W I3 := by rw [hI3]; exact PC_new (q := 7) (j := 1) pc2 (by omega)
          have sl3 : sL 7 I I3 L L3 := by rw [hI3, hL3]; exact sl2.tr (sL_u (by decide))
          have xk3 : I3 8 (F 4) = (nI kd) := by rw [hI3, u2_s]
          refine x_take (d := d + 7) tx3 (tn_b he 3) hc3.2.2.1 (fun I4 L4 hs4 hc4 => ?_)
          have hc4 : TC b n (tn b n 3 e) I4 L4 := hc4
          have tx4 := TX_sT tx3 hs4
          have nc4 := NC_sT nc3 hs4
          have pc4 := PC_sT (by decide) pc3 hs4
          have sl4 := sl3.tr (hs4.sL (q := 7))
          have xk4 : I4 8 (F 4) = (nI kd) := (hs4.1 _ _ (by omega)).trans xk3
          conv => whnf
          refine x_labelled (wd := 5010) (lo := 1) (hi := 99) (d := d + 2) (by decide) (by decide) tx4 (tn_b he 3) hc4 (by decide) (fun q I5 L5 hs5 hc5 t2 v1 v2 => ?_) (fun q I5 L5 hs5 => ?_)
          · have q : (lab b n 10 1 99 (tn b n 3 e)).1 = 0 := q
            rw [if_neg (fun z => z q)] at hE hO
            have hc5 : TC b n (tn b n 4 e) I5 L5 := hc5
            have w4 : I5 2 7 = nI (tvl b n (tn b n 4 e)) := hc5.2.2.2.1 t2
            have hu4 : tvl b n (tn b n 4 e) < 1000 := (tvl_b (tn_b he 4) t2).1
            have tx5 := TX_sT tx4 hs5
            have nc5 := NC_sT nc4 hs5
            have pc5 := PC_sT (by decide) pc4 hs5
            have sl5 := sl4.tr (hs5.sL (q := 7))
            have xk5 : I5 8 (F 4) = (nI kd) := (hs5.1 _ _ (by omega)).trans xk4
            conv => whnf
            refine b1 (by decide) ?_
            conv => whnf
            refine ⟨F 4, ix (N := 6) (by omega) (by decide), ?_⟩
            conv => whnf
            show Ev l X uX4_take (d + 8) true 0 0 [.ref 2] (mk w p 7 (u2 I5 9 (F 4) (I5 2 7)) L5) _
            rw [w4]
            show Ev l X uX4_take (d + 8) true 0 0 [.ref 2] (mk w p 7 (u2 I5 9 (F 4) (nI (tvl b n (tn b n 4 e)))) L5) _
            obtain ⟨I6, hI6⟩ : ∃ J, J = u2 I5 9 (F 4) (nI (tvl b n (tn b n 4 e))) := ⟨_, rfl⟩
            obtain ⟨L6, hL6⟩ : ∃ J, J = L5 := ⟨_, rfl⟩
            rw [← hI6, ← hL6]
            have tx6 : TX b n I6 := by rw [hI6]; exact TX_u (by decide) tx5
            have hc6 : TC b n (tn b n 4 e) I6 L6 := by rw [hI6, hL6]; exact TC_u (by decide) hc5
            have nc6 : NC b (nm ++ [nw b n (tn b n 1 e) 1 (F 4)]) I6 L6 := by rw [hI6, hL6]; exact NC_u (by decide) nc5
            have pc6 : PC 7 F W I6 := by rw [hI6]; exact PC_new (q := 7) (j := 2) pc5 (by omega)
            have sl6 : sL 7 I I6 L L6 := by rw [hI6, hL6]; exact sl5.tr (sL_u (by decide))
            have xk6 : I6 8 (F 4) = (nI kd) := by rw [hI6, u2_o (by omega)]; exact xk5
            have xh6 : I6 9 (F 4) = (nI (tvl b n (tn b n 4 e))) := by rw [hI6, u2_s]
            refine x_take (d := d + 7) tx6 (tn_b he 5) hc6.2.2.1 (fun I7 L7 hs7 hc7 => ?_)
            have hc7 : TC b n (tn b n 5 e) I7 L7 := hc7
            have tx7 := TX_sT tx6 hs7
            have nc7 := NC_sT nc6 hs7
            have pc7 := PC_sT (by decide) pc6 hs7
            have sl7 := sl6.tr (hs7.sL (q := 7))
            have xk7 : I7 8 (F 4) = (nI kd) := (hs7.1 _ _ (by omega)).trans xk6
            have xh7 : I7 9 (F 4) = (nI (tvl b n (tn b n 4 e))) := (hs7.1 _ _ (by omega)).trans xh6
            conv => whnf
            refine x_labelled (wd := 5011) (lo := 0) (hi := 9) (d := d + 2) (by decide) (by decide) tx7 (tn_b he 5) hc7 (by decide) (fun q I8 L8 hs8 hc8 t2 v1 v2 => ?_) (fun q I8 L8 hs8 => ?_)
            · have q : (lab b n 11 0 9 (tn b n 5 e)).1 = 0 := q
              rw [if_neg (fun z => z q)] at hE hO
              have hc8 : TC b n (tn b n 6 e) I8 L8 := hc8
              have w6 : I8 2 7 = nI (tvl b n (tn b n 6 e)) := hc8.2.2.2.1 t2
              have hu6 : tvl b n (tn b n 6 e) < 1000 := (tvl_b (tn_b he 6) t2).1
              have tx8 := TX_sT tx7 hs8
              have nc8 := NC_sT nc7 hs8
              have pc8 := PC_sT (by decide) pc7 hs8
              have sl8 := sl7.tr (hs8.sL (q := 7))
              have xk8 : I8 8 (F 4) = (nI kd) := (hs8.1 _ _ (by omega)).trans xk7
              have xh8 : I8 9 (F 4) = (nI (tvl b n (tn b n 4 e))) := (hs8.1 _ _ (by omega)).trans xh7
              conv => whnf
              refine b1 (by decide) ?_
              conv => whnf
              refine ⟨F 4, ix (N := 6) (by omega) (by decide), ?_⟩
              conv => whnf
              show Ev l X uX4_take (d + 8) true 0 0 [.ref 2] (mk w p 7 (u2 I8 10 (F 4) (I8 2 7)) L8) _
              rw [w6]
              show Ev l X uX4_take (d + 8) true 0 0 [.ref 2] (mk w p 7 (u2 I8 10 (F 4) (nI (tvl b n (tn b n 6 e)))) L8) _
              obtain ⟨I9, hI9⟩ : ∃ J, J = u2 I8 10 (F 4) (nI (tvl b n (tn b n 6 e))) := ⟨_, rfl⟩
              obtain ⟨L9, hL9⟩ : ∃ J, J = L8 := ⟨_, rfl⟩
              rw [← hI9, ← hL9]
              have tx9 : TX b n I9 := by rw [hI9]; exact TX_u (by decide) tx8
              have hc9 : TC b n (tn b n 6 e) I9 L9 := by rw [hI9, hL9]; exact TC_u (by decide) hc8
              have nc9 : NC b (nm ++ [nw b n (tn b n 1 e) 1 (F 4)]) I9 L9 := by rw [hI9, hL9]; exact NC_u (by decide) nc8
              have pc9 : PC 7 F W I9 := by rw [hI9]; exact PC_new (q := 7) (j := 3) pc8 (by omega)
              have sl9 : sL 7 I I9 L L9 := by rw [hI9, hL9]; exact sl8.tr (sL_u (by decide))
              have xk9 : I9 8 (F 4) = (nI kd) := by rw [hI9, u2_o (by omega)]; exact xk8
              have xh9 : I9 9 (F 4) = (nI (tvl b n (tn b n 4 e))) := by rw [hI9, u2_o (by omega)]; exact xh8
              have xw9 : I9 10 (F 4) = (nI (tvl b n (tn b n 6 e))) := by rw [hI9, u2_s]
              refine x_take (d := d + 7) tx9 (tn_b he 7) hc9.2.2.1 (fun I10 L10 hs10 hc10 => ?_)
              have hc10 : TC b n (tn b n 7 e) I10 L10 := hc10
              have tx10 := TX_sT tx9 hs10
              have nc10 := NC_sT nc9 hs10
              have pc10 := PC_sT (by decide) pc9 hs10
              have sl10 := sl9.tr (hs10.sL (q := 7))
              have xk10 : I10 8 (F 4) = (nI kd) := (hs10.1 _ _ (by omega)).trans xk9
              have xh10 : I10 9 (F 4) = (nI (tvl b n (tn b n 4 e))) := (hs10.1 _ _ (by omega)).trans xh9
              have xw10 : I10 10 (F 4) = (nI (tvl b n (tn b n 6 e))) := (hs10.1 _ _ (by omega)).trans xw9
              conv => whnf
              refine x_cells (q := 7) (Or.inl rfl) B0 B1 pc10 ?_
              conv => whnf
              show Ev l X uX4_labelled (d + 8) true 0 0 [.ref 2, .ref 5012, .int (nI 0), .int (nI (F 0 * F 1) - nI 1)] (mk w p 7 I10 L10) _
              rw [ecel]
              refine x_labelled (wd := 5012) (lo := 0) (hi := (F 0 * F 1 - 1)) (d := d + 2) (by decide) (by omega) tx10 (tn_b he 7) hc10 (by decide) (fun q I11 L11 hs11 hc11 t2 v1 v2 => ?_) (fun q I11 L11 hs11 => ?_)
              · have q : (lab b n 12 0 (F 0 * F 1 - 1) (tn b n 7 e)).1 = 0 := q
                rw [if_neg (fun z => z q)] at hE hO
                have hc11 : TC b n (tn b n 8 e) I11 L11 := hc11
                have w8 : I11 2 7 = nI (tvl b n (tn b n 8 e)) := hc11.2.2.2.1 t2
                have hu8 : tvl b n (tn b n 8 e) < 1000 := (tvl_b (tn_b he 8) t2).1
                have tx11 := TX_sT tx10 hs11
                have nc11 := NC_sT nc10 hs11
                have pc11 := PC_sT (by decide) pc10 hs11
                have sl11 := sl10.tr (hs11.sL (q := 7))
                have xk11 : I11 8 (F 4) = (nI kd) := (hs11.1 _ _ (by omega)).trans xk10
                have xh11 : I11 9 (F 4) = (nI (tvl b n (tn b n 4 e))) := (hs11.1 _ _ (by omega)).trans xh10
                have xw11 : I11 10 (F 4) = (nI (tvl b n (tn b n 6 e))) := (hs11.1 _ _ (by omega)).trans xw10
                conv => whnf
                refine b1 (by decide) ?_
                conv => whnf
                show Ev l X uX3_faceOver (d + 8) true 0 0 [.ref 7, .int (I11 2 7)] (mk w p 7 I11 L11) _
                rw [w8]
                refine x_faceOver (q := 7) (Or.inl rfl) hu8 (fun f _ => BF _) B4 pc11 ?_
                conv => whnf
                cases hfo : fov F (tvl b n (tn b n 8 e)) with
                | some g =>
                  rw [if_pos (by rw [hfo]; rfl)] at hE
                  have := ff_b hfo
                  refine b2 (nI_m2 (by omega)) ?_
                  conv => whnf
                  refine x_fails hc11 ?_
                  conv => whnf
                  exact ⟨Or.inl rfl, hE (3, tst b n (tn b n 8 e)) rfl (fl I11 3 (tst b n (tn b n 8 e))) L11 (sl11.tr sL_fl) fl_13 fl_14⟩
                | none =>
                  rw [if_neg (by rw [hfo]; decide)] at hO
                  refine b1 (fun z => z rfl) ?_
                  conv => whnf
                  refine ⟨F 4, ix (N := 6) (by omega) (by decide), ?_⟩
                  conv => whnf
                  show Ev l X uX4_take (d + 8) true 0 0 [.ref 2] (mk w p 7 (u2 (u2 I11 11 (F 4) (I11 2 7)) 7 4 (u2 I11 11 (F 4) (I11 2 7) 7 4 + 1)) L11) _
                  rw [w8, u2_o (by omega), show I11 7 4 = nI (F 4) from pc11.1.2.2.2.2.1, nI_1]
                  have pcn : PC 7 F W (u2 I11 11 (F 4) (nI (tvl b n (tn b n 8 e)))) := PC_new (q := 7) (j := 4) pc11 (by omega)
                  have pcf := PC_face (kd := kd) pcn B4 B5 B6 B7 (by omega) (by rw [u2_o (by omega)]; exact xk11) (by rw [u2_o (by omega)]; exact xh11) (by rw [u2_o (by omega)]; exact xw11) (by rw [u2_s])
                  refine x_take (d := d + 7) (TX_u (by decide) (TX_u (by decide) tx11)) (tn_b he 9) (TC_u (by decide) (TC_u (by decide) hc11)).2.2.1 (fun I99 L99 hs99 hc99 => ?_)
                  conv => whnf
                  exact ⟨Or.inr rfl, hO _ rfl I99 L99 (sl11.tr ((sL_u (by decide)).tr ((sL_u (by decide)).tr hs99.sL))) ⟨TX_sT (TX_u (by decide) (TX_u (by decide) tx11)) hs99, tn_b he 9, hc99, NC_sT (NC_u (by decide) (NC_u (by decide) nc11)) hs99, PC_sT (by decide) pcf hs99⟩⟩
              · have q : (lab b n 12 0 (F 0 * F 1 - 1) (tn b n 7 e)).1 ≠ 0 := q
                rw [if_pos q] at hE
                conv => whnf
                refine b2 (by decide) ?_
                conv => whnf
                exact ⟨Or.inl rfl, hE _ rfl _ _ ((sl10.tr (hs11.sL (q := 7))).tr sL_fl) fl_13 fl_14⟩
            · have q : (lab b n 11 0 9 (tn b n 5 e)).1 ≠ 0 := q
              rw [if_pos q] at hE
              conv => whnf
              refine b2 (by decide) ?_
              conv => whnf
              exact ⟨Or.inl rfl, hE _ rfl _ _ ((sl7.tr (hs8.sL (q := 7))).tr sL_fl) fl_13 fl_14⟩
          · have q : (lab b n 10 1 99 (tn b n 3 e)).1 ≠ 0 := q
            rw [if_pos q] at hE
            conv => whnf
            refine b2 (by decide) ?_
            conv => whnf
            exact ⟨Or.inl rfl, hE _ rfl _ _ ((sl4.tr (hs5.sL (q := 7))).tr sL_fl) fl_13 fl_14⟩
      · rw [if_pos q] at hE
        conv => whnf
        refine b2 (by decide) ?_
        conv => whnf
        exact ⟨Or.inl rfl, hE _ rfl _ _ (sl1.tr sL_fl) fl_13 fl_14⟩
    · have z : ¬ nI (F 4) < 6 := z
      rw [show (6 : Int32) = nI 6 from rfl, nI_ltI (by omega) (by decide)] at z
      rw [if_pos (by omega)] at hE
      conv => whnf
      refine x_fails hc0 ?_
      conv => whnf
      exact ⟨Or.inl rfl, hE (5, tst b n (tn b n 0 e)) rfl (fl I 5 (tst b n (tn b n 0 e))) L (sl0.tr sL_fl) fl_13 fl_14⟩
  · refine Wf.gc tkX4_readsFace [8] ?_
    conv => whnf
    show Wf l X uX4_readsFace (d + 9) true (mC (mk w p 20 I L) + 0, mS (mk w p 20 I L) + 0) 8 [(0, .ref 2), (1, .int (I 20 4))] [] (mk w p 20 I L) kr
    rw [show I 20 4 = nI (F 4) from pc0.1.2.2.2.2.1]
    refine Wf.gc tkX4_readsFace [] ?_
    conv => whnf
    refine ⟨fun z => ?_, fun z => ?_⟩
    · have z : nI (F 4) < 6 := z
      rw [show (6 : Int32) = nI 6 from rfl, nI_ltI (by omega) (by decide)] at z
      rw [if_neg (by omega)] at hE hO
      conv => whnf
      refine x_take (d := d + 7) tx0 (tn_b he 1) hc0.2.2.1 (fun I1 L1 hs1 hc1 => ?_)
      have hc1 : TC b n (tn b n 1 e) I1 L1 := hc1
      have tx1 := TX_sT tx0 hs1
      have nc1 := NC_sT nc0 hs1
      have pc1 := PC_sT (by decide) pc0 hs1
      have sl1 := sl0.tr (hs1.sL (q := 20))
      conv => whnf
      show Ev l X uX4_tells (d + 8) true 0 0 [.ref 2, .int (nI 1), .int (nI (F 4))] (mk w p 20 I1 L1) _
      refine x_tells (d := d + 1) tx1 (tn_b he 1) hc1 nc1 (by omega) (fun q I2 L2 hs2 ht2 nc2 hc2 => ?_) (fun q => ?_)
      · rw [if_neg (fun z => z q)] at hE hO
        conv => whnf
        refine b1 (by decide) ?_
        conv => whnf
        have hc2 : TC b n (tn b n 2 e) I2 L2 := hc2
        have nc2 : NC b (nm ++ [nw b n (tn b n 1 e) 1 (F 4)]) I2 L2 := nc2
        have tx2 : TX b n I2 := TX_sL (Or.inl rfl) tx1 hs2
        have pc2 : PC 20 F W I2 := PC_eq pc1 (fun a i z1 z2 => ht2 a i (by omega) (by omega) (by omega))
        have sl2 : sL 20 I I2 L L2 := sl1.tr ⟨fun a i z1 z2 z3 z4 => hs2x hs2 ht2 z1 z2 z3, hs2.2⟩
        refine x_kindHere (d := d + 2) tx2 (tn_b he 2) hc2 ?_
        conv => whnf
        cases hkd : kin b n (tn b n 2 e) with
        | none =>
          rw [hkd] at hE
          refine b2 (fun z => z rfl) ?_
          conv => whnf
          refine x_fails hc2 ?_
          conv => whnf
          exact ⟨Or.inl rfl, hE (1, tst b n (tn b n 2 e)) rfl (fl I2 1 (tst b n (tn b n 2 e))) L2 (sl2.tr sL_fl) fl_13 fl_14⟩
        | some kd =>
          rw [hkd] at hE hO
          dsimp only at hE hO
          have hk3 := kin_3 hkd
          refine b1 (fun z => nI_m2 (by omega) z) ?_
          conv => whnf
          refine ⟨F 4, ix (N := 6) (by omega) (by decide), ?_⟩
          conv => whnf
          show Ev l X uX4_take (d + 8) true 0 0 [.ref 2] (mk w p 20 (u2 I2 21 (F 4) (nI kd)) L2) _
          obtain ⟨I3, hI3⟩ : ∃ J, J = u2 I2 21 (F 4) (nI kd) := ⟨_, rfl⟩
          obtain ⟨L3, hL3⟩ : ∃ J, J = L2 := ⟨_, rfl⟩
          rw [← hI3, ← hL3]
          have tx3 : TX b n I3 := by rw [hI3]; exact TX_u (by decide) tx2
          have hc3 : TC b n (tn b n 2 e) I3 L3 := by rw [hI3, hL3]; exact TC_u (by decide) hc2
          have nc3 : NC b (nm ++ [nw b n (tn b n 1 e) 1 (F 4)]) I3 L3 := by rw [hI3, hL3]; exact NC_u (by decide) nc2
          have pc3 : PC 20 F W I3 := by rw [hI3]; exact PC_new (q := 20) (j := 1) pc2 (by omega)
          have sl3 : sL 20 I I3 L L3 := by rw [hI3, hL3]; exact sl2.tr (sL_u (by decide))
          have xk3 : I3 21 (F 4) = (nI kd) := by rw [hI3, u2_s]
          refine x_take (d := d + 7) tx3 (tn_b he 3) hc3.2.2.1 (fun I4 L4 hs4 hc4 => ?_)
          have hc4 : TC b n (tn b n 3 e) I4 L4 := hc4
          have tx4 := TX_sT tx3 hs4
          have nc4 := NC_sT nc3 hs4
          have pc4 := PC_sT (by decide) pc3 hs4
          have sl4 := sl3.tr (hs4.sL (q := 20))
          have xk4 : I4 21 (F 4) = (nI kd) := (hs4.1 _ _ (by omega)).trans xk3
          conv => whnf
          refine x_labelled (wd := 5010) (lo := 1) (hi := 99) (d := d + 2) (by decide) (by decide) tx4 (tn_b he 3) hc4 (by decide) (fun q I5 L5 hs5 hc5 t2 v1 v2 => ?_) (fun q I5 L5 hs5 => ?_)
          · have q : (lab b n 10 1 99 (tn b n 3 e)).1 = 0 := q
            rw [if_neg (fun z => z q)] at hE hO
            have hc5 : TC b n (tn b n 4 e) I5 L5 := hc5
            have w4 : I5 2 7 = nI (tvl b n (tn b n 4 e)) := hc5.2.2.2.1 t2
            have hu4 : tvl b n (tn b n 4 e) < 1000 := (tvl_b (tn_b he 4) t2).1
            have tx5 := TX_sT tx4 hs5
            have nc5 := NC_sT nc4 hs5
            have pc5 := PC_sT (by decide) pc4 hs5
            have sl5 := sl4.tr (hs5.sL (q := 20))
            have xk5 : I5 21 (F 4) = (nI kd) := (hs5.1 _ _ (by omega)).trans xk4
            conv => whnf
            refine b1 (by decide) ?_
            conv => whnf
            refine ⟨F 4, ix (N := 6) (by omega) (by decide), ?_⟩
            conv => whnf
            show Ev l X uX4_take (d + 8) true 0 0 [.ref 2] (mk w p 20 (u2 I5 22 (F 4) (I5 2 7)) L5) _
            rw [w4]
            show Ev l X uX4_take (d + 8) true 0 0 [.ref 2] (mk w p 20 (u2 I5 22 (F 4) (nI (tvl b n (tn b n 4 e)))) L5) _
            obtain ⟨I6, hI6⟩ : ∃ J, J = u2 I5 22 (F 4) (nI (tvl b n (tn b n 4 e))) := ⟨_, rfl⟩
            obtain ⟨L6, hL6⟩ : ∃ J, J = L5 := ⟨_, rfl⟩
            rw [← hI6, ← hL6]
            have tx6 : TX b n I6 := by rw [hI6]; exact TX_u (by decide) tx5
            have hc6 : TC b n (tn b n 4 e) I6 L6 := by rw [hI6, hL6]; exact TC_u (by decide) hc5
            have nc6 : NC b (nm ++ [nw b n (tn b n 1 e) 1 (F 4)]) I6 L6 := by rw [hI6, hL6]; exact NC_u (by decide) nc5
            have pc6 : PC 20 F W I6 := by rw [hI6]; exact PC_new (q := 20) (j := 2) pc5 (by omega)
            have sl6 : sL 20 I I6 L L6 := by rw [hI6, hL6]; exact sl5.tr (sL_u (by decide))
            have xk6 : I6 21 (F 4) = (nI kd) := by rw [hI6, u2_o (by omega)]; exact xk5
            have xh6 : I6 22 (F 4) = (nI (tvl b n (tn b n 4 e))) := by rw [hI6, u2_s]
            refine x_take (d := d + 7) tx6 (tn_b he 5) hc6.2.2.1 (fun I7 L7 hs7 hc7 => ?_)
            have hc7 : TC b n (tn b n 5 e) I7 L7 := hc7
            have tx7 := TX_sT tx6 hs7
            have nc7 := NC_sT nc6 hs7
            have pc7 := PC_sT (by decide) pc6 hs7
            have sl7 := sl6.tr (hs7.sL (q := 20))
            have xk7 : I7 21 (F 4) = (nI kd) := (hs7.1 _ _ (by omega)).trans xk6
            have xh7 : I7 22 (F 4) = (nI (tvl b n (tn b n 4 e))) := (hs7.1 _ _ (by omega)).trans xh6
            conv => whnf
            refine x_labelled (wd := 5011) (lo := 0) (hi := 9) (d := d + 2) (by decide) (by decide) tx7 (tn_b he 5) hc7 (by decide) (fun q I8 L8 hs8 hc8 t2 v1 v2 => ?_) (fun q I8 L8 hs8 => ?_)
            · have q : (lab b n 11 0 9 (tn b n 5 e)).1 = 0 := q
              rw [if_neg (fun z => z q)] at hE hO
              have hc8 : TC b n (tn b n 6 e) I8 L8 := hc8
              have w6 : I8 2 7 = nI (tvl b n (tn b n 6 e)) := hc8.2.2.2.1 t2
              have hu6 : tvl b n (tn b n 6 e) < 1000 := (tvl_b (tn_b he 6) t2).1
              have tx8 := TX_sT tx7 hs8
              have nc8 := NC_sT nc7 hs8
              have pc8 := PC_sT (by decide) pc7 hs8
              have sl8 := sl7.tr (hs8.sL (q := 20))
              have xk8 : I8 21 (F 4) = (nI kd) := (hs8.1 _ _ (by omega)).trans xk7
              have xh8 : I8 22 (F 4) = (nI (tvl b n (tn b n 4 e))) := (hs8.1 _ _ (by omega)).trans xh7
              conv => whnf
              refine b1 (by decide) ?_
              conv => whnf
              refine ⟨F 4, ix (N := 6) (by omega) (by decide), ?_⟩
              conv => whnf
              show Ev l X uX4_take (d + 8) true 0 0 [.ref 2] (mk w p 20 (u2 I8 23 (F 4) (I8 2 7)) L8) _
              rw [w6]
              show Ev l X uX4_take (d + 8) true 0 0 [.ref 2] (mk w p 20 (u2 I8 23 (F 4) (nI (tvl b n (tn b n 6 e)))) L8) _
              obtain ⟨I9, hI9⟩ : ∃ J, J = u2 I8 23 (F 4) (nI (tvl b n (tn b n 6 e))) := ⟨_, rfl⟩
              obtain ⟨L9, hL9⟩ : ∃ J, J = L8 := ⟨_, rfl⟩
              rw [← hI9, ← hL9]
              have tx9 : TX b n I9 := by rw [hI9]; exact TX_u (by decide) tx8
              have hc9 : TC b n (tn b n 6 e) I9 L9 := by rw [hI9, hL9]; exact TC_u (by decide) hc8
              have nc9 : NC b (nm ++ [nw b n (tn b n 1 e) 1 (F 4)]) I9 L9 := by rw [hI9, hL9]; exact NC_u (by decide) nc8
              have pc9 : PC 20 F W I9 := by rw [hI9]; exact PC_new (q := 20) (j := 3) pc8 (by omega)
              have sl9 : sL 20 I I9 L L9 := by rw [hI9, hL9]; exact sl8.tr (sL_u (by decide))
              have xk9 : I9 21 (F 4) = (nI kd) := by rw [hI9, u2_o (by omega)]; exact xk8
              have xh9 : I9 22 (F 4) = (nI (tvl b n (tn b n 4 e))) := by rw [hI9, u2_o (by omega)]; exact xh8
              have xw9 : I9 23 (F 4) = (nI (tvl b n (tn b n 6 e))) := by rw [hI9, u2_s]
              refine x_take (d := d + 7) tx9 (tn_b he 7) hc9.2.2.1 (fun I10 L10 hs10 hc10 => ?_)
              have hc10 : TC b n (tn b n 7 e) I10 L10 := hc10
              have tx10 := TX_sT tx9 hs10
              have nc10 := NC_sT nc9 hs10
              have pc10 := PC_sT (by decide) pc9 hs10
              have sl10 := sl9.tr (hs10.sL (q := 20))
              have xk10 : I10 21 (F 4) = (nI kd) := (hs10.1 _ _ (by omega)).trans xk9
              have xh10 : I10 22 (F 4) = (nI (tvl b n (tn b n 4 e))) := (hs10.1 _ _ (by omega)).trans xh9
              have xw10 : I10 23 (F 4) = (nI (tvl b n (tn b n 6 e))) := (hs10.1 _ _ (by omega)).trans xw9
              conv => whnf
              refine x_cells (q := 20) (Or.inr rfl) B0 B1 pc10 ?_
              conv => whnf
              show Ev l X uX4_labelled (d + 8) true 0 0 [.ref 2, .ref 5012, .int (nI 0), .int (nI (F 0 * F 1) - nI 1)] (mk w p 20 I10 L10) _
              rw [ecel]
              refine x_labelled (wd := 5012) (lo := 0) (hi := (F 0 * F 1 - 1)) (d := d + 2) (by decide) (by omega) tx10 (tn_b he 7) hc10 (by decide) (fun q I11 L11 hs11 hc11 t2 v1 v2 => ?_) (fun q I11 L11 hs11 => ?_)
              · have q : (lab b n 12 0 (F 0 * F 1 - 1) (tn b n 7 e)).1 = 0 := q
                rw [if_neg (fun z => z q)] at hE hO
                have hc11 : TC b n (tn b n 8 e) I11 L11 := hc11
                have w8 : I11 2 7 = nI (tvl b n (tn b n 8 e)) := hc11.2.2.2.1 t2
                have hu8 : tvl b n (tn b n 8 e) < 1000 := (tvl_b (tn_b he 8) t2).1
                have tx11 := TX_sT tx10 hs11
                have nc11 := NC_sT nc10 hs11
                have pc11 := PC_sT (by decide) pc10 hs11
                have sl11 := sl10.tr (hs11.sL (q := 20))
                have xk11 : I11 21 (F 4) = (nI kd) := (hs11.1 _ _ (by omega)).trans xk10
                have xh11 : I11 22 (F 4) = (nI (tvl b n (tn b n 4 e))) := (hs11.1 _ _ (by omega)).trans xh10
                have xw11 : I11 23 (F 4) = (nI (tvl b n (tn b n 6 e))) := (hs11.1 _ _ (by omega)).trans xw10
                conv => whnf
                refine b1 (by decide) ?_
                conv => whnf
                show Ev l X uX3_faceOver (d + 8) true 0 0 [.ref 20, .int (I11 2 7)] (mk w p 20 I11 L11) _
                rw [w8]
                refine x_faceOver (q := 20) (Or.inr rfl) hu8 (fun f _ => BF _) B4 pc11 ?_
                conv => whnf
                cases hfo : fov F (tvl b n (tn b n 8 e)) with
                | some g =>
                  rw [if_pos (by rw [hfo]; rfl)] at hE
                  have := ff_b hfo
                  refine b2 (nI_m2 (by omega)) ?_
                  conv => whnf
                  refine x_fails hc11 ?_
                  conv => whnf
                  exact ⟨Or.inl rfl, hE (3, tst b n (tn b n 8 e)) rfl (fl I11 3 (tst b n (tn b n 8 e))) L11 (sl11.tr sL_fl) fl_13 fl_14⟩
                | none =>
                  rw [if_neg (by rw [hfo]; decide)] at hO
                  refine b1 (fun z => z rfl) ?_
                  conv => whnf
                  refine ⟨F 4, ix (N := 6) (by omega) (by decide), ?_⟩
                  conv => whnf
                  show Ev l X uX4_take (d + 8) true 0 0 [.ref 2] (mk w p 20 (u2 (u2 I11 24 (F 4) (I11 2 7)) 20 4 (u2 I11 24 (F 4) (I11 2 7) 20 4 + 1)) L11) _
                  rw [w8, u2_o (by omega), show I11 20 4 = nI (F 4) from pc11.1.2.2.2.2.1, nI_1]
                  have pcn : PC 20 F W (u2 I11 24 (F 4) (nI (tvl b n (tn b n 8 e)))) := PC_new (q := 20) (j := 4) pc11 (by omega)
                  have pcf := PC_face (kd := kd) pcn B4 B5 B6 B7 (by omega) (by rw [u2_o (by omega)]; exact xk11) (by rw [u2_o (by omega)]; exact xh11) (by rw [u2_o (by omega)]; exact xw11) (by rw [u2_s])
                  refine x_take (d := d + 7) (TX_u (by decide) (TX_u (by decide) tx11)) (tn_b he 9) (TC_u (by decide) (TC_u (by decide) hc11)).2.2.1 (fun I99 L99 hs99 hc99 => ?_)
                  conv => whnf
                  exact ⟨Or.inr rfl, hO _ rfl I99 L99 (sl11.tr ((sL_u (by decide)).tr ((sL_u (by decide)).tr hs99.sL))) ⟨TX_sT (TX_u (by decide) (TX_u (by decide) tx11)) hs99, tn_b he 9, hc99, NC_sT (NC_u (by decide) (NC_u (by decide) nc11)) hs99, PC_sT (by decide) pcf hs99⟩⟩
              · have q : (lab b n 12 0 (F 0 * F 1 - 1) (tn b n 7 e)).1 ≠ 0 := q
                rw [if_pos q] at hE
                conv => whnf
                refine b2 (by decide) ?_
                conv => whnf
                exact ⟨Or.inl rfl, hE _ rfl _ _ ((sl10.tr (hs11.sL (q := 20))).tr sL_fl) fl_13 fl_14⟩
            · have q : (lab b n 11 0 9 (tn b n 5 e)).1 ≠ 0 := q
              rw [if_pos q] at hE
              conv => whnf
              refine b2 (by decide) ?_
              conv => whnf
              exact ⟨Or.inl rfl, hE _ rfl _ _ ((sl7.tr (hs8.sL (q := 20))).tr sL_fl) fl_13 fl_14⟩
          · have q : (lab b n 10 1 99 (tn b n 3 e)).1 ≠ 0 := q
            rw [if_pos q] at hE
            conv => whnf
            refine b2 (by decide) ?_
            conv => whnf
            exact ⟨Or.inl rfl, hE _ rfl _ _ ((sl4.tr (hs5.sL (q := 20))).tr sL_fl) fl_13 fl_14⟩
      · rw [if_pos q] at hE
        conv => whnf
        refine b2 (by decide) ?_
        conv => whnf
        exact ⟨Or.inl rfl, hE _ rfl _ _ (sl1.tr sL_fl) fl_13 fl_14⟩
    · have z : ¬ nI (F 4) < 6 := z
      rw [show (6 : Int32) = nI 6 from rfl, nI_ltI (by omega) (by decide)] at z
      rw [if_pos (by omega)] at hE
      conv => whnf
      refine x_fails hc0 ?_
      conv => whnf
      exact ⟨Or.inl rfl, hE (5, tst b n (tn b n 0 e)) rfl (fl I 5 (tst b n (tn b n 0 e))) L (sl0.tr sL_fl) fl_13 fl_14⟩
end LNW
