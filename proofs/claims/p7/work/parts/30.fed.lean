/-! feed of both sides: taped grows by 20, or NONE -/
section FED
variable {l : Launch} {X : Nat × (Nat → Int32)} {d : Nat} {M : Mm} {kr : KR}
def msF : Md3 := [(2, 1, 1), (3, 0, 899)]
def msG : Md3 := [(150, 0, 0), (150, 2, 2), (151, 0, 899)]
theorem tp_st {e : Int} {M0 M : Mm} {t : Nat} {sh x1 : Int32} {b : Nat × Nat} (hJ : Jv Pt8 msF (M0, e) M) (hI : mI M 2 1 = nI t) (ht : t < 900) (hs : ¬ sh < 0) (k : ∀ M', Jv Pt8 msF (M0, e) M' → mI M' 2 1 = nI (t + 1) → Wf l X uX4_tape d true b 3 [(0, .ref 2), (1, .int x1), (2, .int (sh + (-8)))] [] M' kr) : Wf l X uX4_tape d true b 3 [(0, .ref 2), (1, .int x1), (2, .int sh)] [] M kr := by
  have k2 : kk M 2 4 = true := kk_ok hJ.2.1 rfl
  have k3 : kk M 3 8 = true := kk_ok hJ.2.1 rfl
  have r0 : mR M 2 0 = 3 := List.mem_singleton.mp (hJ.2.1.2.2.1 2 0 (by decide))
  have m3 : (mK M 3).2 = 900 := by rw [hJ.2.1.2.1 3 (by decide)]; rfl
  refine Wf.sIl tkX4_tape rfl rfl ?_
  refine Wf.sIf tkX4_tape rfl (fun z => absurd z hs) (fun _ => ?_)
  refine Wf.sAl tkX4_tape rfl rfl rfl ?_
  refine Wf.sG tkX4_tape rfl k2 ?_
  refine Wf.sIc tkX4_tape rfl ?_
  refine Wf.sCm (x := mI M 2 1) (y := 900) tkX4_tape rfl (fun z => absurd (show (900 : Int32) ≤ mI M 2 1 from z) (by rw [hI]; exact nI_ge (a := t) (b := 900) ht (by decide))) (fun _ => ?_)
  refine Wf.sAl tkX4_tape rfl rfl rfl ?_
  refine Wf.sG tkX4_tape rfl k2 ?_
  show Wf l X uX4_tape d true _ 21 _ [.ref (mR M 2 0)] M kr
  rw [r0]
  refine Wf.sAl tkX4_tape rfl rfl rfl ?_
  refine Wf.sG tkX4_tape rfl k2 ?_
  refine Wf.sIl tkX4_tape rfl rfl ?_
  refine Wf.sIl tkX4_tape rfl rfl ?_
  refine Wf.s2 (x := x1) (y := sh) tkX4_tape rfl ?_
  refine Wf.stp1 tkX4_tape (o := o1 28 (fun x => x.toInt8.toInt32)) rfl ?_
  show Wf l X uX4_tape d true _ 29 _ [.int (x1 >>> (sh &&& 31)).toInt8.toInt32, .int (mI M 2 1), .ref 3] M kr
  refine Wf.stp1 tkX4_tape (o := oBas 29) rfl ?_
  simp only [oBas, k3, cond_true]
  refine ⟨t, ⟨hI, by omega, by rw [m3]; exact ht⟩, ?_⟩
  have hJ1 : Jv Pt8 msF (M0, e) (wI M 3 t (x1 >>> (sh &&& 31)).toInt8.toInt32.toInt8.toInt32) := Jv.wI hJ ⟨i32_lo _, i32_hi _⟩ (List.any_eq_true.mpr ⟨(3, 0, 899), by decide, by simp; omega⟩) (by omega)
  have k2 : kk (wI M 3 t (x1 >>> (sh &&& 31)).toInt8.toInt32.toInt8.toInt32) 2 4 = true := kk_ok hJ1.2.1 rfl
  refine Wf.sAl tkX4_tape rfl rfl rfl ?_
  refine Wf.sDup tkX4_tape rfl rfl ?_
  refine Wf.sG tkX4_tape rfl k2 ?_
  refine Wf.sIc tkX4_tape rfl ?_
  refine Wf.s2 (x := mI M 2 1) (y := 1) tkX4_tape rfl ?_
  refine Wf.sPI tkX4_tape rfl k2 ?_
  rw [hI, nI_1]
  have hJ2 := Jv.wI (v := nI (t + 1)) (a := 2) (k := 1) hJ1 (by rw [nI_toInt (by omega)]; show (0 : Int) ≤ ((t + 1 : Nat) : Int) ∧ ((t + 1 : Nat) : Int) ≤ 900; omega) (by decide) (by decide)
  refine Wf.sInc tkX4_tape rfl rfl rfl ?_
  refine Wf.sGo tkX4_tape rfl ?_
  exact k _ hJ2 wI_s
set_option maxRecDepth 20000 in
theorem tp_ev {e : Int} {M0 M : Mm} {t : Nat} {x1 : Int32} (hJ : Jv Pt8 msF (M0, e) M) (hI : mI M 2 1 = nI t) (ht : t + 4 ≤ 900) (h : ∀ M', Jv Pt8 msF (M0, e) M' → mI M' 2 1 = nI (t + 4) → kr none M') : Ev l X uX4_tape d true 0 0 [.ref 2, .int x1] M kr := by
  refine Ev.of (by decide) (Nat.le_of_ble_eq_true rfl) ?_
  refine Wf.sIc tkX4_tape rfl ?_
  refine Wf.sIs tkX4_tape rfl rfl ?_
  refine tp_st hJ hI (by omega) (by decide) (fun M1 hJ1 h1 => ?_)
  refine tp_st hJ1 h1 (by omega) (by decide) (fun M2 hJ2 h2 => ?_)
  refine tp_st hJ2 h2 (by omega) (by decide) (fun M3 hJ3 h3 => ?_)
  refine tp_st hJ3 h3 (by omega) (by decide) (fun M4 hJ4 h4 => ?_)
  refine Wf.sIl tkX4_tape rfl rfl ?_
  refine Wf.sIf tkX4_tape rfl (fun _ => ?_) (fun z => absurd (show (24 : Int32) + (-8) + (-8) + (-8) + (-8) < 0 by decide) z)
  exact Wf.sVr tkX4_tape rfl (h M4 hJ4 h4)
set_option maxRecDepth 20000 in
theorem fd6 {e : Int} {t : Nat} {x1 x2 x3 x4 x5 : Int32} (hI : Iv Pt8 M) (he : eO e M) (ht : mI M 2 1 = nI t) (h9 : t ≤ 900) (h0 : 880 < t → kr (some (.int (-1))) M) (h1 : ∀ M', t ≤ 880 → Jv Pt8 msF (M, e) M' → mI M' 2 1 = nI (t + 20) → kr (some (.int (nI (t + 20)))) M') : Ev l X uX6_feed (d + 1) true 0 0 [.ref 1, .int x1, .int x2, .int x3, .int x4, .int x5] M kr := by
  refine Ev.of (by decide) (Nat.le_of_ble_eq_true rfl) ?_
  have k1 : kk M 1 6 = true := kk_ok hI rfl
  have k2 : kk M 2 4 = true := kk_ok hI rfl
  have r0 : mR M 1 0 = 2 := List.mem_singleton.mp (hI.2.2.1 1 0 (by decide))
  have hJ : Jv Pt8 msF (M, e) M := Jv.rf hI he
  refine Wf.sAl tkX6_feed rfl rfl rfl ?_
  refine Wf.sG tkX6_feed rfl k1 ?_
  show Wf l X uX6_feed (d + 1) true _ 4 _ [.ref (mR M 1 0)] M kr
  rw [r0]
  refine Wf.sG tkX6_feed rfl k2 ?_
  refine Wf.sIc tkX6_feed rfl ?_
  refine Wf.s2 (x := mI M 2 1) (y := 20) tkX6_feed rfl ?_
  refine Wf.sIc tkX6_feed rfl ?_
  have e20 : mI M 2 1 + 20 = nI (t + 20) := by
    rw [ht]
    refine Int32.toInt_inj.mp ?_
    have e1 : (20 : Int32).toInt = 20 := rfl
    have lo : iLo ≤ -1 := by decide
    have hhi : (1000 : Int) ≤ iHi := by decide
    rw [add_i (by rw [nI_toInt (by omega), e1]; omega) (by rw [nI_toInt (by omega), e1]; omega), nI_toInt (by omega), nI_toInt (by omega), e1]
    omega
  refine Wf.sCm (x := mI M 2 1 + 20) (y := 900) tkX6_feed rfl (fun z => ?_) (fun z => ?_)
  · have z : mI M 2 1 + 20 ≤ 900 := z
    rw [e20, Int32.le_iff_toInt_le, nI_toInt (by omega)] at z
    have e9 : (900 : Int32).toInt = 900 := rfl
    have h8 : t ≤ 880 := by omega
    refine Wf.sAl tkX6_feed rfl rfl rfl ?_
    refine Wf.sG tkX6_feed rfl k1 ?_
    show Wf l X uX6_feed (d + 1) true _ 22 _ [.ref (mR M 1 0)] M kr
    rw [r0]
    refine Wf.sIl tkX6_feed rfl rfl ?_
    refine Wf.sCv (as := [.int x1]) (rest := []) tkX6_feed rfl rfl k2 rfl ?_
    refine tp_ev hJ ht (by omega) (fun M1 hJ1 ht1 => ?_)
    have k1 : kk M1 1 6 = true := kk_ok hJ1.2.1 rfl
    have k2 : kk M1 2 4 = true := kk_ok hJ1.2.1 rfl
    have r0 : mR M1 1 0 = 2 := List.mem_singleton.mp (hJ1.2.1.2.2.1 1 0 (by decide))
    refine Wf.sAl tkX6_feed rfl rfl rfl ?_
    refine Wf.sG tkX6_feed rfl k1 ?_
    show Wf l X uX6_feed (d + 1) true _ 30 _ [.ref (mR M1 1 0)] M1 kr
    rw [r0]
    refine Wf.sIl tkX6_feed rfl rfl ?_
    refine Wf.sCv (as := [.int x2]) (rest := []) tkX6_feed rfl rfl k2 rfl ?_
    refine tp_ev hJ1 ht1 (by omega) (fun M2 hJ2 ht2 => ?_)
    have k1 : kk M2 1 6 = true := kk_ok hJ2.2.1 rfl
    have k2 : kk M2 2 4 = true := kk_ok hJ2.2.1 rfl
    have r0 : mR M2 1 0 = 2 := List.mem_singleton.mp (hJ2.2.1.2.2.1 1 0 (by decide))
    refine Wf.sAl tkX6_feed rfl rfl rfl ?_
    refine Wf.sG tkX6_feed rfl k1 ?_
    show Wf l X uX6_feed (d + 1) true _ 38 _ [.ref (mR M2 1 0)] M2 kr
    rw [r0]
    refine Wf.sIl tkX6_feed rfl rfl ?_
    refine Wf.sCv (as := [.int x3]) (rest := []) tkX6_feed rfl rfl k2 rfl ?_
    refine tp_ev hJ2 ht2 (by omega) (fun M3 hJ3 ht3 => ?_)
    have k1 : kk M3 1 6 = true := kk_ok hJ3.2.1 rfl
    have k2 : kk M3 2 4 = true := kk_ok hJ3.2.1 rfl
    have r0 : mR M3 1 0 = 2 := List.mem_singleton.mp (hJ3.2.1.2.2.1 1 0 (by decide))
    refine Wf.sAl tkX6_feed rfl rfl rfl ?_
    refine Wf.sG tkX6_feed rfl k1 ?_
    show Wf l X uX6_feed (d + 1) true _ 46 _ [.ref (mR M3 1 0)] M3 kr
    rw [r0]
    refine Wf.sIl tkX6_feed rfl rfl ?_
    refine Wf.sCv (as := [.int x4]) (rest := []) tkX6_feed rfl rfl k2 rfl ?_
    refine tp_ev hJ3 ht3 (by omega) (fun M4 hJ4 ht4 => ?_)
    have k1 : kk M4 1 6 = true := kk_ok hJ4.2.1 rfl
    have k2 : kk M4 2 4 = true := kk_ok hJ4.2.1 rfl
    have r0 : mR M4 1 0 = 2 := List.mem_singleton.mp (hJ4.2.1.2.2.1 1 0 (by decide))
    refine Wf.sAl tkX6_feed rfl rfl rfl ?_
    refine Wf.sG tkX6_feed rfl k1 ?_
    show Wf l X uX6_feed (d + 1) true _ 55 _ [.ref (mR M4 1 0)] M4 kr
    rw [r0]
    refine Wf.sIl tkX6_feed rfl rfl ?_
    refine Wf.sCv (as := [.int x5]) (rest := []) tkX6_feed rfl rfl k2 rfl ?_
    refine tp_ev hJ4 ht4 (by omega) (fun M5 hJ5 ht5 => ?_)
    have k1 : kk M5 1 6 = true := kk_ok hJ5.2.1 rfl
    have k2 : kk M5 2 4 = true := kk_ok hJ5.2.1 rfl
    have r0 : mR M5 1 0 = 2 := List.mem_singleton.mp (hJ5.2.1.2.2.1 1 0 (by decide))
    refine Wf.sAl tkX6_feed rfl rfl rfl ?_
    refine Wf.sG tkX6_feed rfl k1 ?_
    show Wf l X uX6_feed (d + 1) true _ 64 _ [.ref (mR M5 1 0)] M5 kr
    rw [r0]
    refine Wf.sG tkX6_feed rfl k2 ?_
    refine Wf.sIr (v := mI M5 2 1) tkX6_feed rfl ?_
    rw [ht5]
    exact h1 M5 h8 hJ5 ht5
  · have z : ¬ mI M 2 1 + 20 ≤ 900 := z
    rw [e20, Int32.le_iff_toInt_le, nI_toInt (by omega)] at z
    have e9 : (900 : Int32).toInt = 900 := rfl
    refine Wf.sIc tkX6_feed rfl ?_
    exact Wf.sIr tkX6_feed rfl (h0 (by omega))
set_option maxRecDepth 20000 in
theorem fd7_loop {P : List (Nat × List Row)} {e : Int} {M0 : Mm} {t : Nat} {x1 x2 x3 x4 x5 : Int32} {b : Nat × Nat} (hP : lkR P 151 = []) (hP2 : rwB (lkR P 150) 2 = (0, 900)) (h8 : t ≤ 880) (h : ∀ M', Jv (mkP P) msG (M0, e) M' → mI M' 150 2 = nI (t + 20) → kr (some (.int (nI (t + 20)))) M') : ∀ k, k ≤ 20 → ∀ (zs : Ls) (M : Mm), (zs = [] ∨ ∃ z : Int32, zs = [(7, .int z)]) → Jv (mkP P) msG (M0, e) M → mI M 150 2 = nI (t + k) → Wf l X uX7_feed d true b 23 ([(0, .ref 150), (1, .int x1), (2, .int x2), (3, .int x3), (4, .int x4), (5, .int x5), (6, .int (nI k))] ++ zs) [] M kr := by
  refine dwn _ 20 ?_ ?_
  · intro zs M hz hJ ht
    refine Wf.sub (fun x hx => List.mem_append_left zs hx) ?_
    have k150 : kk M 150 7 = true := kk_ok hJ.2.1 rfl
    refine Wf.sIl tkX7_feed rfl rfl ?_
    refine Wf.sIc tkX7_feed rfl ?_
    refine Wf.sCm (x := nI 20) (y := 20) tkX7_feed rfl (fun _ => ?_) (fun z => absurd (show (20 : Int32) ≤ nI 20 by decide) z)
    refine Wf.sAl tkX7_feed rfl rfl rfl ?_
    refine Wf.sG tkX7_feed rfl k150 ?_
    refine Wf.sIr (v := mI M 150 2) tkX7_feed rfl ?_
    rw [ht]
    exact h M hJ ht
  · intro k hk ih zs M hz hJ ht
    refine Wf.sub (fun x hx => List.mem_append_left zs hx) ?_
    have k150 : kk M 150 7 = true := kk_ok hJ.2.1 rfl
    have k151 : kk M 151 9 = true := kk_ok hJ.2.1 rfl
    have r1 : mR M 150 1 = 151 := List.mem_singleton.mp (hJ.2.1.2.2.1 150 1 (by decide))
    have m1 : (mK M 151).2 = 900 := by rw [hJ.2.1.2.1 151 (by decide)]; rfl
    have on : ∀ w : Int32, Wf l X uX7_feed d true b 76 [(0, .ref 150), (1, .int x1), (2, .int x2), (3, .int x3), (4, .int x4), (5, .int x5), (6, .int (nI k))] [.int w] M kr := by
      intro w
      refine Wf.sIs tkX7_feed rfl rfl ?_
      refine Wf.sAl tkX7_feed rfl rfl rfl ?_
      refine Wf.sG tkX7_feed rfl k150 ?_
      show Wf l X uX7_feed d true _ 82 _ [.ref (mR M 150 1)] M kr
      rw [r1]
      refine Wf.sAl tkX7_feed rfl rfl rfl ?_
      refine Wf.sG tkX7_feed rfl k150 ?_
      refine Wf.sIl tkX7_feed rfl rfl ?_
      refine Wf.sIc tkX7_feed rfl ?_
      refine Wf.sIc tkX7_feed rfl ?_
      refine Wf.sIl tkX7_feed rfl rfl ?_
      refine Wf.sIc tkX7_feed rfl ?_
      refine Wf.stp1 tkX7_feed (o := o2d 95 (fun x y => x - x / y * y)) rfl ⟨by decide, ?_⟩
      refine Wf.s2 (x := 8) (y := nI k - nI k / 4 * 4) tkX7_feed rfl ?_
      refine Wf.s2 (x := 24) (y := 8 * (nI k - nI k / 4 * 4)) tkX7_feed rfl ?_
      refine Wf.s2 (x := w) (y := 24 - 8 * (nI k - nI k / 4 * 4)) tkX7_feed rfl ?_
      refine Wf.sIc tkX7_feed rfl ?_
      refine Wf.s2 (y := 255) tkX7_feed rfl ?_
      show Wf l X uX7_feed d true _ 103 _ [.int _, .int (mI M 150 2), .ref 151] M kr
      refine Wf.sIas (j := t + k) tkX7_feed rfl k151 ⟨ht, by omega, by rw [m1]; omega⟩ ?_
      have hJ1 := Jv.wI (v := w >>> ((24 - 8 * (nI k - nI k / 4 * 4)) &&& 31) &&& 255) (a := 151) (k := t + k) hJ (by
        show (rwB (lkR P 151) (t + k)).1 ≤ _ ∧ _ ≤ (rwB (lkR P 151) (t + k)).2
        rw [hP]
        exact ⟨i32_lo _, i32_hi _⟩) (List.any_eq_true.mpr ⟨(151, 0, 899), by decide, by simp; omega⟩) (by omega)
      have k150 := kk_ok (n := 150) (c := 7) hJ1.2.1 rfl
      refine Wf.sAl tkX7_feed rfl rfl rfl ?_
      refine Wf.sDup tkX7_feed rfl rfl ?_
      refine Wf.sG tkX7_feed rfl k150 ?_
      refine Wf.sIc tkX7_feed rfl ?_
      refine Wf.s2 (x := mI M 150 2) (y := 1) tkX7_feed rfl ?_
      refine Wf.sPI tkX7_feed rfl k150 ?_
      have hJ2 := Jv.wI (v := nI (t + k + 1)) (a := 150) (k := 2) hJ1 (by
        show (rwB (lkR P 150) 2).1 ≤ _ ∧ _ ≤ (rwB (lkR P 150) 2).2
        rw [hP2, nI_toInt (by omega)]
        show (0 : Int) ≤ ((t + k + 1 : Nat) : Int) ∧ ((t + k + 1 : Nat) : Int) ≤ 900
        omega) (by decide) (by decide)
      rw [ht, nI_1]
      refine Wf.sInc tkX7_feed rfl rfl rfl ?_
      refine Wf.sGo tkX7_feed rfl ?_
      rw [nI_1]
      exact ih [(7, .int w)] _ (Or.inr ⟨w, rfl⟩) hJ2 wI_s
    refine Wf.sIl tkX7_feed rfl rfl ?_
    refine Wf.sIc tkX7_feed rfl ?_
    refine Wf.sCm (x := nI k) (y := 20) tkX7_feed rfl (fun z => absurd (show nI 20 ≤ nI k from z) (nI_ge hk (by decide))) (fun _ => ?_)
    refine Wf.sIl tkX7_feed rfl rfl ?_
    refine Wf.sIc tkX7_feed rfl ?_
    refine Wf.sCm tkX7_feed rfl (fun _ => ?_) (fun _ => Wf.sIl tkX7_feed rfl rfl (Wf.sGo tkX7_feed rfl (on _)))
    refine Wf.sIl tkX7_feed rfl rfl ?_
    refine Wf.sIc tkX7_feed rfl ?_
    refine Wf.sCm tkX7_feed rfl (fun _ => ?_) (fun _ => Wf.sIl tkX7_feed rfl rfl (Wf.sGo tkX7_feed rfl (on _)))
    refine Wf.sIl tkX7_feed rfl rfl ?_
    refine Wf.sIc tkX7_feed rfl ?_
    refine Wf.sCm tkX7_feed rfl (fun _ => ?_) (fun _ => Wf.sIl tkX7_feed rfl rfl (Wf.sGo tkX7_feed rfl (on _)))
    refine Wf.sIl tkX7_feed rfl rfl ?_
    refine Wf.sIc tkX7_feed rfl ?_
    refine Wf.sCm tkX7_feed rfl (fun _ => ?_) (fun _ => Wf.sIl tkX7_feed rfl rfl (Wf.sGo tkX7_feed rfl (on _)))
    refine Wf.sIl tkX7_feed rfl rfl ?_
    exact on _
set_option maxRecDepth 20000 in
theorem fd7 {P : List (Nat × List Row)} {e : Int} {t : Nat} {x1 x2 x3 x4 x5 : Int32} (hP : lkR P 151 = []) (hP2 : rwB (lkR P 150) 2 = (0, 900)) (hP0 : rwB (lkR P 150) 0 = (iLo, iHi)) (hI : Iv (mkP P) M) (he : eO e M) (ht : mI M 150 2 = nI t) (h9 : t ≤ 900) (h0 : ∀ M', 880 < t → Jv (mkP P) msG (M, e) M' → mI M' 150 2 = nI t → kr (some (.int (-1))) M') (h1 : ∀ M', t ≤ 880 → Jv (mkP P) msG (M, e) M' → mI M' 150 2 = nI (t + 20) → kr (some (.int (nI (t + 20)))) M') : Ev l X uX7_feed d true 0 0 [.ref 150, .int x1, .int x2, .int x3, .int x4, .int x5] M kr := by
  refine Ev.of (by decide) (Nat.le_of_ble_eq_true rfl) ?_
  have k150 : kk M 150 7 = true := kk_ok hI rfl
  refine Wf.sAl tkX7_feed rfl rfl rfl ?_
  refine Wf.sIc tkX7_feed rfl ?_
  refine Wf.sPI tkX7_feed rfl k150 ?_
  have hJ : Jv (mkP P) msG (M, e) (wI M 150 0 0) := Jv.wI (Jv.rf hI he) (by
    show (rwB (lkR P 150) 0).1 ≤ _ ∧ _ ≤ (rwB (lkR P 150) 0).2
    rw [hP0]
    exact ⟨i32_lo _, i32_hi _⟩) (by decide) (by decide)
  have ht : mI (wI M 150 0 0) 150 2 = nI t := ht
  have k150 : kk (wI M 150 0 0) 150 7 = true := kk_ok hJ.2.1 rfl
  refine Wf.sAl tkX7_feed rfl rfl rfl ?_
  refine Wf.sG tkX7_feed rfl k150 ?_
  refine Wf.sIc tkX7_feed rfl ?_
  refine Wf.s2 (x := mI (wI M 150 0 0) 150 2) (y := 20) tkX7_feed rfl ?_
  refine Wf.sIc tkX7_feed rfl ?_
  have e20 : mI (wI M 150 0 0) 150 2 + 20 = nI (t + 20) := by
    rw [ht]
    refine Int32.toInt_inj.mp ?_
    have e1 : (20 : Int32).toInt = 20 := rfl
    have lo : iLo ≤ -1 := by decide
    have hhi : (1000 : Int) ≤ iHi := by decide
    rw [add_i (by rw [nI_toInt (by omega), e1]; omega) (by rw [nI_toInt (by omega), e1]; omega), nI_toInt (by omega), nI_toInt (by omega), e1]
    omega
  refine Wf.sCm (x := mI (wI M 150 0 0) 150 2 + 20) (y := 900) tkX7_feed rfl (fun z => ?_) (fun z => ?_)
  · have z : mI (wI M 150 0 0) 150 2 + 20 ≤ 900 := z
    rw [e20, Int32.le_iff_toInt_le, nI_toInt (by omega)] at z
    have e9 : (900 : Int32).toInt = 900 := rfl
    have h8 : t ≤ 880 := by omega
    refine Wf.sIc tkX7_feed rfl ?_
    refine Wf.sIs tkX7_feed rfl rfl ?_
    exact fd7_loop hP hP2 h8 (fun M' hJ' ht' => h1 M' h8 hJ' ht') 0 (Nat.zero_le _) [] _ (Or.inl rfl) hJ ht
  · have z : ¬ mI (wI M 150 0 0) 150 2 + 20 ≤ 900 := z
    rw [e20, Int32.le_iff_toInt_le, nI_toInt (by omega)] at z
    have e9 : (900 : Int32).toInt = 900 := rfl
    refine Wf.sIc tkX7_feed rfl ?_
    exact Wf.sIr tkX7_feed rfl (h0 _ (by omega) hJ ht)
end FED
