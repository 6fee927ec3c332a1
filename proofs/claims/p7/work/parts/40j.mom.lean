def cX1 (D : Dl) (a : Nat) : Dl := fa (fa (fa (dR (dM D) a 0 (D.length + 1)) a 9 6 1) a 9 5 2) a 9 5 3
theorem kps_dR {D D2 : Dl} {a i v : Nat} (h : kps D D2) : kps D (dR D2 a i v) := fun a c n z => sl4_dR (h a c n z)
theorem kps_tr {D D2 D3 : Dl} (h : kps D D2) (h2 : kps D2 D3) : kps D D3 := fun a c n z => h2 a c n (h a c n z)
theorem kps_1 {D : Dl} {a : Nat} : kps D (cX1 D a) := kps_fa (kps_fa (kps_fa (kps_dR kps_dM)))
theorem len_1 {D : Dl} {a : Nat} : (cX1 D a).length = D.length + 10 := by unfold cX1; simp only [fa_len, dR_len, dM_len]
/-- a Moment more in the array K, at its place i -/
def fm (D : Dl) (K i : Nat) : Dl := dR (cX2 (dA D 2 0 6) (D.length + 1)) K i (D.length + 1)
theorem fm_len {D : Dl} {K i : Nat} : (fm D K i).length = D.length + 5 := by unfold fm; rw [dR_len, len_2, dA_len]
theorem kps_fm {D : Dl} {K i : Nat} : kps D (fm D K i) := kps_dR (kps_tr kps_dA kps_2)
theorem rd_fm {D : Dl} {K i a j : Nat} (h : a ≠ K) (hK : 0 < K) (ha : a ≤ D.length) : rd (fm D K i) a j = rd D a j := by
  unfold fm cX2
  have e : a ≠ D.length + 1 := by omega
  rw [rd_dR h hK, rd_fa e (by omega) (by simp only [fa_len, dA_len]; omega), rd_fa e (by omega) (by simp only [fa_len, dA_len]; omega), rd_fa e (by omega) (by simp only [fa_len, dA_len]; omega), rd_fa e (by omega) (by rw [dA_len]; omega), rd_dA ha]
def lpD : Nat → Nat → Dl → Nat → Dl
  | 0, _, D, _ => D
  | n + 1, i, D, K => lpD n (i + 1) (fm D K i) K
section LOOPM
variable {l : Launch} {X : Nat × (Nat → Int32)} {q : Md} {d : Nat} {b : Nat × Nat} {kr : KR}
set_option maxRecDepth 20000 in
theorem lp_mom {a K N E f p0 p1 p2 p3 p4 p5 p6 p7 p8 p9 p10 p11 pe w : Nat} (o0 : OK l X q (d + 2) false b p0 (oIl p0 1 1)) (o1 : OK l X q (d + 2) false b p1 (oIc p1 w (nI E))) (o2 : OK l X q (d + 2) false b p2 (oCm p2 pe (fun x y => y ≤ x) (fun x y => ¬ y ≤ x))) (o3 : OK l X q (d + 2) false b p3 (oAl p3 1 0)) (o4 : OK l X q (d + 2) false b p4 (oG p4 6 f 2)) (o5 : OK l X q (d + 2) false b p5 (oIl p5 1 1)) (o6 : OK l X q (d + 2) false b p6 (oNew b p6 2 6)) (o7 : OK l X q (d + 2) false b p7 (oDup p7)) (o8 : OK l X q (d + 2) false b p8 (oCi l X (d + 1) b p8 uX2_init 2 4 23)) (o9 : OK l X q (d + 2) false b p9 (oAas p9)) (o10 : OK l X q (d + 2) false b p10 (oInc p10 1 1)) (o11 : OK l X q (d + 2) false b p11 (oGo p0))
    (e1 : p0 + 1 = p1) (e2 : p1 + w = p2) (e3 : p2 + 3 = p3) (e4 : p3 + 1 = p4) (e5 : p4 + 3 = p5) (e6 : p5 + 1 = p6) (e7 : p6 + 3 = p7) (e8 : p7 + 1 = p8) (e9 : p8 + 3 = p9) (e10 : p9 + 1 = p10) (e11 : p10 + 3 = p11) (hE : E < 1000) (haK : a ≠ K) :
    ∀ (n i : Nat) (D : Dl) (s : Nat), i + n = E → slf D a 6 N → sl4 D K (11, E) E → rd D a f = K → D.length + 5 * n ≤ 4000 → D.length + 5 * n ≤ b.1 → s + 29 * n ≤ b.2 → Wf l X q (d + 2) false b pe [(0, .ref a), (1, .int (nI E))] [] (mkD (lpD n i D K) (s + 29 * n) I00) kr → Wf l X q (d + 2) false b p0 [(0, .ref a), (1, .int (nI i))] [] (mkD D s I00) kr := by
  subst e1 e2 e3 e4 e5 e6 e7 e8 e9 e10 e11
  intro n
  induction n with
  | zero =>
    intro i D s hi hs hK hr hn hb1 hb2 k
    have hi : i = E := by omega
    subst hi
    refine o0.go ?_
    refine o1.go ?_
    refine o2.go ?_
    exact ⟨fun _ => k, fun z => absurd (nI_le (Nat.le_refl _) (by omega)) z⟩
  | succ n ih =>
    intro i D s hi hs hK hr hn hb1 hb2 k
    have ha := hs.2.1
    have hKl := hK.2.1
    refine o0.go ?_
    refine o1.go ?_
    refine o2.go ?_
    refine ⟨fun z => absurd z (nI_ge (by omega) (by omega)), fun _ => ?_⟩
    refine go_a0 o3 rfl hs.1 ?_
    refine o4.go ?_
    show cond (kk (mkD D s I00) a 6) (Wf l X q (d + 2) false b (p0 + 1 + w + 3 + 1 + 3) [(0, .ref a), (1, .int (nI i))] [.ref (rd D a f)] (mkD D s I00) kr) False
    rw [kk_D ⟨hs.1, hs.2.1, hs.2.2.1⟩, hr]
    refine o5.go ?_
    refine o6.go ?_
    show cond (ro b (mkD D s I00) [(0, .ref a), (1, .int (nI i))] [.int (nI i), .ref K] 1 6) (Wf l X q (d + 2) false b (p0 + 1 + w + 3 + 1 + 3 + 1 + 3) [(0, .ref a), (1, .int (nI i))] (.ref (D.length + 1) :: [.int (nI i), .ref K]) (wA (mkD D s I00) (2, 0) 6) kr) False
    rw [ro_D (by omega) (by rw [List.all_cons, rk_le ha]; rfl) (by rw [List.all_cons, List.all_cons, rk_le hKl]; rfl) (by omega) (by omega)]
    show Wf l X q (d + 2) false b (p0 + 1 + w + 3 + 1 + 3 + 1 + 3) [(0, .ref a), (1, .int (nI i))] (.ref (D.length + 1) :: [.int (nI i), .ref K]) (wA (mkD D s I00) (2, 0) 6) kr
    rw [wA_D (z := 6) (fun _ => rfl)]
    refine o7.go ?_
    show Wf l X q (d + 2) false b (p0 + 1 + w + 3 + 1 + 3 + 1 + 3 + 1) [(0, .ref a), (1, .int (nI i))] (.ref (D.length + 1) :: .ref (D.length + 1) :: [.int (nI i), .ref K]) (mkD (dA D 2 0 6) (s + 6) I00) kr
    refine o8.go ?_
    have hnew := slf_new (D := D) (c := 2) (n := 6)
    show cond (ri b (mkD (dA D 2 0 6) (s + 6) I00) [(0, .ref a), (1, .int (nI i))] [.ref (D.length + 1), .int (nI i), .ref K] (D.length + 1) 2 4 23) (Ev l X uX2_init (d + 1) false 4 23 [.ref (D.length + 1)] (mkD (dA D 2 0 6) (s + 6) I00) (fun r M' => (mC M' = (dA D 2 0 6).length + 4 ∧ mS M' = s + 6 + 23) ∧ Wf l X q (d + 2) false b (p0 + 1 + w + 3 + 1 + 3 + 1 + 3 + 1 + 3) [(0, .ref a), (1, .int (nI i))] (r.toList ++ [.ref (D.length + 1), .int (nI i), .ref K]) M' kr)) False
    have hri : ri b (mkD (dA D 2 0 6) (s + 6) I00) [(0, .ref a), (1, .int (nI i))] [.ref (D.length + 1), .int (nI i), .ref K] (D.length + 1) 2 4 23 = true := by
      unfold ri
      rw [Bool.and_eq_true_iff, Bool.and_eq_true_iff, Bool.and_eq_true_iff, Bool.and_eq_true_iff, Bool.and_eq_true_iff]
      refine ⟨⟨kk_D ⟨hnew.1, hnew.2.1, hnew.2.2.1⟩, rfl⟩, ?_, ?_, ?_, ?_⟩
      · show ([(0, .ref a), (1, .int (nI i))] : Ls).all (fun x => rk (dA D 2 0 6).length x.2) = true
        rw [dA_len, List.all_cons, rk_le (by omega)]; rfl
      · show ([.ref (D.length + 1), .int (nI i), .ref K] : List Value).all (rk (dA D 2 0 6).length) = true
        rw [dA_len, List.all_cons, List.all_cons, List.all_cons, rk_le (Nat.le_refl _), rk_le (show K ≤ D.length + 1 by omega)]; rfl
      · exact Nat.ble_eq_true_of_le (by show (dA D 2 0 6).length + 4 ≤ b.1; rw [dA_len]; omega)
      · exact Nat.ble_eq_true_of_le (by show s + 6 + 23 ≤ b.2; omega)
    rw [hri]
    refine sX2_init hnew (by rw [dA_len]; omega) ⟨⟨by show (cX2 (dA D 2 0 6) (D.length + 1)).length = _; rw [len_2], by show s + 6 + 6 + 6 + 6 + 5 = _; omega⟩, ?_⟩
    show Wf l X q (d + 2) false b (p0 + 1 + w + 3 + 1 + 3 + 1 + 3 + 1 + 3) [(0, .ref a), (1, .int (nI i))] [.ref (D.length + 1), .int (nI i), .ref K] (mkD (cX2 (dA D 2 0 6) (D.length + 1)) (s + 6 + 6 + 6 + 6 + 5) I00) kr
    refine o9.go ?_
    have hm : sl4 (cX2 (dA D 2 0 6) (D.length + 1)) (D.length + 1) (2, 0) 6 := kps_2 _ _ _ hnew
    have hK2 : sl4 (cX2 (dA D 2 0 6) (D.length + 1)) K (11, E) E := kps_2 _ _ _ (kps_dA _ _ _ hK)
    show cond (kk (mkD (cX2 (dA D 2 0 6) (D.length + 1)) (s + 6 + 6 + 6 + 6 + 5) I00) K 11 && kk (mkD (cX2 (dA D 2 0 6) (D.length + 1)) (s + 6 + 6 + 6 + 6 + 5) I00) (D.length + 1) 2) (∃ j : Nat, (nI i = nI j ∧ j < 1000 ∧ j < (kd (cX2 (dA D 2 0 6) (D.length + 1)) K).2) ∧ Wf l X q (d + 2) false b (p0 + 1 + w + 3 + 1 + 3 + 1 + 3 + 1 + 3 + 1) [(0, .ref a), (1, .int (nI i))] [] (wR (mkD (cX2 (dA D 2 0 6) (D.length + 1)) (s + 6 + 6 + 6 + 6 + 5) I00) K j (D.length + 1)) kr) False
    rw [kk_D ⟨hK2.1, hK2.2.1, hK2.2.2.1⟩, kk_D ⟨hm.1, hm.2.1, hm.2.2.1⟩]
    refine ⟨i, ⟨rfl, by omega, by rw [hK2.2.2.1]; show i < E; omega⟩, ?_⟩
    rw [wR_D hK2.1 hK2.2.1 (by rw [hK2.2.2.2]; omega)]
    refine o10.go ?_
    show Wf l X q (d + 2) false b (p0 + 1 + w + 3 + 1 + 3 + 1 + 3 + 1 + 3 + 1 + 3) [(0, .ref a), (1, .int (nI i + 1))] [] (mkD (fm D K i) (s + 6 + 6 + 6 + 6 + 5) I00) kr
    rw [nI_1]
    refine o11.go ?_
    show Wf l X q (d + 2) false b p0 [(0, .ref a), (1, .int (nI (i + 1)))] [] (mkD (fm D K i) (s + 6 + 6 + 6 + 6 + 5) I00) kr
    refine ih (i + 1) (fm D K i) (s + 6 + 6 + 6 + 6 + 5) (by omega) (kps_fm a (6, 0) N hs) (kps_fm K (11, E) E hK) (by rw [rd_fm haK hK.1 ha]; exact hr) (by rw [fm_len]; omega) (by rw [fm_len]; omega) (by omega) ?_
    rw [show s + 6 + 6 + 6 + 6 + 5 + 29 * n = s + 29 * (n + 1) by omega]
    exact k
end LOOPM
section SIX
variable {l : Launch} {X : Nat × (Nat → Int32)} {d : Nat} {kr : KR}
set_option maxRecDepth 20000 in
theorem sX1_init {D : Dl} {s a : Nat} (hs : slf D a 1 9) (hn : D.length + 10 ≤ 4000) (h : kr none (mkD (cX1 D a) (s + 36 + 6 + 5 + 5) I00)) : Ev l X uX1_init (d + 1) false 10 52 [.ref a] (mkD D s I00) kr := by
  have ha := hs.2.1
  refine Ev.of (by decide) (Nat.le_of_ble_eq_true rfl) ?_
  show Wf l X uX1_init (d + 1) false (D.length + 10, s + 52) 0 [(0, .ref a)] [] (mkD D s I00) kr
  refine ch_oi (tkX1_init (0, oAl 0 1 0) (List.mem_of_getElem? (i := 0) rfl)) (tkX1_init (1, oOi 1) (List.mem_of_getElem? (i := 1) rfl)) rfl rfl hs rfl ?_
  refine ch_mul (tkX1_init (4, oAl 4 1 0) (List.mem_of_getElem? (i := 2) rfl)) (tkX1_init (5, oIc 5 2 6) (List.mem_of_getElem? (i := 3) rfl)) (tkX1_init (7, oIc 7 1 5) (List.mem_of_getElem? (i := 4) rfl)) (tkX1_init (8, oN2 (D.length + 10, s + 52) 8) (List.mem_of_getElem? (i := 5) rfl)) (tkX1_init (12, oPR 12 1 0) (List.mem_of_getElem? (i := 6) rfl)) rfl rfl rfl rfl rfl hs (by decide) rfl (als ha) (by omega) ⟨by show D.length + 7 ≤ D.length + 10; omega, by show s + 36 ≤ s + 52; omega⟩ ?_
  have hs1 : slf (dR (dM D) a 0 (D.length + 1)) a 1 9 := kps_dR kps_dM a (1, 0) 9 hs
  have e1 : (dR (dM D) a 0 (D.length + 1)).length = D.length + 7 := by rw [dR_len, dM_len]
  refine ch_arr (tkX1_init (15, oAl 15 1 0) (List.mem_of_getElem? (i := 7) rfl)) (tkX1_init (16, oIc 16 2 6) (List.mem_of_getElem? (i := 8) rfl)) (tkX1_init (18, oNa (D.length + 10, s + 52) 18 9 6 6) (List.mem_of_getElem? (i := 9) rfl)) (tkX1_init (20, oPR 20 1 1) (List.mem_of_getElem? (i := 10) rfl)) rfl rfl rfl rfl (fun _ => rfl) (hs1) (by decide) rfl (als (by simp only [fa_len, e1]; omega)) (by simp only [fa_len, e1]; omega) (by simp only [fa_len, e1]; omega) ?_
  refine ch_arr (tkX1_init (23, oAl 23 1 0) (List.mem_of_getElem? (i := 11) rfl)) (tkX1_init (24, oIc 24 1 5) (List.mem_of_getElem? (i := 12) rfl)) (tkX1_init (25, oNa (D.length + 10, s + 52) 25 9 5 5) (List.mem_of_getElem? (i := 13) rfl)) (tkX1_init (27, oPR 27 1 2) (List.mem_of_getElem? (i := 14) rfl)) rfl rfl rfl rfl (fun _ => rfl) (slf_fa (hs1)) (by decide) rfl (als (by simp only [fa_len, e1]; omega)) (by simp only [fa_len, e1]; omega) (by simp only [fa_len, e1]; omega) ?_
  refine ch_arr (tkX1_init (30, oAl 30 1 0) (List.mem_of_getElem? (i := 15) rfl)) (tkX1_init (31, oIc 31 1 5) (List.mem_of_getElem? (i := 16) rfl)) (tkX1_init (32, oNa (D.length + 10, s + 52) 32 9 5 5) (List.mem_of_getElem? (i := 17) rfl)) (tkX1_init (34, oPR 34 1 3) (List.mem_of_getElem? (i := 18) rfl)) rfl rfl rfl rfl (fun _ => rfl) (slf_fa (slf_fa (hs1))) (by decide) rfl (als (by simp only [fa_len, e1]; omega)) (by simp only [fa_len, e1]; omega) (by simp only [fa_len, e1]; omega) ?_
  refine OK.go (tkX1_init (37, oVr) (List.mem_of_getElem? (i := 19) rfl)) ?_
  exact h
end SIX
