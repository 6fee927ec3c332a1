/-! the class's isWord -/
section ISW
variable {l : Launch} {X : Nat × (Nat → Int32)} {d : Nat} {M : Mm} {kr : KR} {w : Nat}
set_option maxRecDepth 20000 in
theorem iw_loop {b : Nat × Nat} {s0 n : Nat} (hw : 5000 ≤ w ∧ w < 5042) (hn : (tB (w - 5000)).length = n) (hI : Iv Pt8 M) (hs : mI M 2 5 = nI s0) (hb : s0 + n ≤ 900) (h0 : kr (some (.int 0)) M) (h1 : kr (some (.int 1)) M) : ∀ i, i ≤ n → Wf l X uX4_isWord (d + 5) true b 28 [(0, .ref 2), (1, .ref w), (2, .int (nI i))] [] M kr := by
  have p0 : Nat.blt 0 w = true := Nat.ble_eq_true_of_le (by omega)
  have k2 : kk M 2 4 = true := kk_ok hI (by decide +kernel)
  have k3 : kk M 3 8 = true := kk_ok hI (by decide +kernel)
  have r3 : mR M 2 0 = 3 := List.mem_singleton.mp (hI.2.2.1 2 0 (by decide))
  have m3 : (mK M 3).2 = 900 := by rw [hI.2.1 3 (by decide)]; rfl
  refine dwn _ n ?_ ?_
  · refine Wf.sIl tkX4_isWord rfl rfl ?_
    refine Wf.sAl tkX4_isWord rfl rfl p0 ?_
    refine Wf.sCq (rest := [.int (nI n)]) tkX4_isWord rfl rfl hw rfl ?_
    refine k_len (d := d + 3) hw ?_
    rw [hn]
    refine Wf.sCm (x := nI n) (y := nI n) tkX4_isWord rfl (fun _ => ?_) (fun z => absurd (Int32.le_refl _) z)
    refine Wf.sIc tkX4_isWord rfl ?_
    exact Wf.sZr tkX4_isWord rfl (Or.inr rfl) h1
  · intro i hi hW
    refine Wf.sIl tkX4_isWord rfl rfl ?_
    refine Wf.sAl tkX4_isWord rfl rfl p0 ?_
    refine Wf.sCq (rest := [.int (nI i)]) tkX4_isWord rfl rfl hw rfl ?_
    refine k_len (d := d + 3) hw ?_
    rw [hn]
    refine Wf.sCm (x := nI i) (y := nI n) tkX4_isWord rfl (fun z => absurd z (nI_ge hi (by omega))) (fun _ => ?_)
    refine Wf.sAl tkX4_isWord rfl rfl rfl ?_
    refine Wf.sG tkX4_isWord rfl k2 ?_
    show Wf l X uX4_isWord (d + 5) true b 40 _ [.ref (mR M 2 0)] M kr
    rw [r3]
    refine Wf.sAl tkX4_isWord rfl rfl rfl ?_
    refine Wf.sG tkX4_isWord rfl k2 ?_
    show Wf l X uX4_isWord (d + 5) true b 44 _ [.int (mI M 2 5), .ref 3] M kr
    rw [hs]
    refine Wf.sIl tkX4_isWord rfl rfl ?_
    refine Wf.s2 tkX4_isWord rfl ?_
    refine Wf.sBal (j := s0 + i) tkX4_isWord rfl k3 ⟨nI_add s0 i, by omega, by rw [m3]; omega⟩ ?_
    refine Wf.sAl tkX4_isWord rfl rfl p0 ?_
    refine Wf.sIl tkX4_isWord rfl rfl ?_
    refine Wf.sCq (rest := [.int (mI M 3 (s0 + i))]) tkX4_isWord rfl rfl hw rfl ?_
    refine k_char (d := d + 1) hw (by rw [hn]; exact hi) (fun k => ?_)
    refine Wf.sCm (x := mI M 3 (s0 + i)) (y := nI k.val) tkX4_isWord rfl (fun _ => ?_) (fun _ => ?_)
    · refine Wf.sInc tkX4_isWord rfl rfl rfl ?_
      refine Wf.sGo tkX4_isWord rfl ?_
      rw [nI_1]
      exact hW
    · refine Wf.sIc tkX4_isWord rfl ?_
      exact Wf.sZr tkX4_isWord rfl (Or.inl rfl) h0
theorem gps_b {av : List Value} {M : Mm} {r : Int32} (h : r = 0 ∨ r = 1) : gps av (some (.int r)) M [(some (0, 0, 0, []), [], []), (some (0, 1, 1, []), [], [])] := by
  rcases h with rfl | rfl
  · exact ⟨_, List.mem_cons_self, ⟨rfl, by decide, by decide⟩, fun x hx => absurd hx List.not_mem_nil, fun x hx => absurd hx List.not_mem_nil⟩
  · exact ⟨_, List.mem_cons_of_mem _ (List.mem_singleton.mpr rfl), ⟨rfl, by decide, by decide⟩, fun x hx => absurd hx List.not_mem_nil, fun x hx => absurd hx List.not_mem_nil⟩
set_option maxRecDepth 20000 in
theorem vh_isWord {e : Int} (d : Nat) : Vc l X U0 Pt8 e (d + 5) ((28, [(2, 0, 0, [2]), (2, 0, 0, [5000, 5001, 5002, 5003, 5004, 5005, 5006, 5007, 5008, 5009, 5010, 5011, 5012, 5013, 5014, 5015, 5016, 5017, 5018, 5019, 5020])], []), [], [(some (0, 0, 0, []), [], []), (some (0, 1, 1, []), [], [])]) := by
  intro av M kr hI he hb hf hr
  obtain ⟨v, t, rfl, hv, ht⟩ := gbs_1 hb
  obtain ⟨v2, t, rfl, hv2, ht2⟩ := gbs_1 ht
  obtain rfl := gbs_0 ht2
  obtain rfl := gb_r1 hv
  obtain ⟨w, rfl, hm⟩ := gb_r hv2
  have hw : 5000 ≤ w ∧ w < 5042 := by
    have := List.all_eq_true.mp (show ([5000, 5001, 5002, 5003, 5004, 5005, 5006, 5007, 5008, 5009, 5010, 5011, 5012, 5013, 5014, 5015, 5016, 5017, 5018, 5019, 5020] : List Nat).all (fun n => decide (5000 ≤ n ∧ n < 5042)) = true by decide) w hm
    exact of_decide_eq_true this
  have h0 : kr (some (.int 0)) M := hr _ M (Jv.rf hI he) (gps_b (Or.inl rfl))
  have h1 : kr (some (.int 1)) M := hr _ M (Jv.rf hI he) (gps_b (Or.inr rfl))
  have p0 : Nat.blt 0 w = true := Nat.ble_eq_true_of_le (by omega)
  have k2 : kk M 2 4 = true := kk_ok hI (by decide +kernel)
  have b5 : (0 : Int) ≤ (mI M 2 5).toInt ∧ (mI M 2 5).toInt ≤ 900 := hI.2.2.2 2 5 (by decide)
  have b6 : (0 : Int) ≤ (mI M 2 6).toInt ∧ (mI M 2 6).toInt ≤ 900 := hI.2.2.2 2 6 (by decide)
  have hl := (len7 ⟨w - 5000, by omega⟩).1
  have hl : (tB (w - 5000)).length ≤ 7 := hl
  show Ev l X uX4_isWord (d + 5) true 0 0 _ M kr
  refine Ev.of (by decide) (Nat.le_of_ble_eq_true rfl) ?_
  have ret0 : ∀ ls, Wf l X uX4_isWord (d + 5) true (mC M + 0, mS M + 0) 24 ls [] M kr := by
    intro ls
    refine Wf.sIc tkX4_isWord rfl ?_
    exact Wf.sZr tkX4_isWord rfl (Or.inl rfl) h0
  refine Wf.sAl tkX4_isWord rfl rfl rfl ?_
  refine Wf.sG tkX4_isWord rfl k2 ?_
  refine Wf.sIc tkX4_isWord rfl ?_
  refine Wf.sCm (x := mI M 2 4) (y := 1) tkX4_isWord rfl (fun _ => ret0 _) (fun _ => ?_)
  refine Wf.sAl tkX4_isWord rfl rfl rfl ?_
  refine Wf.sG tkX4_isWord rfl k2 ?_
  refine Wf.sAl tkX4_isWord rfl rfl rfl ?_
  refine Wf.sG tkX4_isWord rfl k2 ?_
  refine Wf.s2 (x := mI M 2 6) (y := mI M 2 5) tkX4_isWord rfl ?_
  refine Wf.sAl tkX4_isWord rfl rfl p0 ?_
  refine Wf.sCq (rest := [.int (mI M 2 6 - mI M 2 5)]) tkX4_isWord rfl rfl hw rfl ?_
  refine k_len (d := d + 3) hw ?_
  refine Wf.sCm (x := mI M 2 6 - mI M 2 5) (y := nI (tB (w - 5000)).length) tkX4_isWord rfl (fun hq => ?_) (fun _ => ret0 _)
  refine Wf.sIc tkX4_isWord rfl ?_
  refine Wf.sIs tkX4_isWord rfl rfl ?_
  have es : mI M 2 5 = nI (mI M 2 5).toInt.toNat := nI_at (by omega) (by omega)
  have hq2 : (mI M 2 6 - mI M 2 5).toInt = (nI (tB (w - 5000)).length).toInt := congrArg Int32.toInt hq
  have lo : iLo ≤ -900 := by decide
  have hi : (900 : Int) ≤ iHi := by decide
  rw [sub_i (by omega) (by omega), nI_toInt (by omega)] at hq2
  exact iw_loop hw rfl hI es (by omega) h0 h1 0 (Nat.zero_le _)
end ISW
