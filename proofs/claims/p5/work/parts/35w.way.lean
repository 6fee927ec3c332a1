/-! the reference's wayAt: its trouble is no 4 -/
section WAY5
variable {l : Launch} {X : Nat × (Nat → Int32)} {d : Nat} {M : Mm} {kr : KR} {R : List (Nat × List Row)} {e : Int}
def wyO5 (l : Launch) (X : Nat × (Nat → Int32)) (R : List (Nat × List Row)) (e : Int) (d : Nat) : Prop := (∀ (M : Mm) (kr : KR), Iv (mkP R) M → e ≤ (mI M 150 5).toInt → (∀ M', Jv (mkP R) [(150, 0, 0), (150, 11, 11)] (M, e) M' → ¬ mI M' 150 11 = 4 → kr none M') → Ev l X uX7_good d true 0 0 [.ref 150] M kr) ∧ (∀ (w : Int32) (M : Mm) (kr : KR), w = 1 ∨ w = 2 → Iv (mkP R) M → e ≤ (mI M 150 5).toInt → (∀ M', Jv (mkP R) [(150, 11, 11)] (M, e) M' → ¬ mI M' 150 11 = 4 → kr (some (.int (-1))) M') → Ev l X uX7_no d true 0 0 [.ref 150, .int w] M kr) ∧ (∀ (w : Int32) (M : Mm) (kr : KR), Iv (mkP R) M → e ≤ (mI M 150 5).toInt → (∀ M', Jv (mkP R) [] (M, e) M' → kr (some (.int 0)) M') → (∀ M', Jv (mkP R) [] (M, e) M' → 0 ≤ w.toInt → w.toInt ≤ 3 → kr (some (.int 1)) M') → Ev l X uX7_isWalker d true 0 0 [.ref 150, .int w] M kr)
set_option maxRecDepth 20000 in
theorem wa_ev5 {w1 n1 i1 : Int32} (hR : wyR R) (hO : wyO5 l X R e (d + 5)) (hD : wyD l X R e (d + 4)) (hI : Iv (mkP R) M) (he : e ≤ (mI M 150 5).toInt) (h : ∀ (r : Int32) (M' : Mm), Jv (mkP R) [(150, 0, 0), (150, 11, 11), (150, 26, 26), (160, 0, 4), (161, 0, 24), (164, 0, 19)] (M, e) M' → ¬ mI M' 150 11 = 4 → kr (some (.int r)) M') : Ev l X uX7_wayAt (d + 6) true 0 0 [.ref 150, .int w1, .int n1, .int i1] M kr := by
  have k150 : kk M 150 7 = true := kk_ok hI rfl
  refine Ev.of (by decide) (Nat.le_of_ble_eq_true rfl) ?_
  have hJ0 : Jv (mkP R) [(150, 0, 0), (150, 11, 11), (150, 26, 26), (160, 0, 4), (161, 0, 24), (164, 0, 19)] (M, e) M := Jv.rf hI he
  have noo : ∀ (Mx : Mm) (pc : Nat) (a : Int32) (ls : Ls), a = 1 ∨ a = 2 → Jv (mkP R) [(150, 0, 0), (150, 11, 11), (150, 26, 26), (160, 0, 4), (161, 0, 24), (164, 0, 19)] (M, e) Mx → lo (tbX7_wayAt l X (d + 5)) pc = oCv l X (d + 5) pc uX7_no 7 1 → lo (tbX7_wayAt l X (d + 5)) (pc + 3) = oIr → Wf l X uX7_wayAt (d + 6) true (mC M + 0, mS M + 0) pc ls [.int a, .ref 150] Mx kr := by
    intro Mx pc a ls ha hJx h1 h2
    have k150 : kk Mx 150 7 = true := kk_ok hJx.2.1 rfl
    refine Wf.sCv (as := [.int a]) (rest := []) tkX7_wayAt h1 rfl k150 rfl ?_
    refine hO.2.1 a Mx _ ha hJx.2.1 hJx.2.2.2 (fun M' hJ' ht' => ?_)
    exact Wf.sIr tkX7_wayAt h2 (h _ M' (Jv_tr hJx hJ' (by decide)) ht')
  refine Wf.sAl tkX7_wayAt rfl rfl rfl ?_
  refine Wf.sCv (as := []) (rest := []) tkX7_wayAt rfl rfl k150 rfl ?_
  refine hO.1 M _ hI he (fun M1 hJ1 t1 => ?_)
  have hJ1' := Jv_tr hJ0 hJ1 (by decide)
  have k150 : kk M1 150 7 = true := kk_ok hJ1.2.1 rfl
  refine Wf.sAl tkX7_wayAt rfl rfl rfl ?_
  refine Wf.sIl tkX7_wayAt rfl rfl ?_
  refine Wf.sCv (as := [.int w1]) (rest := []) tkX7_wayAt rfl rfl k150 rfl ?_
  refine hO.2.2 w1 M1 _ hJ1.2.1 hJ1.2.2.2 (fun M2 hJ2 => ?_) (fun M2 hJ2 hw1 hw2 => ?_)
  · refine Wf.sIf tkX7_wayAt rfl (fun z => absurd rfl z) (fun _ => ?_)
    refine Wf.sAl tkX7_wayAt rfl rfl rfl ?_
    refine Wf.sIc tkX7_wayAt rfl ?_
    exact noo M2 14 _ _ (Or.inl rfl) (Jv_tr hJ1' hJ2 (by decide)) rfl rfl
  have hJ2' := Jv_tr hJ1' hJ2 (by decide)
  have k150 : kk M2 150 7 = true := kk_ok hJ2.2.1 rfl
  refine Wf.sIf tkX7_wayAt rfl (fun _ => ?_) (fun z => absurd z (by decide))
  refine Wf.sIl tkX7_wayAt rfl rfl ?_
  refine Wf.sIc tkX7_wayAt rfl ?_
  refine Wf.sIc tkX7_wayAt rfl ?_
  refine Wf.sCs (as := [.int n1, .int 1, .int 60]) (rest := []) tkX7_wayAt rfl rfl rfl ?_
  refine k_inB ?_
  cases b1 : inB n1 1 60 with
  | false =>
    refine Wf.sIf tkX7_wayAt rfl (fun z => absurd rfl z) (fun _ => ?_)
    refine Wf.sAl tkX7_wayAt rfl rfl rfl ?_
    refine Wf.sIc tkX7_wayAt rfl ?_
    exact noo M2 30 _ _ (Or.inr rfl) hJ2' rfl rfl
  | true =>
  refine Wf.sIf tkX7_wayAt rfl (fun _ => ?_) (fun z => absurd z (by decide))
  have ew : w1 = nI w1.toInt.toNat := nI_at (by omega) (by omega)
  refine Wf.sAl tkX7_wayAt rfl rfl rfl ?_
  refine Wf.sIl tkX7_wayAt rfl rfl ?_
  refine Wf.sIl tkX7_wayAt rfl rfl ?_
  refine Wf.sCv (as := [.int w1, .int n1]) (rest := []) tkX7_wayAt rfl rfl k150 rfl ?_
  have way : Ev l X uX7_wayOf (d + 5) true 0 0 [.ref 150, .int (nI w1.toInt.toNat), .int n1] M2 (fun r M' => Wf l X uX7_wayAt (d + 6) true (mC M + 0, mS M + 0) (37 + 3) [(0, .ref 150), (1, .int w1), (2, .int n1), (3, .int i1)] (r.toList ++ []) M' kr) := by
    refine wo_ev (d := d + 1) hR hD hJ2.2.1 hJ2.2.2.2 (by omega) (fun M3 M4 to fr c hI3 hJ4 hy hL hF hto hfr efr hc => ?_)
    have hJ4' := Jv_tr hJ2' hJ4 (by decide)
    have k150 : kk M4 150 7 = true := kk_ok hJ4.2.1 rfl
    have k153 : kk M4 153 9 = true := kk_ok hJ4.2.1 rfl
    have r15 : mR M4 150 15 = 153 := List.mem_singleton.mp (hJ4.2.1.2.2.1 150 15 (by decide))
    have m153 : (mK M4 153).2 = 202 := by rw [hJ4.2.1.2.1 153 (by decide)]; rfl
    refine Wf.sIs tkX7_wayAt rfl rfl ?_
    refine Wf.sIl tkX7_wayAt rfl rfl ?_
    refine Wf.sIf tkX7_wayAt rfl (fun _ => ?_) (fun hc0 => ?_)
    · refine Wf.sAl tkX7_wayAt rfl rfl rfl ?_
      refine Wf.sIc tkX7_wayAt rfl ?_
      exact noo M4 65 _ _ (Or.inl rfl) hJ4' rfl rfl
    have hc0 : ¬ c < 0 := hc0
    have hc1 : c = mI M4 164 fr ∧ cw M4 fr < 100000000 := by
      rcases hc with z | z
      · rw [z] at hc0
        exact absurd (by decide) hc0
      · exact z
    have cb := hL.1 fr hfr
    have ec : c.toInt = cw M4 fr := by rw [hc1.1]; rfl
    refine Wf.sIl tkX7_wayAt rfl rfl ?_
    refine Wf.sIc tkX7_wayAt rfl ?_
    refine Wf.sIl tkX7_wayAt rfl rfl ?_
    refine Wf.sIc tkX7_wayAt rfl ?_
    refine Wf.stp1 tkX7_wayAt (o := o2d 54 (fun x y => x - x / y * y)) rfl ⟨by decide, ?_⟩
    refine Wf.sIc tkX7_wayAt rfl ?_
    refine Wf.s2 (x := c - c / 1000 * 1000) (y := 1) tkX7_wayAt rfl ?_
    refine Wf.sCs (as := [.int i1, .int 0, .int (c - c / 1000 * 1000 - 1)]) (rest := []) tkX7_wayAt rfl rfl rfl ?_
    refine k_inB ?_
    cases b2 : inB i1 0 (c - c / 1000 * 1000 - 1) with
    | false =>
      refine Wf.sIf tkX7_wayAt rfl (fun z => absurd rfl z) (fun _ => ?_)
      refine Wf.sAl tkX7_wayAt rfl rfl rfl ?_
      refine Wf.sIc tkX7_wayAt rfl ?_
      exact noo M4 65 _ _ (Or.inl rfl) hJ4' rfl rfl
    | true =>
    refine Wf.sIf tkX7_wayAt rfl (fun _ => ?_) (fun z => absurd z (by decide))
    have hi : 0 ≤ i1.toInt ∧ i1.toInt < c.toInt % 1000 := by
      unfold inB at b2
      obtain ⟨q1, q2⟩ := andT b2
      have q1 := of_decide_eq_true q1
      have q2 := of_decide_eq_true q2
      rw [Int32.lt_iff_toInt_lt] at q1 q2
      have e0 : (0 : Int32).toInt = 0 := rfl
      have e1 : (1 : Int32).toInt = 1 := rfl
      have er := rem1000 (x := c) (by omega)
      have lo : iLo ≤ -1 := by decide
      have hhi : (1000 : Int) ≤ iHi := by decide
      rw [sub_i (by rw [er, e1]; omega) (by rw [er, e1]; omega), er, e1] at q2
      omega
    have ei : i1 = nI i1.toInt.toNat := nI_at (by omega) (by omega)
    refine Wf.sAl tkX7_wayAt rfl rfl rfl ?_
    refine Wf.sG tkX7_wayAt rfl k150 ?_
    show Wf l X uX7_wayAt (d + 6) true _ 73 _ [.ref (mR M4 150 15)] M4 kr
    rw [r15]
    refine Wf.sIc tkX7_wayAt rfl ?_
    refine Wf.sIc tkX7_wayAt rfl ?_
    refine Wf.sIl tkX7_wayAt rfl rfl ?_
    show Wf l X uX7_wayAt (d + 6) true _ 77 _ [.int w1, .int 2, .int 45, .ref 153] M4 kr
    refine Wf.s2 (x := 2) (y := w1) tkX7_wayAt rfl ?_
    refine Wf.s2 (x := 45) (y := 2 * w1) tkX7_wayAt rfl ?_
    refine Wf.sIal (j := 45 + 2 * w1.toInt.toNat) tkX7_wayAt rfl k153 ⟨by rw [← wk_i (W := w1.toInt.toNat) (by omega), ← ew], by omega, by rw [m153]; omega⟩ ?_
    rw [efr]
    refine Wf.sIs tkX7_wayAt rfl rfl ?_
    refine Wf.sIc tkX7_wayAt rfl ?_
    refine Wf.sIs tkX7_wayAt rfl rfl ?_
    have t4 : ¬ mI M4 150 11 = 4 := by
      rw [(hJ4.2.2.1 150 11 rfl).1, (hJ2.2.2.1 150 11 rfl).1]
      exact t1
    have hl := wa_loop (l := l) (X := X) (d := d) (w1 := w1) (n1 := n1) (c0 := c) (b := (mC M + 0, mS M + 0)) (i := i1.toInt.toNat) hR hI3 hy hL hF hto (by omega) (fun r => h r M4 hJ4' t4) 0 (Nat.zero_le _) fr hfr hc1.2 (by omega) [] (Or.inl rfl)
    rw [← ei] at hl
    exact hl
  rw [← ew] at way
  exact way
end WAY5
section WAY6
variable {l : Launch} {X : Nat × (Nat → Int32)} {M : Mm} {kr : KR}
set_option maxRecDepth 20000 in
theorem wo5_0 (d : Nat) : wyO5 l X rwt0 0 (d + 6) := by
  refine ⟨fun M kr hI he h => vc1454 (d + 6) [.ref 150] M kr hI he ⟨⟨rfl, List.mem_singleton.mpr rfl⟩, trivial⟩ (fun f hf => absurd hf List.not_mem_nil) (fun r M' hJ hp => by
    rw [r_none (by decide) hp]
    exact h M' hJ (trp_ok (by decide) hp)), fun w M kr hw hI he h => ?_, fun w M kr hI he h0 h1 => vc340 (d + 5) [.ref 150, .int w] M kr hI he ⟨⟨rfl, List.mem_singleton.mpr rfl⟩, ⟨rfl, i32_lo _, i32_hi _⟩, trivial⟩ (fun f hf => absurd hf List.not_mem_nil) (fun r M' hJ hp => by
    rcases wr_01 hp with rfl | ⟨rfl, h2, h3⟩
    · exact h0 M' hJ
    · exact h1 M' hJ h2 h3)⟩
  rcases hw with rfl | rfl
  · exact vc1455 (d + 6) [.ref 150, .int 1] M kr hI he ⟨⟨rfl, List.mem_singleton.mpr rfl⟩, ⟨rfl, by decide, by decide⟩, trivial⟩ (fun f hf => absurd hf List.not_mem_nil) (fun r M' hJ hp => by
      have ht := trp_ok (n := 150) (b := 11) (by decide) hp
      obtain rfl := wr_m1 (av := []) (M := M') ⟨_, List.mem_singleton.mpr rfl, (by obtain ⟨p, hp, h1, -, -⟩ := hp; obtain rfl := List.mem_singleton.mp hp; exact h1), (fun x hx => absurd hx List.not_mem_nil), (fun x hx => absurd hx List.not_mem_nil)⟩
      exact h M' hJ ht)
  · exact vc1460 (d + 6) [.ref 150, .int 2] M kr hI he ⟨⟨rfl, List.mem_singleton.mpr rfl⟩, ⟨rfl, by decide, by decide⟩, trivial⟩ (fun f hf => absurd hf List.not_mem_nil) (fun r M' hJ hp => by
      have ht := trp_ok (n := 150) (b := 11) (by decide) hp
      obtain rfl := wr_m1 (av := []) (M := M') ⟨_, List.mem_singleton.mpr rfl, (by obtain ⟨p, hp, h1, -, -⟩ := hp; obtain rfl := List.mem_singleton.mp hp; exact h1), (fun x hx => absurd hx List.not_mem_nil), (fun x hx => absurd hx List.not_mem_nil)⟩
      exact h M' hJ ht)
set_option maxRecDepth 20000 in
theorem wo5_1 (d : Nat) : wyO5 l X rwt1 0 (d + 6) := by
  refine ⟨fun M kr hI he h => vc1508 (d + 6) [.ref 150] M kr hI he ⟨⟨rfl, List.mem_singleton.mpr rfl⟩, trivial⟩ (fun f hf => absurd hf List.not_mem_nil) (fun r M' hJ hp => by
    rw [r_none (by decide) hp]
    exact h M' hJ (trp_ok (by decide) hp)), fun w M kr hw hI he h => ?_, fun w M kr hI he h0 h1 => vc469 (d + 5) [.ref 150, .int w] M kr hI he ⟨⟨rfl, List.mem_singleton.mpr rfl⟩, ⟨rfl, i32_lo _, i32_hi _⟩, trivial⟩ (fun f hf => absurd hf List.not_mem_nil) (fun r M' hJ hp => by
    rcases wr_01 hp with rfl | ⟨rfl, h2, h3⟩
    · exact h0 M' hJ
    · exact h1 M' hJ h2 h3)⟩
  rcases hw with rfl | rfl
  · exact vc1509 (d + 6) [.ref 150, .int 1] M kr hI he ⟨⟨rfl, List.mem_singleton.mpr rfl⟩, ⟨rfl, by decide, by decide⟩, trivial⟩ (fun f hf => absurd hf List.not_mem_nil) (fun r M' hJ hp => by
      have ht := trp_ok (n := 150) (b := 11) (by decide) hp
      obtain rfl := wr_m1 (av := []) (M := M') ⟨_, List.mem_singleton.mpr rfl, (by obtain ⟨p, hp, h1, -, -⟩ := hp; obtain rfl := List.mem_singleton.mp hp; exact h1), (fun x hx => absurd hx List.not_mem_nil), (fun x hx => absurd hx List.not_mem_nil)⟩
      exact h M' hJ ht)
  · exact vc1514 (d + 6) [.ref 150, .int 2] M kr hI he ⟨⟨rfl, List.mem_singleton.mpr rfl⟩, ⟨rfl, by decide, by decide⟩, trivial⟩ (fun f hf => absurd hf List.not_mem_nil) (fun r M' hJ hp => by
      have ht := trp_ok (n := 150) (b := 11) (by decide) hp
      obtain rfl := wr_m1 (av := []) (M := M') ⟨_, List.mem_singleton.mpr rfl, (by obtain ⟨p, hp, h1, -, -⟩ := hp; obtain rfl := List.mem_singleton.mp hp; exact h1), (fun x hx => absurd hx List.not_mem_nil), (fun x hx => absurd hx List.not_mem_nil)⟩
      exact h M' hJ ht)
set_option maxRecDepth 20000 in
theorem wo5_2 (d : Nat) : wyO5 l X rwt2 0 (d + 6) := by
  refine ⟨fun M kr hI he h => vc1562 (d + 6) [.ref 150] M kr hI he ⟨⟨rfl, List.mem_singleton.mpr rfl⟩, trivial⟩ (fun f hf => absurd hf List.not_mem_nil) (fun r M' hJ hp => by
    rw [r_none (by decide) hp]
    exact h M' hJ (trp_ok (by decide) hp)), fun w M kr hw hI he h => ?_, fun w M kr hI he h0 h1 => vc599 (d + 5) [.ref 150, .int w] M kr hI he ⟨⟨rfl, List.mem_singleton.mpr rfl⟩, ⟨rfl, i32_lo _, i32_hi _⟩, trivial⟩ (fun f hf => absurd hf List.not_mem_nil) (fun r M' hJ hp => by
    rcases wr_01 hp with rfl | ⟨rfl, h2, h3⟩
    · exact h0 M' hJ
    · exact h1 M' hJ h2 h3)⟩
  rcases hw with rfl | rfl
  · exact vc1563 (d + 6) [.ref 150, .int 1] M kr hI he ⟨⟨rfl, List.mem_singleton.mpr rfl⟩, ⟨rfl, by decide, by decide⟩, trivial⟩ (fun f hf => absurd hf List.not_mem_nil) (fun r M' hJ hp => by
      have ht := trp_ok (n := 150) (b := 11) (by decide) hp
      obtain rfl := wr_m1 (av := []) (M := M') ⟨_, List.mem_singleton.mpr rfl, (by obtain ⟨p, hp, h1, -, -⟩ := hp; obtain rfl := List.mem_singleton.mp hp; exact h1), (fun x hx => absurd hx List.not_mem_nil), (fun x hx => absurd hx List.not_mem_nil)⟩
      exact h M' hJ ht)
  · exact vc1568 (d + 6) [.ref 150, .int 2] M kr hI he ⟨⟨rfl, List.mem_singleton.mpr rfl⟩, ⟨rfl, by decide, by decide⟩, trivial⟩ (fun f hf => absurd hf List.not_mem_nil) (fun r M' hJ hp => by
      have ht := trp_ok (n := 150) (b := 11) (by decide) hp
      obtain rfl := wr_m1 (av := []) (M := M') ⟨_, List.mem_singleton.mpr rfl, (by obtain ⟨p, hp, h1, -, -⟩ := hp; obtain rfl := List.mem_singleton.mp hp; exact h1), (fun x hx => absurd hx List.not_mem_nil), (fun x hx => absurd hx List.not_mem_nil)⟩
      exact h M' hJ ht)
set_option maxRecDepth 20000 in
theorem wo5_3 (d : Nat) : wyO5 l X rwt3 0 (d + 6) := by
  refine ⟨fun M kr hI he h => vc1616 (d + 6) [.ref 150] M kr hI he ⟨⟨rfl, List.mem_singleton.mpr rfl⟩, trivial⟩ (fun f hf => absurd hf List.not_mem_nil) (fun r M' hJ hp => by
    rw [r_none (by decide) hp]
    exact h M' hJ (trp_ok (by decide) hp)), fun w M kr hw hI he h => ?_, fun w M kr hI he h0 h1 => vc729 (d + 5) [.ref 150, .int w] M kr hI he ⟨⟨rfl, List.mem_singleton.mpr rfl⟩, ⟨rfl, i32_lo _, i32_hi _⟩, trivial⟩ (fun f hf => absurd hf List.not_mem_nil) (fun r M' hJ hp => by
    rcases wr_01 hp with rfl | ⟨rfl, h2, h3⟩
    · exact h0 M' hJ
    · exact h1 M' hJ h2 h3)⟩
  rcases hw with rfl | rfl
  · exact vc1617 (d + 6) [.ref 150, .int 1] M kr hI he ⟨⟨rfl, List.mem_singleton.mpr rfl⟩, ⟨rfl, by decide, by decide⟩, trivial⟩ (fun f hf => absurd hf List.not_mem_nil) (fun r M' hJ hp => by
      have ht := trp_ok (n := 150) (b := 11) (by decide) hp
      obtain rfl := wr_m1 (av := []) (M := M') ⟨_, List.mem_singleton.mpr rfl, (by obtain ⟨p, hp, h1, -, -⟩ := hp; obtain rfl := List.mem_singleton.mp hp; exact h1), (fun x hx => absurd hx List.not_mem_nil), (fun x hx => absurd hx List.not_mem_nil)⟩
      exact h M' hJ ht)
  · exact vc1622 (d + 6) [.ref 150, .int 2] M kr hI he ⟨⟨rfl, List.mem_singleton.mpr rfl⟩, ⟨rfl, by decide, by decide⟩, trivial⟩ (fun f hf => absurd hf List.not_mem_nil) (fun r M' hJ hp => by
      have ht := trp_ok (n := 150) (b := 11) (by decide) hp
      obtain rfl := wr_m1 (av := []) (M := M') ⟨_, List.mem_singleton.mpr rfl, (by obtain ⟨p, hp, h1, -, -⟩ := hp; obtain rfl := List.mem_singleton.mp hp; exact h1), (fun x hx => absurd hx List.not_mem_nil), (fun x hx => absurd hx List.not_mem_nil)⟩
      exact h M' hJ ht)
set_option maxRecDepth 20000 in
theorem wo5_4 (d : Nat) : wyO5 l X rwt4 0 (d + 6) := by
  refine ⟨fun M kr hI he h => vc1670 (d + 6) [.ref 150] M kr hI he ⟨⟨rfl, List.mem_singleton.mpr rfl⟩, trivial⟩ (fun f hf => absurd hf List.not_mem_nil) (fun r M' hJ hp => by
    rw [r_none (by decide) hp]
    exact h M' hJ (trp_ok (by decide) hp)), fun w M kr hw hI he h => ?_, fun w M kr hI he h0 h1 => vc860 (d + 5) [.ref 150, .int w] M kr hI he ⟨⟨rfl, List.mem_singleton.mpr rfl⟩, ⟨rfl, i32_lo _, i32_hi _⟩, trivial⟩ (fun f hf => absurd hf List.not_mem_nil) (fun r M' hJ hp => by
    rcases wr_01 hp with rfl | ⟨rfl, h2, h3⟩
    · exact h0 M' hJ
    · exact h1 M' hJ h2 h3)⟩
  rcases hw with rfl | rfl
  · exact vc1671 (d + 6) [.ref 150, .int 1] M kr hI he ⟨⟨rfl, List.mem_singleton.mpr rfl⟩, ⟨rfl, by decide, by decide⟩, trivial⟩ (fun f hf => absurd hf List.not_mem_nil) (fun r M' hJ hp => by
      have ht := trp_ok (n := 150) (b := 11) (by decide) hp
      obtain rfl := wr_m1 (av := []) (M := M') ⟨_, List.mem_singleton.mpr rfl, (by obtain ⟨p, hp, h1, -, -⟩ := hp; obtain rfl := List.mem_singleton.mp hp; exact h1), (fun x hx => absurd hx List.not_mem_nil), (fun x hx => absurd hx List.not_mem_nil)⟩
      exact h M' hJ ht)
  · exact vc1676 (d + 6) [.ref 150, .int 2] M kr hI he ⟨⟨rfl, List.mem_singleton.mpr rfl⟩, ⟨rfl, by decide, by decide⟩, trivial⟩ (fun f hf => absurd hf List.not_mem_nil) (fun r M' hJ hp => by
      have ht := trp_ok (n := 150) (b := 11) (by decide) hp
      obtain rfl := wr_m1 (av := []) (M := M') ⟨_, List.mem_singleton.mpr rfl, (by obtain ⟨p, hp, h1, -, -⟩ := hp; obtain rfl := List.mem_singleton.mp hp; exact h1), (fun x hx => absurd hx List.not_mem_nil), (fun x hx => absurd hx List.not_mem_nil)⟩
      exact h M' hJ ht)
set_option maxRecDepth 20000 in
theorem wo5_5 (d : Nat) : wyO5 l X rwt5 0 (d + 6) := by
  refine ⟨fun M kr hI he h => vc1724 (d + 6) [.ref 150] M kr hI he ⟨⟨rfl, List.mem_singleton.mpr rfl⟩, trivial⟩ (fun f hf => absurd hf List.not_mem_nil) (fun r M' hJ hp => by
    rw [r_none (by decide) hp]
    exact h M' hJ (trp_ok (by decide) hp)), fun w M kr hw hI he h => ?_, fun w M kr hI he h0 h1 => vc993 (d + 5) [.ref 150, .int w] M kr hI he ⟨⟨rfl, List.mem_singleton.mpr rfl⟩, ⟨rfl, i32_lo _, i32_hi _⟩, trivial⟩ (fun f hf => absurd hf List.not_mem_nil) (fun r M' hJ hp => by
    rcases wr_01 hp with rfl | ⟨rfl, h2, h3⟩
    · exact h0 M' hJ
    · exact h1 M' hJ h2 h3)⟩
  rcases hw with rfl | rfl
  · exact vc1725 (d + 6) [.ref 150, .int 1] M kr hI he ⟨⟨rfl, List.mem_singleton.mpr rfl⟩, ⟨rfl, by decide, by decide⟩, trivial⟩ (fun f hf => absurd hf List.not_mem_nil) (fun r M' hJ hp => by
      have ht := trp_ok (n := 150) (b := 11) (by decide) hp
      obtain rfl := wr_m1 (av := []) (M := M') ⟨_, List.mem_singleton.mpr rfl, (by obtain ⟨p, hp, h1, -, -⟩ := hp; obtain rfl := List.mem_singleton.mp hp; exact h1), (fun x hx => absurd hx List.not_mem_nil), (fun x hx => absurd hx List.not_mem_nil)⟩
      exact h M' hJ ht)
  · exact vc1730 (d + 6) [.ref 150, .int 2] M kr hI he ⟨⟨rfl, List.mem_singleton.mpr rfl⟩, ⟨rfl, by decide, by decide⟩, trivial⟩ (fun f hf => absurd hf List.not_mem_nil) (fun r M' hJ hp => by
      have ht := trp_ok (n := 150) (b := 11) (by decide) hp
      obtain rfl := wr_m1 (av := []) (M := M') ⟨_, List.mem_singleton.mpr rfl, (by obtain ⟨p, hp, h1, -, -⟩ := hp; obtain rfl := List.mem_singleton.mp hp; exact h1), (fun x hx => absurd hx List.not_mem_nil), (fun x hx => absurd hx List.not_mem_nil)⟩
      exact h M' hJ ht)
theorem p7t_wayAt (d : Nat) {x1 x2 x3 : Int32} (hL : LI M) (h : ∀ (x : Int32) (M' : Mm), LI M' → M'.1 = M.1 → kp m7_wayAt M M' → ¬ mI M' 150 11 = 4 → kr (some (.int x)) M') : Ev l X uX7_wayAt (d + 12) true 0 0 [.ref 150, .int x1, .int x2, .int x3] M kr := by
  have he0 := LI_e hL
  obtain ⟨h8, ⟨p, hp, hI⟩, ht⟩ := hL
  obtain ⟨t0, t1, t2, t3⟩ := id ht
  rcases lt7 hp with rfl | rfl | rfl | rfl | rfl | rfl | rfl
  · exact wa_ev5 (R := rwt0) (d := d + 6) (e := 0) wyR0 (wo5_0 (d + 5)) (fun n M kr hI he h => vc303 (d + 8) [.ref 150, .int n] M kr hI he ⟨⟨rfl, List.mem_singleton.mpr rfl⟩, ⟨rfl, i32_lo _, i32_hi _⟩, trivial⟩ (fun f hf => absurd hf List.not_mem_nil) (fun r M' hJ hp => by
      rw [r_none (by decide) hp]
      exact h M' hJ)) hI he0 (fun r M' hJ htr => h r M' ⟨Iv_keep h8 hJ.2.1 hJ.2.2.1 (by decide +kernel), ⟨_, hp, hJ.2.1⟩, t0, t1, by rw [(hJ.2.2.1 2 1 rfl).1]; exact t2, by rw [(hJ.2.2.1 150 2 rfl).1]; exact t3⟩ hJ.1 (kpw hJ.2.2.1 (by decide +kernel)) htr)
  · exact wa_ev5 (R := rwt1) (d := d + 6) (e := 0) wyR1 (wo5_1 (d + 5)) (fun n M kr hI he h => vc429 (d + 8) [.ref 150, .int n] M kr hI he ⟨⟨rfl, List.mem_singleton.mpr rfl⟩, ⟨rfl, i32_lo _, i32_hi _⟩, trivial⟩ (fun f hf => absurd hf List.not_mem_nil) (fun r M' hJ hp => by
      rw [r_none (by decide) hp]
      exact h M' hJ)) hI he0 (fun r M' hJ htr => h r M' ⟨Iv_keep h8 hJ.2.1 hJ.2.2.1 (by decide +kernel), ⟨_, hp, hJ.2.1⟩, t0, t1, by rw [(hJ.2.2.1 2 1 rfl).1]; exact t2, by rw [(hJ.2.2.1 150 2 rfl).1]; exact t3⟩ hJ.1 (kpw hJ.2.2.1 (by decide +kernel)) htr)
  · exact wa_ev5 (R := rwt2) (d := d + 6) (e := 0) wyR2 (wo5_2 (d + 5)) (fun n M kr hI he h => vc558 (d + 8) [.ref 150, .int n] M kr hI he ⟨⟨rfl, List.mem_singleton.mpr rfl⟩, ⟨rfl, i32_lo _, i32_hi _⟩, trivial⟩ (fun f hf => absurd hf List.not_mem_nil) (fun r M' hJ hp => by
      rw [r_none (by decide) hp]
      exact h M' hJ)) hI he0 (fun r M' hJ htr => h r M' ⟨Iv_keep h8 hJ.2.1 hJ.2.2.1 (by decide +kernel), ⟨_, hp, hJ.2.1⟩, t0, t1, by rw [(hJ.2.2.1 2 1 rfl).1]; exact t2, by rw [(hJ.2.2.1 150 2 rfl).1]; exact t3⟩ hJ.1 (kpw hJ.2.2.1 (by decide +kernel)) htr)
  · exact wa_ev5 (R := rwt3) (d := d + 6) (e := 0) wyR3 (wo5_3 (d + 5)) (fun n M kr hI he h => vc687 (d + 8) [.ref 150, .int n] M kr hI he ⟨⟨rfl, List.mem_singleton.mpr rfl⟩, ⟨rfl, i32_lo _, i32_hi _⟩, trivial⟩ (fun f hf => absurd hf List.not_mem_nil) (fun r M' hJ hp => by
      rw [r_none (by decide) hp]
      exact h M' hJ)) hI he0 (fun r M' hJ htr => h r M' ⟨Iv_keep h8 hJ.2.1 hJ.2.2.1 (by decide +kernel), ⟨_, hp, hJ.2.1⟩, t0, t1, by rw [(hJ.2.2.1 2 1 rfl).1]; exact t2, by rw [(hJ.2.2.1 150 2 rfl).1]; exact t3⟩ hJ.1 (kpw hJ.2.2.1 (by decide +kernel)) htr)
  · exact wa_ev5 (R := rwt4) (d := d + 6) (e := 0) wyR4 (wo5_4 (d + 5)) (fun n M kr hI he h => vc817 (d + 8) [.ref 150, .int n] M kr hI he ⟨⟨rfl, List.mem_singleton.mpr rfl⟩, ⟨rfl, i32_lo _, i32_hi _⟩, trivial⟩ (fun f hf => absurd hf List.not_mem_nil) (fun r M' hJ hp => by
      rw [r_none (by decide) hp]
      exact h M' hJ)) hI he0 (fun r M' hJ htr => h r M' ⟨Iv_keep h8 hJ.2.1 hJ.2.2.1 (by decide +kernel), ⟨_, hp, hJ.2.1⟩, t0, t1, by rw [(hJ.2.2.1 2 1 rfl).1]; exact t2, by rw [(hJ.2.2.1 150 2 rfl).1]; exact t3⟩ hJ.1 (kpw hJ.2.2.1 (by decide +kernel)) htr)
  · exact wa_ev5 (R := rwt5) (d := d + 6) (e := 0) wyR5 (wo5_5 (d + 5)) (fun n M kr hI he h => vc949 (d + 8) [.ref 150, .int n] M kr hI he ⟨⟨rfl, List.mem_singleton.mpr rfl⟩, ⟨rfl, i32_lo _, i32_hi _⟩, trivial⟩ (fun f hf => absurd hf List.not_mem_nil) (fun r M' hJ hp => by
      rw [r_none (by decide) hp]
      exact h M' hJ)) hI he0 (fun r M' hJ htr => h r M' ⟨Iv_keep h8 hJ.2.1 hJ.2.2.1 (by decide +kernel), ⟨_, hp, hJ.2.1⟩, t0, t1, by rw [(hJ.2.2.1 2 1 rfl).1]; exact t2, by rw [(hJ.2.2.1 150 2 rfl).1]; exact t3⟩ hJ.1 (kpw hJ.2.2.1 (by decide +kernel)) htr)
  · exact r7t_of1 (K := Kc1803) (t := 0) hp (vc1803 (d + 10)) (by decide +kernel) (by decide +kernel) h8 hI ht ⟨⟨rfl, List.mem_singleton.mpr rfl⟩, ⟨⟨rfl, i32_lo _, i32_hi _⟩, ⟨⟨rfl, i32_lo _, i32_hi _⟩, ⟨⟨rfl, i32_lo _, i32_hi _⟩, trivial⟩⟩⟩⟩ (fun v M' hv hL' h1 h2 h3 => iV hv (fun x e => e ▸ h x M' hL' h1 (kpw h2 (by decide +kernel)) h3))
end WAY6
