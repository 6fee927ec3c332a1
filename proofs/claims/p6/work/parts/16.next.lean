/-! the reference's next token -/
/-- the places that 'next' changes -/
def msN : Md3 := [(150, 4, 8), (152, 0, 7)]
theorem Jv_wE {P : Pk} {ms : Md3} {M0 : Mm × Int} {M : Mm} {v : Int32} (h : Jv P ms M0 M) (hv : (rwB (P.2.2 150) 5).1 ≤ v.toInt ∧ v.toInt ≤ (rwB (P.2.2 150) 5).2) (hm : inm ms 150 5 = true) (he : M0.2 ≤ v.toInt) : Jv P ms M0 (wI M 150 5 v) := by
  refine ⟨h.1, ⟨h.2.1.1, h.2.1.2.1, h.2.1.2.2.1, fun b j hb => ?_⟩, fun b j hb => ?_, by rw [mI_w, if_pos ⟨rfl, rfl⟩]; exact he⟩
  · rw [mI_w]
    by_cases he : b = 150 ∧ j = 5
    · rw [if_pos he, he.1, he.2]
      exact hv
    · rw [if_neg he]
      exact h.2.1.2.2.2 b j hb
  · rw [mI_w]
    have he : ¬ (b = 150 ∧ j = 5) := by
      intro e
      rw [e.1, e.2, hm] at hb
      cases hb
    rw [if_neg he]
    exact h.2.2.1 b j hb
section NXT
variable {l : Launch} {X : Nat × (Nat → Int32)} {d : Nat} {M : Mm} {kr : KR}
theorem sz_of (hI : Iv Pt7 M) : ∃ n : Nat, n ≤ 900 ∧ mI M 150 3 = nI n := by
  have h : (0 : Int) ≤ (mI M 150 3).toInt ∧ (mI M 150 3).toInt ≤ 900 := hI.2.2.2 150 3 (by decide)
  exact ⟨(mI M 150 3).toInt.toNat, by omega, nI_at (by omega) (by omega)⟩
set_option maxRecDepth 20000 in
theorem k_see {k n : Nat} (hI : Iv Pt7 M) (hn : n ≤ 900) (hs : mI M 150 3 = nI n) (hk : k ≤ 901) (h1 : n ≤ k → kr (some (.int (-1))) M) (h2 : k < n → kr (some (.int (mI M 151 k))) M) : Ev l X uX7_see d true 0 0 [.ref 150, .int (nI k)] M kr := by
  have k150 : kk M 150 7 = true := kk_ok hI (by decide +kernel)
  have k151 : kk M 151 9 = true := kk_ok hI (by decide +kernel)
  have r1 : mR M 150 1 = 151 := List.mem_singleton.mp (hI.2.2.1 150 1 (by decide))
  have m1 : (mK M 151).2 = 900 := by rw [hI.2.1 151 (by decide)]; rfl
  refine Ev.of (by decide) (Nat.le_of_ble_eq_true rfl) ?_
  refine Wf.sIl tkX7_see rfl rfl ?_
  refine Wf.sAl tkX7_see rfl rfl rfl ?_
  refine Wf.sG tkX7_see rfl k150 ?_
  show Wf l X uX7_see d true _ 5 _ [.int (mI M 150 3), .int (nI k)] M kr
  rw [hs]
  by_cases hc : n ≤ k
  · refine Wf.sCm tkX7_see rfl (fun _ => ?_) (fun z => absurd (nI_le hc (by omega)) z)
    refine Wf.sIc tkX7_see rfl ?_
    exact Wf.sIr tkX7_see rfl (h1 hc)
  · refine Wf.sCm tkX7_see rfl (fun z => absurd z (nI_ge (by omega) (by omega))) (fun _ => ?_)
    refine Wf.sAl tkX7_see rfl rfl rfl ?_
    refine Wf.sG tkX7_see rfl k150 ?_
    show Wf l X uX7_see d true _ 12 _ [.ref (mR M 150 1)] M kr
    rw [r1]
    refine Wf.sIl tkX7_see rfl rfl ?_
    refine Wf.sIal (j := k) tkX7_see rfl k151 ⟨rfl, by omega, by rw [m1]; omega⟩ ?_
    refine Wf.sGo tkX7_see rfl ?_
    exact Wf.sIr tkX7_see rfl (h2 (by omega))
/-- a letter, a digit -/
def smL (c : Int32) : Bool := decide (¬ c < 97) && decide (¬ 122 < c)
def dgL (c : Int32) : Bool := decide (¬ c < 48) && decide (¬ 57 < c)
set_option maxRecDepth 20000 in
theorem k_small {c : Int32} (h0 : smL c = false → kr (some (.int 0)) M) (h1 : smL c = true → kr (some (.int 1)) M) : Ev l X uX7_isSmall d true 0 0 [.int c] M kr := by
  refine Ev.of (by decide) (Nat.le_of_ble_eq_true rfl) ?_
  have r0 : smL c = false → ∀ ls, Wf l X uX7_isSmall d true (mC M + 0, mS M + 0) 16 ls [] M kr := by
    intro h ls
    refine Wf.sIc tkX7_isSmall rfl ?_
    exact Wf.sZr tkX7_isSmall rfl (Or.inl rfl) (h0 h)
  refine Wf.sIl tkX7_isSmall rfl rfl ?_
  refine Wf.sIc tkX7_isSmall rfl ?_
  refine Wf.sCm tkX7_isSmall rfl (fun z => r0 ?_ _) (fun z1 => ?_)
  · have z : c < 97 := z
    unfold smL
    rw [decide_eq_false (fun q => q z)]
    rfl
  refine Wf.sIl tkX7_isSmall rfl rfl ?_
  refine Wf.sIc tkX7_isSmall rfl ?_
  refine Wf.sCm tkX7_isSmall rfl (fun z => r0 ?_ _) (fun z2 => ?_)
  · have z : 122 < c := z
    unfold smL
    rw [show decide (¬ 122 < c) = false from decide_eq_false (fun q => q z), Bool.and_false]
  refine Wf.sIc tkX7_isSmall rfl ?_
  refine Wf.sGo tkX7_isSmall rfl ?_
  refine Wf.sZr tkX7_isSmall rfl (Or.inr rfl) (h1 ?_)
  unfold smL
  rw [decide_eq_true (show ¬ c < 97 from z1), decide_eq_true (show ¬ 122 < c from z2)]
  rfl
set_option maxRecDepth 20000 in
theorem k_digit {c : Int32} (h0 : dgL c = false → kr (some (.int 0)) M) (h1 : dgL c = true → kr (some (.int 1)) M) : Ev l X uX7_isDigit d true 0 0 [.int c] M kr := by
  refine Ev.of (by decide) (Nat.le_of_ble_eq_true rfl) ?_
  have r0 : dgL c = false → ∀ ls, Wf l X uX7_isDigit d true (mC M + 0, mS M + 0) 16 ls [] M kr := by
    intro h ls
    refine Wf.sIc tkX7_isDigit rfl ?_
    exact Wf.sZr tkX7_isDigit rfl (Or.inl rfl) (h0 h)
  refine Wf.sIl tkX7_isDigit rfl rfl ?_
  refine Wf.sIc tkX7_isDigit rfl ?_
  refine Wf.sCm tkX7_isDigit rfl (fun z => r0 ?_ _) (fun z1 => ?_)
  · have z : c < 48 := z
    unfold dgL
    rw [decide_eq_false (fun q => q z)]
    rfl
  refine Wf.sIl tkX7_isDigit rfl rfl ?_
  refine Wf.sIc tkX7_isDigit rfl ?_
  refine Wf.sCm tkX7_isDigit rfl (fun z => r0 ?_ _) (fun z2 => ?_)
  · have z : 57 < c := z
    unfold dgL
    rw [show decide (¬ 57 < c) = false from decide_eq_false (fun q => q z), Bool.and_false]
  refine Wf.sIc tkX7_isDigit rfl ?_
  refine Wf.sGo tkX7_isDigit rfl ?_
  refine Wf.sZr tkX7_isDigit rfl (Or.inr rfl) (h1 ?_)
  unfold dgL
  rw [decide_eq_true (show ¬ c < 48 from z1), decide_eq_true (show ¬ 57 < c from z2)]
  rfl
/-- what the memory is while 'next' runs: M0 at its start, e a bound of its end's place -/
def nxJ (M0 : Mm) (e : Int) (M : Mm) : Prop := Jv Pt7 msN (M0, e) M
theorem nx3 {M0 : Mm} {e : Int} (h : nxJ M0 e M) : mI M 150 3 = mI M0 150 3 := (h.2.2.1 150 3 (by decide)).1
theorem nx151 {M0 : Mm} {e : Int} {k : Nat} (h : nxJ M0 e M) : mI M 151 k = mI M0 151 k := (h.2.2.1 151 k rfl).1
theorem nx_w {M0 : Mm} {e : Int} {a k : Nat} {v : Int32} (h : nxJ M0 e M) (hv : (rwB (Pt7.2.2 a) k).1 ≤ v.toInt ∧ v.toInt ≤ (rwB (Pt7.2.2 a) k).2) (hm : inm msN a k = true) (hn : ¬ (150 = a ∧ 5 = k)) : nxJ M0 e (wI M a k v) := Jv.wI h hv hm hn
/-- the end's words -/
def nxP (e : Int) (M : Mm) : Prop := gps [.ref 150] none M [(none, [], [(150, 6, 0, 0, 1, [])]), (none, [], [(150, 6, 0, 2, 2, []), (150, 8, 0, 0, 8, [])]), (none, [], [(150, 6, 0, 3, 59, [])])] ∧ (mI M 150 6 = 0 ∨ e + 1 ≤ (mI M 150 5).toInt)
theorem nxP_a {e : Int} {t : Int32} (h1 : 0 ≤ t.toInt) (h2 : t.toInt ≤ 1) (hM : mI M 150 6 = t) (hs : mI M 150 6 = 0 ∨ e + 1 ≤ (mI M 150 5).toInt) : nxP e M := ⟨⟨_, List.mem_cons_self, trivial, fun x hx => absurd hx List.not_mem_nil, fun f hf => by
  rw [List.mem_singleton.mp hf]
  show gb (.int (mI M 150 6)) (0, 0, 1, [])
  rw [hM]
  exact ⟨rfl, h1, h2⟩⟩, hs⟩
theorem nxP_b {e : Int} (hM : mI M 150 6 = 2) (h1 : 0 ≤ (mI M 150 8).toInt) (h2 : (mI M 150 8).toInt ≤ 8) (hs : mI M 150 6 = 0 ∨ e + 1 ≤ (mI M 150 5).toInt) : nxP e M := ⟨⟨_, List.mem_cons_of_mem _ List.mem_cons_self, trivial, fun x hx => absurd hx List.not_mem_nil, fun f hf => by
  rcases List.mem_cons.mp hf with z | z
  · rw [z]
    show gb (.int (mI M 150 6)) (0, 2, 2, [])
    rw [hM]
    exact ⟨rfl, by decide, by decide⟩
  · rw [List.mem_singleton.mp z]
    exact ⟨rfl, h1, h2⟩⟩, hs⟩
theorem nxP_c {e : Int} {t : Int32} (h1 : 3 ≤ t.toInt) (h2 : t.toInt ≤ 59) (hM : mI M 150 6 = t) (hs : mI M 150 6 = 0 ∨ e + 1 ≤ (mI M 150 5).toInt) : nxP e M := ⟨⟨_, List.mem_cons_of_mem _ (List.mem_cons_of_mem _ (List.mem_singleton.mpr rfl)), trivial, fun x hx => absurd hx List.not_mem_nil, fun f hf => by
  rw [List.mem_singleton.mp hf]
  show gb (.int (mI M 150 6)) (0, 3, 59, [])
  rw [hM]
  exact ⟨rfl, h1, h2⟩⟩, hs⟩
set_option maxRecDepth 20000 in
theorem nx_word {M0 : Mm} {e : Int} {b : Nat × Nat} {c : Int32} {n : Nat} (hn : n ≤ 900) (hs0 : mI M0 150 3 = nI n) (h : ∀ M', nxJ M0 e M' → nxP e M' → kr none M') : ∀ k : Nat, k ≤ 901 → ∀ (ns : Nat) (M : Mm), nxJ M0 e M → mI M 150 8 = nI ns → ns ≤ k → (e + 1 ≤ (k : Int) ∨ (e ≤ (k : Int) ∧ k < n ∧ smL (mI M0 151 k) = true)) → Wf l X uX7_next (d + 2) true b 67 [(0, .ref 150), (1, .int (nI k)), (2, .int c)] [] M kr := by
  have fin : ∀ (k : Nat), k ≤ 901 → ∀ (ns : Nat) (M : Mm), nxJ M0 e M → mI M 150 8 = nI ns → ns ≤ k → e + 1 ≤ (k : Int) → Wf l X uX7_next (d + 2) true b 117 [(0, .ref 150), (1, .int (nI k)), (2, .int c)] [] M kr := by
    intro k hk ns M hJ h8 hns hek
    have k150 : kk M 150 7 = true := kk_ok hJ.2.1 (by decide +kernel)
    have hk2 : (nI k).toInt = (k : Int) := nI_toInt (by omega)
    have hJ1 : nxJ M0 e (wI M 150 5 (nI k)) := Jv_wE hJ ⟨by rw [hk2]; show (0 : Int) ≤ _; omega, by rw [hk2]; show _ ≤ (901 : Int); omega⟩ (by decide) (by rw [hk2]; show e ≤ _; omega)
    refine Wf.sAl tkX7_next rfl rfl rfl ?_
    refine Wf.sIl tkX7_next rfl rfl ?_
    refine Wf.sPI tkX7_next rfl k150 ?_
    refine Wf.sAl tkX7_next rfl rfl rfl ?_
    refine Wf.sAl tkX7_next rfl rfl rfl ?_
    refine Wf.sG tkX7_next rfl k150 ?_
    refine Wf.sIc tkX7_next rfl ?_
    show Wf l X uX7_next (d + 2) true b 129 _ [.int 8, .int (mI (wI M 150 5 (nI k)) 150 8), .ref 150] _ kr
    rw [mI_w, if_neg (by decide), h8]
    by_cases hc : ns ≤ 8
    · refine Wf.sCm (x := nI ns) (y := 8) tkX7_next rfl (fun _ => ?_) (fun z => absurd (show nI ns ≤ nI 8 from nI_le hc (by decide)) z)
      refine Wf.sIc tkX7_next rfl ?_
      refine Wf.sPI tkX7_next rfl k150 ?_
      refine Wf.sGo tkX7_next rfl ?_
      refine Wf.sVr tkX7_next rfl (h _ (nx_w hJ1 ⟨by decide, by decide⟩ (by decide) (by decide)) (nxP_b rfl ?_ ?_ (Or.inr ?_)))
      · rw [mI_w, if_neg (by decide), mI_w, if_neg (by decide), h8, nI_toInt (by omega)]; omega
      · rw [mI_w, if_neg (by decide), mI_w, if_neg (by decide), h8, nI_toInt (by omega)]; omega
      · rw [mI_w, if_neg (by decide), mI_w, if_pos (by decide), hk2]; exact hek
    · refine Wf.sCm (x := nI ns) (y := 8) tkX7_next rfl (fun z => absurd (show nI ns ≤ nI 8 from z) (nI_ge (by omega) (by omega))) (fun _ => ?_)
      refine Wf.sIc tkX7_next rfl ?_
      refine Wf.sGo tkX7_next rfl ?_
      refine Wf.sPI tkX7_next rfl k150 ?_
      refine Wf.sGo tkX7_next rfl ?_
      refine Wf.sVr tkX7_next rfl (h _ (nx_w hJ1 ⟨by decide, by decide⟩ (by decide) (by decide)) (nxP_a (t := 1) (by decide) (by decide) rfl (Or.inr ?_)))
      rw [mI_w, if_neg (by decide), mI_w, if_pos (by decide), hk2]; exact hek
  refine dwn _ 901 ?_ ?_
  · intro ns M hJ h8 hns hek
    have k150 : kk M 150 7 = true := kk_ok hJ.2.1 (by decide +kernel)
    refine Wf.sAl tkX7_next rfl rfl rfl ?_
    refine Wf.sIl tkX7_next rfl rfl ?_
    refine Wf.sCv (rest := []) tkX7_next rfl rfl k150 rfl ?_
    refine k_see (n := n) hJ.2.1 hn (by rw [nx3 hJ]; exact hs0) (Nat.le_refl _) (fun _ => ?_) (fun z => by omega)
    refine Wf.sCs (as := [.int (-1)]) (rest := []) tkX7_next rfl rfl rfl ?_
    refine k_small (fun _ => ?_) (fun z => absurd z (by decide))
    refine Wf.sIf tkX7_next rfl (fun _ => ?_) (fun z => absurd rfl z)
    exact fin 901 (Nat.le_refl _) ns M hJ h8 hns (by omega)
  · intro k hk ih ns M hJ h8 hns hek
    have k150 : kk M 150 7 = true := kk_ok hJ.2.1 (by decide +kernel)
    have k152 : kk M 152 9 = true := kk_ok hJ.2.1 (by decide +kernel)
    have r12 : mR M 150 12 = 152 := List.mem_singleton.mp (hJ.2.1.2.2.1 150 12 (by decide))
    have m12 : (mK M 152).2 = 8 := by rw [hJ.2.1.2.1 152 (by decide)]; rfl
    refine Wf.sAl tkX7_next rfl rfl rfl ?_
    refine Wf.sIl tkX7_next rfl rfl ?_
    refine Wf.sCv (rest := []) tkX7_next rfl rfl k150 rfl ?_
    refine k_see (n := n) hJ.2.1 hn (by rw [nx3 hJ]; exact hs0) (by omega) (fun z => ?_) (fun hkn => ?_)
    · refine Wf.sCs (as := [.int (-1)]) (rest := []) tkX7_next rfl rfl rfl ?_
      refine k_small (fun _ => ?_) (fun z => absurd z (by decide))
      refine Wf.sIf tkX7_next rfl (fun _ => ?_) (fun z => absurd rfl z)
      exact fin k (by omega) ns M hJ h8 hns (by omega)
    · refine Wf.sCs (as := [.int (mI M 151 k)]) (rest := []) tkX7_next rfl rfl rfl ?_
      refine k_small (fun hsm => ?_) (fun hsm => ?_)
      · refine Wf.sIf tkX7_next rfl (fun _ => ?_) (fun z => absurd rfl z)
        refine fin k (by omega) ns M hJ h8 hns ?_
        rcases hek with z | ⟨-, -, z⟩
        · exact z
        · rw [nx151 hJ, z] at hsm; cases hsm
      · refine Wf.sIf tkX7_next rfl (fun z => absurd z (by decide)) (fun _ => ?_)
        have stp : ∀ M1, nxJ M0 e M1 → mI M1 150 8 = nI ns → Wf l X uX7_next (d + 2) true b 101 [(0, .ref 150), (1, .int (nI k)), (2, .int c)] [] M1 kr := by
          intro M1 hJ1 h81
          have k150 : kk M1 150 7 = true := kk_ok hJ1.2.1 (by decide +kernel)
          refine Wf.sAl tkX7_next rfl rfl rfl ?_
          refine Wf.sDup tkX7_next rfl rfl ?_
          refine Wf.sG tkX7_next rfl k150 ?_
          show Wf l X uX7_next (d + 2) true b 106 _ [.int (mI M1 150 8), .ref 150] _ kr
          rw [h81]
          refine Wf.sIc tkX7_next rfl ?_
          refine Wf.s2 tkX7_next rfl ?_
          refine Wf.sPI tkX7_next rfl k150 ?_
          rw [nI_1]
          refine Wf.sInc tkX7_next rfl rfl rfl ?_
          refine Wf.sGo tkX7_next rfl ?_
          rw [nI_1]
          refine ih (ns + 1) _ (nx_w hJ1 ⟨by rw [nI_toInt (by omega)]; show (0 : Int) ≤ _; omega, by rw [nI_toInt (by omega)]; show _ ≤ (901 : Int); omega⟩ (by decide) (by decide)) (by rw [mI_w, if_pos (by decide)]) (by omega) (Or.inl (by omega))
        refine Wf.sAl tkX7_next rfl rfl rfl ?_
        refine Wf.sG tkX7_next rfl k150 ?_
        refine Wf.sIc tkX7_next rfl ?_
        show Wf l X uX7_next (d + 2) true b 84 _ [.int 8, .int (mI M 150 8)] _ kr
        rw [h8]
        by_cases hc : ns < 8
        · refine Wf.sCm (x := nI ns) (y := 8) tkX7_next rfl (fun z => absurd (show nI 8 ≤ nI ns from z) (nI_ge hc (by decide))) (fun _ => ?_)
          refine Wf.sAl tkX7_next rfl rfl rfl ?_
          refine Wf.sG tkX7_next rfl k150 ?_
          show Wf l X uX7_next (d + 2) true b 91 _ [.ref (mR M 150 12)] _ kr
          rw [r12]
          refine Wf.sAl tkX7_next rfl rfl rfl ?_
          refine Wf.sG tkX7_next rfl k150 ?_
          show Wf l X uX7_next (d + 2) true b 95 _ [.int (mI M 150 8), .ref 152] _ kr
          rw [h8]
          refine Wf.sAl tkX7_next rfl rfl rfl ?_
          refine Wf.sIl tkX7_next rfl rfl ?_
          refine Wf.sCv (rest := [.int (nI ns), .ref 152]) tkX7_next rfl rfl k150 rfl ?_
          refine k_see (n := n) hJ.2.1 hn (by rw [nx3 hJ]; exact hs0) (by omega) (fun z => absurd z (by omega)) (fun _ => ?_)
          refine Wf.sIas (j := ns) tkX7_next rfl k152 ⟨rfl, by omega, by rw [m12]; exact hc⟩ ?_
          have hin : inm msN 152 ns = true := List.any_eq_true.mpr ⟨(152, 0, 7), List.mem_cons_of_mem _ (List.mem_singleton.mpr rfl), Bool.and_eq_true_iff.mpr ⟨rfl, Bool.and_eq_true_iff.mpr ⟨rfl, Nat.ble_eq_true_of_le (by show ns ≤ 7; omega)⟩⟩⟩
          refine stp _ (nx_w hJ ⟨i32_lo _, i32_hi _⟩ hin (by omega)) (by rw [mI_w, if_neg (by omega)]; exact h8)
        · refine Wf.sCm (x := nI ns) (y := 8) tkX7_next rfl (fun _ => ?_) (fun z => absurd (show nI 8 ≤ nI ns from nI_le (by omega) (by omega)) z)
          exact stp M hJ h8
set_option maxRecDepth 20000 in
theorem nx_digs {M0 : Mm} {e : Int} {b : Nat × Nat} {c : Int32} {n : Nat} (hn : n ≤ 900) (hs0 : mI M0 150 3 = nI n) (h : ∀ M', nxJ M0 e M' → nxP e M' → kr none M') : ∀ k : Nat, k ≤ 901 → ∀ (z3 : Int32) (M : Mm), nxJ M0 e M → (e + 1 ≤ (k : Int) ∨ (e ≤ (k : Int) ∧ k < n ∧ dgL (mI M0 151 k) = true)) → Wf l X uX7_next (d + 2) true b 152 [(0, .ref 150), (1, .int (nI k)), (2, .int c), (3, .int z3)] [] M kr := by
  have fin : ∀ (k : Nat), k ≤ 901 → ∀ (z3 : Int32) (M : Mm), nxJ M0 e M → e + 1 ≤ (k : Int) → Wf l X uX7_next (d + 2) true b 197 [(0, .ref 150), (1, .int (nI k)), (2, .int c), (3, .int z3)] [] M kr := by
    intro k hk z3 M hJ hek
    have k150 : kk M 150 7 = true := kk_ok hJ.2.1 (by decide +kernel)
    have hk2 : (nI k).toInt = (k : Int) := nI_toInt (by omega)
    have hJ1 : nxJ M0 e (wI M 150 5 (nI k)) := Jv_wE hJ ⟨by rw [hk2]; show (0 : Int) ≤ _; omega, by rw [hk2]; show _ ≤ (901 : Int); omega⟩ (by decide) (by rw [hk2]; show e ≤ _; omega)
    refine Wf.sAl tkX7_next rfl rfl rfl ?_
    refine Wf.sIl tkX7_next rfl rfl ?_
    refine Wf.sPI tkX7_next rfl k150 ?_
    refine Wf.sAl tkX7_next rfl rfl rfl ?_
    refine Wf.sIl tkX7_next rfl rfl ?_
    refine Wf.sIc tkX7_next rfl ?_
    refine Wf.sCm tkX7_next rfl (fun _ => ?_) (fun _ => ?_)
    · refine Wf.sIc tkX7_next rfl ?_
      refine Wf.sPI tkX7_next rfl k150 ?_
      refine Wf.sGo tkX7_next rfl ?_
      refine Wf.sVr tkX7_next rfl (h _ (nx_w hJ1 ⟨by decide, by decide⟩ (by decide) (by decide)) (nxP_c (t := 3) (by decide) (by decide) rfl (Or.inr ?_)))
      rw [mI_w, if_neg (by decide), mI_w, if_pos (by decide), hk2]; exact hek
    · refine Wf.sIc tkX7_next rfl ?_
      refine Wf.sGo tkX7_next rfl ?_
      refine Wf.sPI tkX7_next rfl k150 ?_
      refine Wf.sGo tkX7_next rfl ?_
      refine Wf.sVr tkX7_next rfl (h _ (nx_w hJ1 ⟨by decide, by decide⟩ (by decide) (by decide)) (nxP_a (t := 1) (by decide) (by decide) rfl (Or.inr ?_)))
      rw [mI_w, if_neg (by decide), mI_w, if_pos (by decide), hk2]; exact hek
  refine dwn _ 901 ?_ ?_
  · intro z3 M hJ hek
    have k150 : kk M 150 7 = true := kk_ok hJ.2.1 (by decide +kernel)
    refine Wf.sAl tkX7_next rfl rfl rfl ?_
    refine Wf.sIl tkX7_next rfl rfl ?_
    refine Wf.sCv (rest := []) tkX7_next rfl rfl k150 rfl ?_
    refine k_see (n := n) hJ.2.1 hn (by rw [nx3 hJ]; exact hs0) (Nat.le_refl _) (fun _ => ?_) (fun z => by omega)
    refine Wf.sCs (as := [.int (-1)]) (rest := []) tkX7_next rfl rfl rfl ?_
    refine k_digit (fun _ => ?_) (fun z => absurd z (by decide))
    refine Wf.sIf tkX7_next rfl (fun _ => ?_) (fun z => absurd rfl z)
    exact fin 901 (Nat.le_refl _) z3 M hJ (by omega)
  · intro k hk ih z3 M hJ hek
    have k150 : kk M 150 7 = true := kk_ok hJ.2.1 (by decide +kernel)
    refine Wf.sAl tkX7_next rfl rfl rfl ?_
    refine Wf.sIl tkX7_next rfl rfl ?_
    refine Wf.sCv (rest := []) tkX7_next rfl rfl k150 rfl ?_
    refine k_see (n := n) hJ.2.1 hn (by rw [nx3 hJ]; exact hs0) (by omega) (fun z => ?_) (fun hkn => ?_)
    · refine Wf.sCs (as := [.int (-1)]) (rest := []) tkX7_next rfl rfl rfl ?_
      refine k_digit (fun _ => ?_) (fun z => absurd z (by decide))
      refine Wf.sIf tkX7_next rfl (fun _ => ?_) (fun z => absurd rfl z)
      exact fin k (by omega) z3 M hJ (by omega)
    · refine Wf.sCs (as := [.int (mI M 151 k)]) (rest := []) tkX7_next rfl rfl rfl ?_
      refine k_digit (fun hsm => ?_) (fun hsm => ?_)
      · refine Wf.sIf tkX7_next rfl (fun _ => ?_) (fun z => absurd rfl z)
        refine fin k (by omega) z3 M hJ ?_
        rcases hek with z | ⟨-, -, z⟩
        · exact z
        · rw [nx151 hJ, z] at hsm; cases hsm
      · refine Wf.sIf tkX7_next rfl (fun z => absurd z (by decide)) (fun _ => ?_)
        have stp : ∀ M1, nxJ M0 e M1 → Wf l X uX7_next (d + 2) true b 188 [(0, .ref 150), (1, .int (nI k)), (2, .int c), (3, .int z3)] [] M1 kr := by
          intro M1 hJ1
          refine Wf.sInc tkX7_next rfl rfl rfl ?_
          refine Wf.sInc tkX7_next rfl rfl rfl ?_
          refine Wf.sGo tkX7_next rfl ?_
          rw [nI_1]
          exact ih _ _ hJ1 (Or.inl (by omega))
        refine Wf.sIl tkX7_next rfl rfl ?_
        refine Wf.sIc tkX7_next rfl ?_
        refine Wf.sCm tkX7_next rfl (fun _ => stp M hJ) (fun _ => ?_)
        refine Wf.sAl tkX7_next rfl rfl rfl ?_
        refine Wf.sIc tkX7_next rfl ?_
        refine Wf.sAl tkX7_next rfl rfl rfl ?_
        refine Wf.sG tkX7_next rfl k150 ?_
        refine Wf.s2 (x := 10) (y := mI M 150 7) tkX7_next rfl ?_
        refine Wf.sAl tkX7_next rfl rfl rfl ?_
        refine Wf.sIl tkX7_next rfl rfl ?_
        refine Wf.sCv (rest := [.int (10 * mI M 150 7), .ref 150]) tkX7_next rfl rfl k150 rfl ?_
        refine k_see (n := n) hJ.2.1 hn (by rw [nx3 hJ]; exact hs0) (by omega) (fun z => absurd z (by omega)) (fun _ => ?_)
        refine Wf.s2 (x := 10 * mI M 150 7) (y := mI M 151 k) tkX7_next rfl ?_
        refine Wf.sIc tkX7_next rfl ?_
        refine Wf.s2 tkX7_next rfl ?_
        refine Wf.sPI tkX7_next rfl k150 ?_
        exact stp _ (nx_w hJ ⟨i32_lo _, i32_hi _⟩ (by decide) (by decide))
set_option maxRecDepth 20000 in
theorem nx_ev {e : Int} (hI : Iv Pt7 M) (he : e ≤ (mI M 150 5).toInt) (h : ∀ M', nxJ M e M' → nxP e M' → kr none M') : Ev l X uX7_next (d + 2) true 0 0 [.ref 150] M kr := by
  obtain ⟨n, hn, hs0⟩ := sz_of hI
  have k150 : kk M 150 7 = true := kk_ok hI (by decide +kernel)
  have b5 : (0 : Int) ≤ (mI M 150 5).toInt ∧ (mI M 150 5).toInt ≤ 901 := hI.2.2.2 150 5 (by decide)
  refine Ev.of (by decide) (Nat.le_of_ble_eq_true rfl) ?_
  have l1 : ∀ k : Nat, k ≤ 901 → e ≤ (k : Int) → Wf l X uX7_next (d + 2) true (mC M + 0, mS M + 0) 5 [(0, .ref 150), (1, .int (nI k))] [] M kr := by
    have on : ∀ k : Nat, k ≤ 901 → e ≤ (k : Int) → Wf l X uX7_next (d + 2) true (mC M + 0, mS M + 0) 21 [(0, .ref 150), (1, .int (nI k))] [] M kr := by
      intro k hk hek
      have hk2 : (nI k).toInt = (k : Int) := nI_toInt (by omega)
      have hJ0 : nxJ M e M := Jv.rf hI he
      have hJ1 : nxJ M e (wI M 150 4 (nI k)) := nx_w hJ0 ⟨by rw [hk2]; show (0 : Int) ≤ _; omega, by rw [hk2]; show _ ≤ (901 : Int); omega⟩ (by decide) (by decide)
      refine Wf.sAl tkX7_next rfl rfl rfl ?_
      refine Wf.sIl tkX7_next rfl rfl ?_
      refine Wf.sPI tkX7_next rfl k150 ?_
      refine Wf.sAl tkX7_next rfl rfl rfl ?_
      refine Wf.sIl tkX7_next rfl rfl ?_
      refine Wf.sCv (rest := []) tkX7_next rfl rfl k150 rfl ?_
      refine k_see (n := n) hJ1.2.1 hn (by rw [mI_w, if_neg (by decide)]; exact hs0) hk (fun _ => ?_) (fun hkn => ?_)
      · refine Wf.sIs tkX7_next rfl rfl ?_
        refine Wf.sAl tkX7_next rfl rfl rfl ?_
        refine Wf.sIc tkX7_next rfl ?_
        refine Wf.sPI tkX7_next rfl k150 ?_
        refine Wf.sAl tkX7_next rfl rfl rfl ?_
        refine Wf.sIc tkX7_next rfl ?_
        refine Wf.sPI tkX7_next rfl k150 ?_
        refine Wf.sIl tkX7_next rfl rfl ?_
        refine Wf.sIc tkX7_next rfl ?_
        refine Wf.sCm (x := -1) (y := -1) tkX7_next rfl (fun z => absurd rfl z) (fun _ => ?_)
        refine Wf.sAl tkX7_next rfl rfl rfl ?_
        refine Wf.sIc tkX7_next rfl ?_
        refine Wf.sPI tkX7_next rfl k150 ?_
        refine Wf.sAl tkX7_next rfl rfl rfl ?_
        refine Wf.sIl tkX7_next rfl rfl ?_
        refine Wf.sPI tkX7_next rfl k150 ?_
        refine Wf.sGo tkX7_next rfl ?_
        refine Wf.sVr tkX7_next rfl (h _ (Jv_wE (nx_w (nx_w (nx_w hJ1 ⟨by decide, by decide⟩ (by decide) (by decide)) ⟨by decide, by decide⟩ (by decide) (by decide)) ⟨by decide, by decide⟩ (by decide) (by decide)) ⟨by rw [hk2]; show (0 : Int) ≤ _; omega, by rw [hk2]; show _ ≤ (901 : Int); omega⟩ (by decide) (by rw [hk2]; exact hek)) (nxP_a (t := 0) (by decide) (by decide) rfl (Or.inl rfl)))
      · rw [show mI (wI M 150 4 (nI k)) 151 k = mI M 151 k from by rw [mI_w, if_neg (by omega)]]
        refine Wf.sIs tkX7_next rfl rfl ?_
        refine Wf.sAl tkX7_next rfl rfl rfl ?_
        refine Wf.sIc tkX7_next rfl ?_
        refine Wf.sPI tkX7_next rfl k150 ?_
        refine Wf.sAl tkX7_next rfl rfl rfl ?_
        refine Wf.sIc tkX7_next rfl ?_
        refine Wf.sPI tkX7_next rfl k150 ?_
        refine Wf.sIl tkX7_next rfl rfl ?_
        refine Wf.sIc tkX7_next rfl ?_
        have hJ3 : nxJ M e (wI (wI (wI M 150 4 (nI k)) 150 8 0) 150 7 0) := nx_w (nx_w hJ1 ⟨by decide, by decide⟩ (by decide) (by decide)) ⟨by decide, by decide⟩ (by decide) (by decide)
        refine Wf.sCm (x := mI M 151 k) (y := -1) tkX7_next rfl (fun _ => ?_) (fun _ => ?_)
        · refine Wf.sIl tkX7_next rfl rfl ?_
          refine Wf.sCs (as := [.int (mI M 151 k)]) (rest := []) tkX7_next rfl rfl rfl ?_
          refine k_small (fun hsm => ?_) (fun hsm => ?_)
          · refine Wf.sIf tkX7_next rfl (fun _ => ?_) (fun z => absurd rfl z)
            refine Wf.sIl tkX7_next rfl rfl ?_
            refine Wf.sCs (as := [.int (mI M 151 k)]) (rest := []) tkX7_next rfl rfl rfl ?_
            refine k_digit (fun hdg => ?_) (fun hdg => ?_)
            · refine Wf.sIf tkX7_next rfl (fun _ => ?_) (fun z => absurd rfl z)
              refine Wf.sAl tkX7_next rfl rfl rfl ?_
              refine Wf.sIl tkX7_next rfl rfl ?_
              refine Wf.sIc tkX7_next rfl ?_
              refine Wf.s2 tkX7_next rfl ?_
              rw [nI_1]
              have hk3 : (nI (k + 1)).toInt = (k : Int) + 1 := by rw [nI_toInt (by omega)]; omega
              refine Wf.sPI tkX7_next rfl k150 ?_
              have hJ4 : nxJ M e (wI (wI (wI (wI M 150 4 (nI k)) 150 8 0) 150 7 0) 150 5 (nI (k + 1))) := Jv_wE hJ3 ⟨by rw [hk3]; show (0 : Int) ≤ _; omega, by rw [hk3]; show _ ≤ (901 : Int); omega⟩ (by decide) (by rw [hk3]; show e ≤ _; omega)
              refine Wf.sAl tkX7_next rfl rfl rfl ?_
              refine Wf.sIl tkX7_next rfl rfl ?_
              refine Wf.sIc tkX7_next rfl ?_
              refine Wf.sCm (x := mI M 151 k) (y := 59) tkX7_next rfl (fun _ => ?_) (fun hq => ?_)
              · refine Wf.sIc tkX7_next rfl ?_
                refine Wf.sPI tkX7_next rfl k150 ?_
                refine Wf.sVr tkX7_next rfl (h _ (nx_w hJ4 ⟨by decide, by decide⟩ (by decide) (by decide)) (nxP_a (t := 1) (by decide) (by decide) rfl (Or.inr ?_)))
                rw [mI_w, if_neg (by decide), mI_w, if_pos (by decide), hk3]; omega
              · refine Wf.sIl tkX7_next rfl rfl ?_
                refine Wf.sGo tkX7_next rfl ?_
                refine Wf.sPI tkX7_next rfl k150 ?_
                have hq : mI M 151 k = 59 := hq
                rw [hq]
                refine Wf.sVr tkX7_next rfl (h _ (nx_w hJ4 ⟨by decide, by decide⟩ (by decide) (by decide)) (nxP_c (t := 59) (by decide) (by decide) rfl (Or.inr ?_)))
                rw [mI_w, if_neg (by decide), mI_w, if_pos (by decide), hk3]; omega
            · refine Wf.sIf tkX7_next rfl (fun z => absurd z (by decide)) (fun _ => ?_)
              refine Wf.sIc tkX7_next rfl ?_
              refine Wf.sIs tkX7_next rfl rfl ?_
              exact nx_digs hn hs0 h k hk 0 _ hJ3 (Or.inr ⟨hek, hkn, hdg⟩)
          · refine Wf.sIf tkX7_next rfl (fun z => absurd z (by decide)) (fun _ => ?_)
            exact nx_word hn hs0 h k hk 0 _ hJ3 rfl (Nat.zero_le _) (Or.inr ⟨hek, hkn, hsm⟩)
        · refine Wf.sAl tkX7_next rfl rfl rfl ?_
          refine Wf.sIc tkX7_next rfl ?_
          refine Wf.sPI tkX7_next rfl k150 ?_
          refine Wf.sAl tkX7_next rfl rfl rfl ?_
          refine Wf.sIl tkX7_next rfl rfl ?_
          refine Wf.sPI tkX7_next rfl k150 ?_
          refine Wf.sGo tkX7_next rfl ?_
          refine Wf.sVr tkX7_next rfl (h _ (Jv_wE (nx_w hJ3 ⟨by decide, by decide⟩ (by decide) (by decide)) ⟨by rw [hk2]; show (0 : Int) ≤ _; omega, by rw [hk2]; show _ ≤ (901 : Int); omega⟩ (by decide) (by rw [hk2]; exact hek)) (nxP_a (t := 0) (by decide) (by decide) rfl (Or.inl rfl)))
    refine dwn _ 901 ?_ ?_
    · intro hek
      refine Wf.sAl tkX7_next rfl rfl rfl ?_
      refine Wf.sIl tkX7_next rfl rfl ?_
      refine Wf.sCv (rest := []) tkX7_next rfl rfl k150 rfl ?_
      refine k_see (n := n) hI hn hs0 (Nat.le_refl _) (fun _ => ?_) (fun z => by omega)
      refine Wf.sIc tkX7_next rfl ?_
      refine Wf.sCm (x := -1) (y := 32) tkX7_next rfl (fun _ => on 901 (Nat.le_refl _) hek) (fun z => absurd z (by decide))
    · intro k hk ih hek
      refine Wf.sAl tkX7_next rfl rfl rfl ?_
      refine Wf.sIl tkX7_next rfl rfl ?_
      refine Wf.sCv (rest := []) tkX7_next rfl rfl k150 rfl ?_
      refine k_see (n := n) hI hn hs0 (by omega) (fun _ => ?_) (fun _ => ?_)
      · refine Wf.sIc tkX7_next rfl ?_
        exact Wf.sCm (x := -1) (y := 32) tkX7_next rfl (fun _ => on k (by omega) hek) (fun z => absurd z (by decide))
      · refine Wf.sIc tkX7_next rfl ?_
        refine Wf.sCm (x := mI M 151 k) (y := 32) tkX7_next rfl (fun _ => on k (by omega) hek) (fun _ => ?_)
        refine Wf.sInc tkX7_next rfl rfl rfl ?_
        refine Wf.sGo tkX7_next rfl ?_
        rw [nI_1]
        exact ih (by omega)
  have es : mI M 150 5 = nI (mI M 150 5).toInt.toNat := nI_at (by omega) (by omega)
  refine Wf.sAl tkX7_next rfl rfl rfl ?_
  refine Wf.sG tkX7_next rfl k150 ?_
  show Wf l X uX7_next (d + 2) true _ 4 _ [.int (mI M 150 5)] _ kr
  rw [es]
  refine Wf.sIs tkX7_next rfl rfl ?_
  exact l1 _ (by omega) (by omega)
theorem vh_next {e : Int} (d : Nat) : Vc l X U0 Pt7 e (d + 2) ((158, [(2, 0, 0, [150])], []), msN, [(none, [], [(150, 6, 0, 0, 1, [])]), (none, [], [(150, 6, 0, 2, 2, []), (150, 8, 0, 0, 8, [])]), (none, [], [(150, 6, 0, 3, 59, [])])]) := by
  intro av M kr hI he hb hf hr
  obtain ⟨v, t, rfl, hv, ht⟩ := gbs_1 hb
  obtain rfl := gbs_0 ht
  obtain rfl := gb_r1 hv
  exact nx_ev hI he (fun M' hJ hP => hr none M' hJ hP.1)
end NXT
