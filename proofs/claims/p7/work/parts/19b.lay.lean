/-! the costs that the reference lays: they come to an end, and then every cell but the goal has a step by which its cost goes down -/
def msL : Md3 := [(164, 0, 19)]
def fS (M0 : Mm) (k s : Nat) : Int32 := sfI (mI M0 153 0) (mI M0 153 1) (mI M0 153 10) (mI M0 150 26) (nI k) (nI s)
def cw (M : Mm) (j : Nat) : Int := (mI M 164 j).toInt
def cK (wet : Int32) (k : Nat) : Int := (coI wet (nI k)).toInt
def nC (M0 : Mm) : Nat := (mI M0 153 0 * mI M0 153 1).toInt.toNat
def lyI (M0 : Mm) (wet : Int32) (to : Nat) (M : Mm) : Prop := (∀ j, j < 20 → 0 ≤ cw M j ∧ cw M j ≤ 100000000) ∧ (∀ j, j < 20 → j ≠ to → cw M j < 100000000 → j < nC M0 ∧ ∃ s, s < 4 ∧ 0 ≤ (fS M0 j s).toInt ∧ cw M (fS M0 j s).toInt.toNat + 1 + cK wet j ≤ cw M j) ∧ (cw M to = cK wet to ∨ (cw M to = 100000000 ∧ ∀ s, s < 4 → fS M0 to s = -2))
def lyD (M0 : Mm) (wet : Int32) (M : Mm) (k s : Nat) : Prop := fS M0 k s = -2 ∨ cw M (fS M0 k s).toInt.toNat = 100000000 ∨ cw M k ≤ cw M (fS M0 k s).toInt.toNat + 1 + cK wet k
def lyF (M0 : Mm) (wet : Int32) (M : Mm) : Prop := ∀ k s, k < nC M0 → s < 4 → lyD M0 wet M k s
def sgn (M : Mm) : Nat → Nat
  | 0 => 0
  | j + 1 => sgn M j + (cw M j).toNat
theorem cw_w {M : Mm} {k j : Nat} {x : Int32} : cw (wI M 164 k x) j = if j = k then x.toInt else cw M j := by
  unfold cw
  rw [mI_w]
  by_cases h : j = k
  · rw [if_pos ⟨rfl, h⟩, if_pos h]
  · rw [if_neg (fun z => h z.2), if_neg h]
theorem sgn_lo {M : Mm} {k : Nat} {x : Int32} : ∀ n, n ≤ k → sgn (wI M 164 k x) n = sgn M n
  | 0, _ => rfl
  | n + 1, h => by
    show sgn (wI M 164 k x) n + (cw (wI M 164 k x) n).toNat = sgn M n + (cw M n).toNat
    rw [sgn_lo n (by omega), cw_w, if_neg (by omega)]
theorem sgn_up {M : Mm} {k : Nat} {x : Int32} (h0 : 0 ≤ x.toInt) (h : x.toInt < cw M k) : ∀ n, k < n → sgn (wI M 164 k x) n < sgn M n
  | 0, h => absurd h (Nat.not_lt_zero _)
  | n + 1, hn => by
    show sgn (wI M 164 k x) n + (cw (wI M 164 k x) n).toNat < sgn M n + (cw M n).toNat
    by_cases e : n = k
    · subst e
      rw [sgn_lo n (Nat.le_refl _), cw_w, if_pos rfl]
      omega
    · have := sgn_up h0 h n (by omega)
      rw [cw_w, if_neg e]
      omega
theorem cK_b (wet : Int32) (k : Nat) : cK wet k = 0 ∨ cK wet k = 1000 := coI_b wet (nI k)
theorem lyI_up {M0 M : Mm} {wet x : Int32} {to k s : Nat} (h : lyI M0 wet to M) (hk : k < 20) (hkn : k < nC M0) (hs : s < 4) (hf : 0 ≤ (fS M0 k s).toInt ∧ (fS M0 k s).toInt ≤ 19) (hx : x.toInt = cw M (fS M0 k s).toInt.toNat + 1 + cK wet k) (hlt : x.toInt < cw M k) : lyI M0 wet to (wI M 164 k x) ∧ sgn (wI M 164 k x) 20 < sgn M 20 := by
  obtain ⟨h1, h2, h3⟩ := h
  have hn : (fS M0 k s).toInt.toNat < 20 := by omega
  have b1 := h1 _ hn
  have b2 := h1 k hk
  have c1 := cK_b wet k
  have hne : (fS M0 k s).toInt.toNat ≠ k := by
    intro z
    rw [z] at hx
    omega
  have hto : k ≠ to := by
    intro z
    subst z
    rcases h3 with z | ⟨-, z⟩
    · omega
    · have e2 : (-2 : Int32).toInt = -2 := by decide
      rw [z s hs, e2] at hf
      omega
  refine ⟨⟨fun j hj => ?_, fun j hj hjt hlt2 => ?_, ?_⟩, sgn_up (by omega) hlt 20 hk⟩
  · rw [cw_w]
    split
    · omega
    · exact h1 j hj
  · rw [cw_w] at hlt2
    by_cases e : j = k
    · subst e
      refine ⟨hkn, s, hs, hf.1, ?_⟩
      rw [cw_w, if_neg hne, cw_w, if_pos rfl]
      omega
    · rw [if_neg e] at hlt2
      obtain ⟨g0, s', g1, g2, g3⟩ := h2 j hj hjt hlt2
      refine ⟨g0, s', g1, g2, ?_⟩
      rw [cw_w, cw_w, if_neg e]
      split
      · rename_i z
        rw [z] at g3
        omega
      · exact g3
  · rw [cw_w, if_neg (fun z => hto z.symm)]
    exact h3
section LAYC
variable {l : Launch} {X : Nat × (Nat → Int32)} {d : Nat} {kr : KR} {R : List (Nat × List Row)} {e : Int} {M0 : Mm} {wet : Int32} {to : Nat} {b : Nat × Nat}
/-- the memory while costs are laid -/
def lyJ (R : List (Nat × List Row)) (e : Int) (M0 M : Mm) : Prop := Jv (mkP R) msL (M0, e) M
theorem ly_sf {M : Mm} {k s : Nat} (hJ : lyJ R e M0 M) : sfI (mI M 153 0) (mI M 153 1) (mI M 153 10) (mI M 150 26) (nI k) (nI s) = fS M0 k s := by
  unfold fS
  rw [(hJ.2.2.1 153 0 rfl).1, (hJ.2.2.1 153 1 rfl).1, (hJ.2.2.1 153 10 rfl).1, (hJ.2.2.1 150 26 rfl).1]
theorem ly_w {M : Mm} {k : Nat} {x : Int32} (h164 : lkR R 164 = []) (hJ : lyJ R e M0 M) (hk : k < 20) : lyJ R e M0 (wI M 164 k x) := by
  refine Jv.wI hJ ?_ ?_ (by omega)
  · have e1 : (mkP R).2.2 164 = [] := h164
    rw [e1]
    exact ⟨i32_lo x, i32_hi x⟩
  · exact List.any_eq_true.mpr ⟨(164, 0, 19), List.mem_singleton.mpr rfl, Bool.and_eq_true_iff.mpr ⟨rfl, Bool.and_eq_true_iff.mpr ⟨rfl, Nat.ble_eq_true_of_le (by show k ≤ 19; omega)⟩⟩⟩
/-- where a pass over all cells and steps stands -/
def lyP (M0 : Mm) (wet : Int32) (S0 : Nat) (M : Mm) (more : Int32) (k s : Nat) : Prop := (more = 1 ∧ sgn M 20 < S0) ∨ (more = 0 ∧ sgn M 20 ≤ S0 ∧ ∀ k' s', k' < nC M0 → s' < 4 → (k' < k ∨ (k' = k ∧ s' < s)) → lyD M0 wet M k' s')
set_option maxRecDepth 20000 in
theorem ly_in (h164 : lkR R 164 = []) (hW : 2 ≤ (mI M0 153 0).toInt ∧ (mI M0 153 0).toInt ≤ 5) (hDp : 0 ≤ (mI M0 153 1).toInt ∧ (mI M0 153 1).toInt ≤ 4) (hto : to < 20) {S0 k : Nat} (hk : k < 20) (hkn : k < nC M0)
    (h : ∀ (more : Int32) (M : Mm), lyJ R e M0 M → lyI M0 wet to M → lyP M0 wet S0 M more (k + 1) 0 → Wf l X uX7_layCosts (d + 3) true b 54 [(0, .ref 150), (1, .int (nI to)), (2, .int wet), (3, .int more), (4, .int (nI (k + 1)))] [] M kr) : ∀ s, s ≤ 4 → ∀ (more : Int32) (M : Mm), lyJ R e M0 M → lyI M0 wet to M → lyP M0 wet S0 M more k s → Wf l X uX7_layCosts (d + 3) true b 66 [(0, .ref 150), (1, .int (nI to)), (2, .int wet), (3, .int more), (4, .int (nI k)), (5, .int (nI s))] [] M kr := by
  refine dwn _ 4 ?_ ?_
  · intro more M hJ hI hP
    refine Wf.sIl tkX7_layCosts rfl rfl ?_
    refine Wf.sIc tkX7_layCosts rfl ?_
    refine Wf.sCm (x := nI 4) (y := 4) tkX7_layCosts rfl (fun _ => ?_) (fun z => absurd (show (4 : Int32) ≤ nI 4 by decide) z)
    refine Wf.sInc tkX7_layCosts rfl rfl rfl ?_
    refine Wf.sGo tkX7_layCosts rfl ?_
    rw [nI_1]
    refine Wf.sub (fun x hx => List.mem_append_left [(5, .int (nI 4))] hx) (h more M hJ hI ?_)
    rcases hP with z | ⟨z1, z2, z3⟩
    · exact Or.inl z
    · refine Or.inr ⟨z1, z2, fun k' s' g1 g2 g3 => z3 k' s' g1 g2 ?_⟩
      rcases g3 with g | ⟨-, g⟩
      · omega
      · omega
  · intro s hs ih more M hJ hI hP
    have k150 : kk M 150 7 = true := kk_ok hJ.2.1 rfl
    have k164 : kk M 164 9 = true := kk_ok hJ.2.1 rfl
    have r33 : mR M 150 33 = 164 := List.mem_singleton.mp (hJ.2.1.2.2.1 150 33 (by decide))
    have m164 : (mK M 164).2 = 20 := by rw [hJ.2.1.2.1 164 (by decide)]; rfl
    have nx : ∀ (more' o : Int32) (M' : Mm), lyJ R e M0 M' → lyI M0 wet to M' → lyP M0 wet S0 M' more' k (s + 1) → Wf l X uX7_layCosts (d + 3) true b 156 [(0, .ref 150), (1, .int (nI to)), (2, .int wet), (3, .int more'), (4, .int (nI k)), (5, .int (nI s)), (6, .int o)] [] M' kr := by
      intro more' o M' hJ' hI' hP'
      refine Wf.sInc tkX7_layCosts rfl rfl rfl ?_
      refine Wf.sGo tkX7_layCosts rfl ?_
      rw [nI_1]
      exact Wf.sub (fun x hx => List.mem_append_left [(6, .int o)] hx) (ih more' M' hJ' hI' hP')
    have skp : lyD M0 wet M k s → lyP M0 wet S0 M more k (s + 1) := by
      intro hd
      rcases hP with z | ⟨z1, z2, z3⟩
      · exact Or.inl z
      · refine Or.inr ⟨z1, z2, fun k' s' g1 g2 g3 => ?_⟩
        by_cases q : k' = k ∧ s' = s
        · rw [q.1, q.2]; exact hd
        · exact z3 k' s' g1 g2 (by omega)
    refine Wf.sIl tkX7_layCosts rfl rfl ?_
    refine Wf.sIc tkX7_layCosts rfl ?_
    refine Wf.sCm (x := nI s) (y := 4) tkX7_layCosts rfl (fun z => absurd (show nI 4 ≤ nI s from z) (nI_ge hs (by decide))) (fun _ => ?_)
    refine Wf.sAl tkX7_layCosts rfl rfl rfl ?_
    refine Wf.sIl tkX7_layCosts rfl rfl ?_
    refine Wf.sIl tkX7_layCosts rfl rfl ?_
    refine Wf.sCv (as := [.int (nI k), .int (nI s)]) (rest := []) tkX7_layCosts rfl rfl k150 rfl ?_
    refine k_sf (d := d) hJ.2.1 (fun z => ?_) ?_
    · rw [(hJ.2.2.1 153 0 rfl).1] at z
      rw [z] at hW
      exact absurd hW.1 (by decide)
    rw [ly_sf hJ]
    have hfb : fS M0 k s = -2 ∨ (0 ≤ (fS M0 k s).toInt ∧ (fS M0 k s).toInt ≤ 19) := sfI_b hW hDp
    refine Wf.sIs tkX7_layCosts rfl rfl ?_
    refine Wf.sIl tkX7_layCosts rfl rfl ?_
    have e2 : (-2 : Int32).toInt = -2 := by decide
    refine Wf.sIf tkX7_layCosts rfl (fun z => ?_) (fun z => ?_)
    · refine nx more _ M hJ hI (skp (Or.inl ?_))
      rcases hfb with q | q
      · exact q
      · have z : fS M0 k s < 0 := z
        rw [Int32.lt_iff_toInt_lt] at z
        have e0 : (0 : Int32).toInt = 0 := rfl
        omega
    have hf : 0 ≤ (fS M0 k s).toInt ∧ (fS M0 k s).toInt ≤ 19 := by
      rcases hfb with q | q
      · have z : ¬ fS M0 k s < 0 := z
        rw [q] at z
        exact absurd (by decide) z
      · exact q
    have eo : fS M0 k s = nI (fS M0 k s).toInt.toNat := nI_at (by omega) (by omega)
    have hn20 : (fS M0 k s).toInt.toNat < 20 := by omega
    have cb := hI.1 _ hn20
    have kb := hI.1 k hk
    have cKb := cK_b wet k
    have eM : (100000000 : Int32).toInt = 100000000 := by decide
    have lo : iLo ≤ 0 := by decide
    have hi : (200000000 : Int) ≤ iHi := by decide
    refine Wf.sAl tkX7_layCosts rfl rfl rfl ?_
    refine Wf.sG tkX7_layCosts rfl k150 ?_
    show Wf l X uX7_layCosts (d + 3) true b 91 _ (.ref (mR M 150 33) :: []) M kr
    rw [r33]
    refine Wf.sIl tkX7_layCosts rfl rfl ?_
    refine Wf.sIal (j := (fS M0 k s).toInt.toNat) tkX7_layCosts rfl k164 ⟨eo, by omega, by rw [m164]; exact hn20⟩ ?_
    refine Wf.sIc tkX7_layCosts rfl ?_
    refine Wf.sCm (x := mI M 164 (fS M0 k s).toInt.toNat) (y := 100000000) tkX7_layCosts rfl (fun z => ?_) (fun _ => ?_)
    · refine nx more _ M hJ hI (skp (Or.inr (Or.inl ?_)))
      have z : mI M 164 (fS M0 k s).toInt.toNat = 100000000 := z
      show (mI M 164 (fS M0 k s).toInt.toNat).toInt = 100000000
      rw [z]
      exact eM
    have ev : (mI M 164 (fS M0 k s).toInt.toNat + 1 + coI wet (nI k)).toInt = cw M (fS M0 k s).toInt.toNat + 1 + cK wet k := by
      have e1 : (1 : Int32).toInt = 1 := rfl
      unfold cw at cb ⊢
      unfold cK at cKb ⊢
      have a1 : (mI M 164 (fS M0 k s).toInt.toNat + 1).toInt = (mI M 164 (fS M0 k s).toInt.toNat).toInt + 1 := add_i (by omega) (by omega)
      rw [add_i (by rw [a1]; omega) (by rw [a1]; omega), a1]
    refine Wf.sAl tkX7_layCosts rfl rfl rfl ?_
    refine Wf.sG tkX7_layCosts rfl k150 ?_
    show Wf l X uX7_layCosts (d + 3) true b 104 _ (.ref (mR M 150 33) :: []) M kr
    rw [r33]
    refine Wf.sIl tkX7_layCosts rfl rfl ?_
    refine Wf.sIal (j := (fS M0 k s).toInt.toNat) tkX7_layCosts rfl k164 ⟨eo, by omega, by rw [m164]; exact hn20⟩ ?_
    refine Wf.sIc tkX7_layCosts rfl ?_
    refine Wf.s2 tkX7_layCosts rfl ?_
    refine Wf.sAl tkX7_layCosts rfl rfl rfl ?_
    refine Wf.sIl tkX7_layCosts rfl rfl ?_
    refine Wf.sIl tkX7_layCosts rfl rfl ?_
    refine Wf.sCv (as := [.int (nI k), .int wet]) (rest := [.int (mI M 164 (fS M0 k s).toInt.toNat + 1)]) tkX7_layCosts rfl rfl k150 rfl ?_
    refine k_cof (d := d + 1) ?_
    refine Wf.s2 (x := mI M 164 (fS M0 k s).toInt.toNat + 1) (y := coI wet (nI k)) tkX7_layCosts rfl ?_
    refine Wf.sAl tkX7_layCosts rfl rfl rfl ?_
    refine Wf.sG tkX7_layCosts rfl k150 ?_
    show Wf l X uX7_layCosts (d + 3) true b 121 _ (.ref (mR M 150 33) :: [.int (mI M 164 (fS M0 k s).toInt.toNat + 1 + coI wet (nI k))]) M kr
    rw [r33]
    refine Wf.sIl tkX7_layCosts rfl rfl ?_
    refine Wf.sIal (j := k) tkX7_layCosts rfl k164 ⟨rfl, by omega, by rw [m164]; exact hk⟩ ?_
    refine Wf.sCm (x := mI M 164 (fS M0 k s).toInt.toNat + 1 + coI wet (nI k)) (y := mI M 164 k) tkX7_layCosts rfl (fun z => ?_) (fun z => ?_)
    · have z : mI M 164 (fS M0 k s).toInt.toNat + 1 + coI wet (nI k) < mI M 164 k := z
      rw [Int32.lt_iff_toInt_lt] at z
      refine Wf.sAl tkX7_layCosts rfl rfl rfl ?_
      refine Wf.sG tkX7_layCosts rfl k150 ?_
      show Wf l X uX7_layCosts (d + 3) true b 134 _ (.ref (mR M 150 33) :: []) M kr
      rw [r33]
      refine Wf.sIl tkX7_layCosts rfl rfl ?_
      refine Wf.sAl tkX7_layCosts rfl rfl rfl ?_
      refine Wf.sG tkX7_layCosts rfl k150 ?_
      show Wf l X uX7_layCosts (d + 3) true b 140 _ (.ref (mR M 150 33) :: [.int (nI k), .ref 164]) M kr
      rw [r33]
      refine Wf.sIl tkX7_layCosts rfl rfl ?_
      refine Wf.sIal (j := (fS M0 k s).toInt.toNat) tkX7_layCosts rfl k164 ⟨eo, by omega, by rw [m164]; exact hn20⟩ ?_
      refine Wf.sIc tkX7_layCosts rfl ?_
      refine Wf.s2 tkX7_layCosts rfl ?_
      refine Wf.sAl tkX7_layCosts rfl rfl rfl ?_
      refine Wf.sIl tkX7_layCosts rfl rfl ?_
      refine Wf.sIl tkX7_layCosts rfl rfl ?_
      refine Wf.sCv (as := [.int (nI k), .int wet]) (rest := [.int (mI M 164 (fS M0 k s).toInt.toNat + 1), .int (nI k), .ref 164]) tkX7_layCosts rfl rfl k150 rfl ?_
      refine k_cof (d := d + 1) ?_
      refine Wf.s2 (x := mI M 164 (fS M0 k s).toInt.toNat + 1) (y := coI wet (nI k)) tkX7_layCosts rfl ?_
      refine Wf.sIas (j := k) tkX7_layCosts rfl k164 ⟨rfl, by omega, by rw [m164]; exact hk⟩ ?_
      refine Wf.sIc tkX7_layCosts rfl ?_
      refine Wf.sIs tkX7_layCosts rfl rfl ?_
      obtain ⟨u1, u2⟩ := lyI_up hI hk hkn hs hf ev z
      refine nx 1 _ _ (ly_w h164 hJ hk) u1 (Or.inl ⟨rfl, ?_⟩)
      rcases hP with q | ⟨-, q, -⟩
      · omega
      · omega
    · refine Wf.sGo tkX7_layCosts rfl ?_
      refine nx more _ M hJ hI (skp (Or.inr (Or.inr ?_)))
      have z : ¬ mI M 164 (fS M0 k s).toInt.toNat + 1 + coI wet (nI k) < mI M 164 k := z
      rw [Int32.lt_iff_toInt_lt, ev] at z
      show (mI M 164 k).toInt ≤ _
      omega
theorem nC_b (hW : 2 ≤ (mI M0 153 0).toInt ∧ (mI M0 153 0).toInt ≤ 5) (hDp : 0 ≤ (mI M0 153 1).toInt ∧ (mI M0 153 1).toInt ≤ 4) : nC M0 ≤ 20 ∧ mI M0 153 0 * mI M0 153 1 = nI (nC M0) := by
  have q1 : (mI M0 153 0).toInt * (mI M0 153 1).toInt ≤ 5 * 4 := Int.mul_le_mul hW.2 hDp.2 hDp.1 (by omega)
  have q2 : 0 ≤ (mI M0 153 0).toInt * (mI M0 153 1).toInt := Int.mul_nonneg (by omega) hDp.1
  have lo : iLo ≤ 0 := by decide
  have hi : (100 : Int) ≤ iHi := by decide
  have em : (mI M0 153 0 * mI M0 153 1).toInt = (mI M0 153 0).toInt * (mI M0 153 1).toInt := mul_i (by omega) (by omega)
  exact ⟨by unfold nC; omega, nI_at (by omega) (by omega)⟩
set_option maxRecDepth 20000 in
theorem ly_out (h164 : lkR R 164 = []) (hW : 2 ≤ (mI M0 153 0).toInt ∧ (mI M0 153 0).toInt ≤ 5) (hDp : 0 ≤ (mI M0 153 1).toInt ∧ (mI M0 153 1).toInt ≤ 4) (hto : to < 20) {S0 : Nat}
    (h : ∀ (more : Int32) (M : Mm), lyJ R e M0 M → lyI M0 wet to M → ((more = 1 ∧ sgn M 20 < S0) ∨ (more = 0 ∧ lyF M0 wet M)) → Wf l X uX7_layCosts (d + 3) true b 45 [(0, .ref 150), (1, .int (nI to)), (2, .int wet), (3, .int more)] [] M kr) : ∀ k, k ≤ nC M0 → ∀ (more : Int32) (M : Mm), lyJ R e M0 M → lyI M0 wet to M → lyP M0 wet S0 M more k 0 → Wf l X uX7_layCosts (d + 3) true b 54 [(0, .ref 150), (1, .int (nI to)), (2, .int wet), (3, .int more), (4, .int (nI k))] [] M kr := by
  obtain ⟨hn20, hne⟩ := nC_b hW hDp
  refine dwn _ (nC M0) ?_ ?_
  · intro more M hJ hI hP
    have k150 : kk M 150 7 = true := kk_ok hJ.2.1 rfl
    refine Wf.sIl tkX7_layCosts rfl rfl ?_
    refine Wf.sAl tkX7_layCosts rfl rfl rfl ?_
    refine Wf.sCv (as := []) (rest := [.int (nI (nC M0))]) tkX7_layCosts rfl rfl k150 rfl ?_
    refine k_cells hJ.2.1 ?_
    rw [(hJ.2.2.1 153 0 rfl).1, (hJ.2.2.1 153 1 rfl).1, hne]
    refine Wf.sCm (x := nI (nC M0)) (y := nI (nC M0)) tkX7_layCosts rfl (fun _ => ?_) (fun z => absurd (Int32.le_refl _) z)
    refine Wf.sGo tkX7_layCosts rfl ?_
    refine Wf.sub (fun x hx => List.mem_append_left [(4, .int (nI (nC M0)))] hx) (h more M hJ hI ?_)
    rcases hP with z | ⟨z1, z2, z3⟩
    · exact Or.inl z
    · exact Or.inr ⟨z1, fun k' s' g1 g2 => z3 k' s' g1 g2 (Or.inl g1)⟩
  · intro k hk ih more M hJ hI hP
    have k150 : kk M 150 7 = true := kk_ok hJ.2.1 rfl
    refine Wf.sIl tkX7_layCosts rfl rfl ?_
    refine Wf.sAl tkX7_layCosts rfl rfl rfl ?_
    refine Wf.sCv (as := []) (rest := [.int (nI k)]) tkX7_layCosts rfl rfl k150 rfl ?_
    refine k_cells hJ.2.1 ?_
    rw [(hJ.2.2.1 153 0 rfl).1, (hJ.2.2.1 153 1 rfl).1, hne]
    refine Wf.sCm (x := nI k) (y := nI (nC M0)) tkX7_layCosts rfl (fun z => absurd z (nI_ge hk (by omega))) (fun _ => ?_)
    refine Wf.sIc tkX7_layCosts rfl ?_
    refine Wf.sIs tkX7_layCosts rfl rfl ?_
    exact ly_in h164 hW hDp hto (by omega) hk ih 0 (by decide) more M hJ hI hP
set_option maxRecDepth 20000 in
theorem ly_while (h164 : lkR R 164 = []) (hW : 2 ≤ (mI M0 153 0).toInt ∧ (mI M0 153 0).toInt ≤ 5) (hDp : 0 ≤ (mI M0 153 1).toInt ∧ (mI M0 153 1).toInt ≤ 4) (hto : to < 20) (h : ∀ M, lyJ R e M0 M → lyI M0 wet to M → lyF M0 wet M → kr none M) : ∀ (n : Nat) (M : Mm), sgn M 20 < n → lyJ R e M0 M → lyI M0 wet to M → Wf l X uX7_layCosts (d + 3) true b 45 [(0, .ref 150), (1, .int (nI to)), (2, .int wet), (3, .int 1)] [] M kr := by
  intro n
  induction n with
  | zero => intro M hn; exact absurd hn (Nat.not_lt_zero _)
  | succ n ih =>
    intro M hn hJ hI
    refine Wf.sIl tkX7_layCosts rfl rfl ?_
    refine Wf.sIf tkX7_layCosts rfl (fun z => absurd z (by decide)) (fun _ => ?_)
    refine Wf.sIc tkX7_layCosts rfl ?_
    refine Wf.sIs tkX7_layCosts rfl rfl ?_
    refine Wf.sIc tkX7_layCosts rfl ?_
    refine Wf.sIs tkX7_layCosts rfl rfl ?_
    refine ly_out (S0 := sgn M 20) h164 hW hDp hto (fun more M' hJ' hI' hq => ?_) 0 (Nat.zero_le _) 0 M hJ hI (Or.inr ⟨rfl, Nat.le_refl _, fun k' s' g1 g2 g3 => ?_⟩)
    · rcases hq with ⟨rfl, q⟩ | ⟨rfl, q⟩
      · exact ih M' (by omega) hJ' hI'
      · refine Wf.sIl tkX7_layCosts rfl rfl ?_
        refine Wf.sIf tkX7_layCosts rfl (fun _ => ?_) (fun z => absurd rfl z)
        exact Wf.sVr tkX7_layCosts rfl (h M' hJ' hI' q)
    · rcases g3 with g | ⟨-, g⟩
      · omega
      · omega
set_option maxRecDepth 20000 in
theorem ly_ev (h164 : lkR R 164 = []) (hI0 : Iv (mkP R) M0) (he : eO e M0) (hW : 2 ≤ (mI M0 153 0).toInt ∧ (mI M0 153 0).toInt ≤ 5) (hDp : 0 ≤ (mI M0 153 1).toInt ∧ (mI M0 153 1).toInt ≤ 4) (hto : to < 20) (h : ∀ M, lyJ R e M0 M → lyI M0 wet to M → lyF M0 wet M → kr none M) : Ev l X uX7_layCosts (d + 3) true 0 0 [.ref 150, .int (nI to), .int wet] M0 kr := by
  have eM : (100000000 : Int32).toInt = 100000000 := by decide
  refine Ev.of (by decide) (Nat.le_of_ble_eq_true rfl) ?_
  have fin : ∀ M, lyJ R e M0 M → lyI M0 wet to M → ∀ z : Int32, Wf l X uX7_layCosts (d + 3) true (mC M0 + 0, mS M0 + 0) 43 [(0, .ref 150), (1, .int (nI to)), (2, .int wet), (3, .int z)] [] M kr := by
    intro M hJ hI z
    refine Wf.sIc tkX7_layCosts rfl ?_
    refine Wf.sIs tkX7_layCosts rfl rfl ?_
    exact ly_while h164 hW hDp hto h (sgn M 20 + 1) M (Nat.lt_succ_self _) hJ hI
  have key : ∀ k, k ≤ 20 → ∀ M, lyJ R e M0 M → (∀ j, j < k → mI M 164 j = 100000000) → Wf l X uX7_layCosts (d + 3) true (mC M0 + 0, mS M0 + 0) 2 [(0, .ref 150), (1, .int (nI to)), (2, .int wet), (3, .int (nI k))] [] M kr := by
    refine dwn _ 20 ?_ ?_
    · intro M hJ hall
      have k150 : kk M 150 7 = true := kk_ok hJ.2.1 rfl
      have k164 : kk M 164 9 = true := kk_ok hJ.2.1 rfl
      have r33 : mR M 150 33 = 164 := List.mem_singleton.mp (hJ.2.1.2.2.1 150 33 (by decide))
      have m164 : (mK M 164).2 = 20 := by rw [hJ.2.1.2.1 164 (by decide)]; rfl
      have hc : ∀ j, j < 20 → cw M j = 100000000 := fun j hj => by unfold cw; rw [hall j hj]; exact eM
      refine Wf.sIl tkX7_layCosts rfl rfl ?_
      refine Wf.sIc tkX7_layCosts rfl ?_
      refine Wf.sCm (x := nI 20) (y := 20) tkX7_layCosts rfl (fun _ => ?_) (fun z => absurd (show (20 : Int32) ≤ nI 20 by decide) z)
      refine Wf.sAl tkX7_layCosts rfl rfl rfl ?_
      refine Wf.sIl tkX7_layCosts rfl rfl ?_
      refine Wf.sCv (as := [.int (nI to)]) (rest := []) tkX7_layCosts rfl rfl k150 rfl ?_
      refine k_isw (d := d + 1) hJ.2.1 ?_
      rw [(hJ.2.2.1 153 10 rfl).1, (hJ.2.2.1 150 26 rfl).1]
      cases hw : isw (mI M0 153 10) (mI M0 150 26) (nI to) with
      | true =>
        refine Wf.sIf tkX7_layCosts rfl (fun _ => ?_) (fun z => absurd z (by decide))
        refine fin M hJ ⟨fun j hj => by rw [hc j hj]; omega, fun j hj _ q => by rw [hc j hj] at q; omega, Or.inr ⟨hc to hto, fun s hs => ?_⟩⟩ _
        exact sfI_wall hw
      | false =>
        refine Wf.sIf tkX7_layCosts rfl (fun z => absurd rfl z) (fun _ => ?_)
        refine Wf.sAl tkX7_layCosts rfl rfl rfl ?_
        refine Wf.sG tkX7_layCosts rfl k150 ?_
        show Wf l X uX7_layCosts (d + 3) true _ 35 _ [.ref (mR M 150 33)] M kr
        rw [r33]
        refine Wf.sIl tkX7_layCosts rfl rfl ?_
        refine Wf.sAl tkX7_layCosts rfl rfl rfl ?_
        refine Wf.sIl tkX7_layCosts rfl rfl ?_
        refine Wf.sIl tkX7_layCosts rfl rfl ?_
        refine Wf.sCv (as := [.int (nI to), .int wet]) (rest := [.int (nI to), .ref 164]) tkX7_layCosts rfl rfl k150 rfl ?_
        refine k_cof (d := d + 1) ?_
        refine Wf.sIas (j := to) tkX7_layCosts rfl k164 ⟨rfl, by omega, by rw [m164]; exact hto⟩ ?_
        have cKb := cK_b wet to
        unfold cK at cKb
        refine fin _ (ly_w h164 hJ hto) ⟨fun j hj => ?_, fun j hj hjt q => ?_, Or.inl ?_⟩ _
        · rw [cw_w]
          split
          · omega
          · rw [hc j hj]; omega
        · rw [cw_w, if_neg hjt, hc j hj] at q
          omega
        · rw [cw_w, if_pos rfl]
          rfl
    · intro k hk ih M hJ hall
      have k150 : kk M 150 7 = true := kk_ok hJ.2.1 rfl
      have k164 : kk M 164 9 = true := kk_ok hJ.2.1 rfl
      have r33 : mR M 150 33 = 164 := List.mem_singleton.mp (hJ.2.1.2.2.1 150 33 (by decide))
      have m164 : (mK M 164).2 = 20 := by rw [hJ.2.1.2.1 164 (by decide)]; rfl
      refine Wf.sIl tkX7_layCosts rfl rfl ?_
      refine Wf.sIc tkX7_layCosts rfl ?_
      refine Wf.sCm (x := nI k) (y := 20) tkX7_layCosts rfl (fun z => absurd (show nI 20 ≤ nI k from z) (nI_ge hk (by decide))) (fun _ => ?_)
      refine Wf.sAl tkX7_layCosts rfl rfl rfl ?_
      refine Wf.sG tkX7_layCosts rfl k150 ?_
      show Wf l X uX7_layCosts (d + 3) true _ 12 _ [.ref (mR M 150 33)] M kr
      rw [r33]
      refine Wf.sIl tkX7_layCosts rfl rfl ?_
      refine Wf.sIc tkX7_layCosts rfl ?_
      refine Wf.sIas (j := k) tkX7_layCosts rfl k164 ⟨rfl, by omega, by rw [m164]; exact hk⟩ ?_
      refine Wf.sInc tkX7_layCosts rfl rfl rfl ?_
      refine Wf.sGo tkX7_layCosts rfl ?_
      rw [nI_1]
      refine ih _ (ly_w h164 hJ hk) (fun j hj => ?_)
      rw [mI_w]
      by_cases q : j = k
      · rw [if_pos ⟨rfl, q⟩]
      · rw [if_neg (fun z => q z.2)]
        exact hall j (by omega)
  refine Wf.sIc tkX7_layCosts rfl ?_
  refine Wf.sIs tkX7_layCosts rfl rfl ?_
  exact key 0 (Nat.zero_le _) M0 (Jv.rf hI0 he) (fun j hj => absurd hj (Nat.not_lt_zero _))
theorem wd_of {M : Mm} (h0 : rwB (lkR R 153) 0 = (2, 5)) (h1 : rwB (lkR R 153) 1 = (0, 4)) (hI : Iv (mkP R) M) : (2 ≤ (mI M 153 0).toInt ∧ (mI M 153 0).toInt ≤ 5) ∧ (0 ≤ (mI M 153 1).toInt ∧ (mI M 153 1).toInt ≤ 4) := by
  have b0 := hI.2.2.2 153 0 (by decide)
  have b1 := hI.2.2.2 153 1 (by decide)
  have e0 : rwB ((mkP R).2.2 153) 0 = (2, 5) := h0
  have e1 : rwB ((mkP R).2.2 153) 1 = (0, 4) := h1
  rw [e0] at b0
  rw [e1] at b1
  exact ⟨b0, b1⟩
theorem vh_lay (h0 : rwB (lkR R 153) 0 = (2, 5)) (h1 : rwB (lkR R 153) 1 = (0, 4)) (h164 : lkR R 164 = []) (d : Nat) : Vc l X U0 (mkP R) e (d + 4) ((232, [(2, 0, 0, [150]), (0, 0, 19, []), (0, iLo, iHi, [])], []), [(164, 0, 19)], [(none, [], [])]) := by
  intro av M kr hI he hb hf hr
  obtain ⟨v, t, rfl, hv, ht⟩ := gbs_1 hb
  obtain ⟨v2, t, rfl, hv2, ht⟩ := gbs_1 ht
  obtain ⟨v3, t, rfl, hv3, ht⟩ := gbs_1 ht
  obtain rfl := gbs_0 ht
  obtain rfl := gb_r1 hv
  obtain ⟨x, rfl, hx1, hx2⟩ := gb_i hv2
  obtain ⟨wet, rfl, -, -⟩ := gb_i hv3
  obtain ⟨hW, hDp⟩ := wd_of h0 h1 hI
  have ex : x = nI x.toInt.toNat := nI_at (by omega) (by omega)
  have hk : Ev l X uX7_layCosts (d + 4) true 0 0 [.ref 150, .int (nI x.toInt.toNat), .int wet] M kr := ly_ev (d := d + 1) h164 hI he hW hDp (by omega) (fun M' hJ' _ _ => hr none M' hJ' gps_n)
  rw [← ex] at hk
  exact hk
end LAYC
