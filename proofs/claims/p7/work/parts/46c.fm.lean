/-! a memory of the law's states has the places of one of the form mk; exact specs hold over it -/
section TOMK
theorem cle' {b : Bool} {x y n : Nat} (hx : x ≤ n) (hy : y ≤ n) : cond b x y ≤ n := by
  cases b
  · exact hy
  · exact hx
theorem blt_f {i n : Nat} (h : n ≤ i) : Nat.blt i n = false := by
  cases hb : Nat.blt i n with
  | true => exact absurd (Nat.le_of_ble_eq_true hb) (by omega)
  | false => rfl
theorem arr_le {k n c m : Nat} (h : ∀ j, j < n → c + m * j ≤ 167) : cond (Nat.blt k n) (c + m * k) 0 ≤ 167 := by
  cases hb : Nat.blt k n with
  | true => exact h k (Nat.le_of_ble_eq_true hb)
  | false => exact Nat.zero_le _
theorem kO_1 {p r k : Nat} (hp : p ≤ 100) (hr : r ≤ 100) : R0_1 p r k ≤ 167 := by
  unfold R0_1
  repeat' (first | exact Nat.le_of_ble_eq_true rfl | omega | refine cle' ?_ ?_)
theorem kO_2 {p r k : Nat} (hp : p ≤ 100) (hr : r ≤ 100) : R0_2 p r k ≤ 167 := by
  unfold R0_2
  repeat' (first | exact Nat.le_of_ble_eq_true rfl | omega | refine cle' ?_ ?_)
theorem kO_7 {p r k : Nat} (hp : p ≤ 100) (hr : r ≤ 100) : R0_7 p r k ≤ 167 := by
  unfold R0_7
  repeat' (first | exact Nat.le_of_ble_eq_true rfl | omega | refine cle' ?_ ?_)
theorem kO_20 {p r k : Nat} (hp : p ≤ 100) (hr : r ≤ 100) : R0_20 p r k ≤ 167 := by
  unfold R0_20
  repeat' (first | exact Nat.le_of_ble_eq_true rfl | omega | refine cle' ?_ ?_)
theorem kO_33 {p r k : Nat} (hp : p ≤ 100) (hr : r ≤ 100) : R0_33 p r k ≤ 167 := by
  unfold R0_33
  repeat' (first | exact Nat.le_of_ble_eq_true rfl | omega | refine cle' ?_ ?_)
theorem kO_38 {p r k : Nat} (hp : p ≤ 100) (hr : r ≤ 100) : R0_38 p r k ≤ 167 := arr_le (n := 16) (c := 55) (m := 5) (fun j hj => by omega)
theorem kO_39 {p r k : Nat} (hp : p ≤ 100) (hr : r ≤ 100) : R0_39 p r k ≤ 167 := arr_le (n := 3) (c := 135) (m := 5) (fun j hj => by omega)
theorem kO_41 {p r k : Nat} (hp : p ≤ 100) (hr : r ≤ 100) : R0_41 p r k ≤ 167 := by
  unfold R0_41
  repeat' (first | exact Nat.le_of_ble_eq_true rfl | omega | refine cle' ?_ ?_)
theorem kO_43 {p r k : Nat} (hp : p ≤ 100) (hr : r ≤ 100) : R0_43 p r k ≤ 167 := by
  unfold R0_43
  repeat' (first | exact Nat.le_of_ble_eq_true rfl | omega | refine cle' ?_ ?_)
theorem kO_44 {p r k : Nat} (hp : p ≤ 100) (hr : r ≤ 100) : R0_44 p r k ≤ 167 := by
  unfold R0_44
  cases hb : Nat.blt k 6 with
  | true => have := Nat.le_of_ble_eq_true hb; show 45 + k ≤ 167; omega
  | false => exact Nat.zero_le _
theorem kO_55 {p r k : Nat} (hp : p ≤ 100) (hr : r ≤ 100) : R0_55 p r k ≤ 167 := by
  unfold R0_55
  repeat' (first | exact Nat.le_of_ble_eq_true rfl | omega | refine cle' ?_ ?_)
theorem kO_60 {p r k : Nat} (hp : p ≤ 100) (hr : r ≤ 100) : R0_60 p r k ≤ 167 := by
  unfold R0_60
  repeat' (first | exact Nat.le_of_ble_eq_true rfl | omega | refine cle' ?_ ?_)
theorem kO_65 {p r k : Nat} (hp : p ≤ 100) (hr : r ≤ 100) : R0_65 p r k ≤ 167 := by
  unfold R0_65
  repeat' (first | exact Nat.le_of_ble_eq_true rfl | omega | refine cle' ?_ ?_)
theorem kO_70 {p r k : Nat} (hp : p ≤ 100) (hr : r ≤ 100) : R0_70 p r k ≤ 167 := by
  unfold R0_70
  repeat' (first | exact Nat.le_of_ble_eq_true rfl | omega | refine cle' ?_ ?_)
theorem kO_75 {p r k : Nat} (hp : p ≤ 100) (hr : r ≤ 100) : R0_75 p r k ≤ 167 := by
  unfold R0_75
  repeat' (first | exact Nat.le_of_ble_eq_true rfl | omega | refine cle' ?_ ?_)
theorem kO_80 {p r k : Nat} (hp : p ≤ 100) (hr : r ≤ 100) : R0_80 p r k ≤ 167 := by
  unfold R0_80
  repeat' (first | exact Nat.le_of_ble_eq_true rfl | omega | refine cle' ?_ ?_)
theorem kO_85 {p r k : Nat} (hp : p ≤ 100) (hr : r ≤ 100) : R0_85 p r k ≤ 167 := by
  unfold R0_85
  repeat' (first | exact Nat.le_of_ble_eq_true rfl | omega | refine cle' ?_ ?_)
theorem kO_90 {p r k : Nat} (hp : p ≤ 100) (hr : r ≤ 100) : R0_90 p r k ≤ 167 := by
  unfold R0_90
  repeat' (first | exact Nat.le_of_ble_eq_true rfl | omega | refine cle' ?_ ?_)
theorem kO_95 {p r k : Nat} (hp : p ≤ 100) (hr : r ≤ 100) : R0_95 p r k ≤ 167 := by
  unfold R0_95
  repeat' (first | exact Nat.le_of_ble_eq_true rfl | omega | refine cle' ?_ ?_)
theorem kO_100 {p r k : Nat} (hp : p ≤ 100) (hr : r ≤ 100) : R0_100 p r k ≤ 167 := by
  unfold R0_100
  repeat' (first | exact Nat.le_of_ble_eq_true rfl | omega | refine cle' ?_ ?_)
theorem kO_105 {p r k : Nat} (hp : p ≤ 100) (hr : r ≤ 100) : R0_105 p r k ≤ 167 := by
  unfold R0_105
  repeat' (first | exact Nat.le_of_ble_eq_true rfl | omega | refine cle' ?_ ?_)
theorem kO_110 {p r k : Nat} (hp : p ≤ 100) (hr : r ≤ 100) : R0_110 p r k ≤ 167 := by
  unfold R0_110
  repeat' (first | exact Nat.le_of_ble_eq_true rfl | omega | refine cle' ?_ ?_)
theorem kO_115 {p r k : Nat} (hp : p ≤ 100) (hr : r ≤ 100) : R0_115 p r k ≤ 167 := by
  unfold R0_115
  repeat' (first | exact Nat.le_of_ble_eq_true rfl | omega | refine cle' ?_ ?_)
theorem kO_120 {p r k : Nat} (hp : p ≤ 100) (hr : r ≤ 100) : R0_120 p r k ≤ 167 := by
  unfold R0_120
  repeat' (first | exact Nat.le_of_ble_eq_true rfl | omega | refine cle' ?_ ?_)
theorem kO_125 {p r k : Nat} (hp : p ≤ 100) (hr : r ≤ 100) : R0_125 p r k ≤ 167 := by
  unfold R0_125
  repeat' (first | exact Nat.le_of_ble_eq_true rfl | omega | refine cle' ?_ ?_)
theorem kO_130 {p r k : Nat} (hp : p ≤ 100) (hr : r ≤ 100) : R0_130 p r k ≤ 167 := by
  unfold R0_130
  repeat' (first | exact Nat.le_of_ble_eq_true rfl | omega | refine cle' ?_ ?_)
theorem kO_135 {p r k : Nat} (hp : p ≤ 100) (hr : r ≤ 100) : R0_135 p r k ≤ 167 := by
  unfold R0_135
  repeat' (first | exact Nat.le_of_ble_eq_true rfl | omega | refine cle' ?_ ?_)
theorem kO_140 {p r k : Nat} (hp : p ≤ 100) (hr : r ≤ 100) : R0_140 p r k ≤ 167 := by
  unfold R0_140
  repeat' (first | exact Nat.le_of_ble_eq_true rfl | omega | refine cle' ?_ ?_)
theorem kO_145 {p r k : Nat} (hp : p ≤ 100) (hr : r ≤ 100) : R0_145 p r k ≤ 167 := by
  unfold R0_145
  repeat' (first | exact Nat.le_of_ble_eq_true rfl | omega | refine cle' ?_ ?_)
theorem kO_150 {p r k : Nat} (hp : p ≤ 100) (hr : r ≤ 100) : R0_150 p r k ≤ 167 := by
  unfold R0_150
  repeat' (first | exact Nat.le_of_ble_eq_true rfl | omega | refine cle' ?_ ?_)
set_option maxRecDepth 20000 in
theorem kO_mk {w : Nat × Nat} {p r : Nat} {I : Nat → Nat → Int32} {L : Nat → Nat → Int64} (hp : p ≤ 100) (hr : r ≤ 100) : kO (mk w p r I L) := by
  intro a i
  show R0 p r a i ≤ 167
  unfold R0
  repeat' (first | exact Nat.zero_le _ | exact kO_1 hp hr | exact kO_2 hp hr | exact kO_7 hp hr | exact kO_20 hp hr | exact kO_33 hp hr | exact kO_38 hp hr | exact kO_39 hp hr | exact kO_41 hp hr | exact kO_43 hp hr | exact kO_44 hp hr | exact kO_55 hp hr | exact kO_60 hp hr | exact kO_65 hp hr | exact kO_70 hp hr | exact kO_75 hp hr | exact kO_80 hp hr | exact kO_85 hp hr | exact kO_90 hp hr | exact kO_95 hp hr | exact kO_100 hp hr | exact kO_105 hp hr | exact kO_110 hp hr | exact kO_115 hp hr | exact kO_120 hp hr | exact kO_125 hp hr | exact kO_130 hp hr | exact kO_135 hp hr | exact kO_140 hp hr | exact kO_145 hp hr | exact kO_150 hp hr | refine cle' ?_ ?_)
theorem tf_len (c : Nat) : (tf c).length ≤ 44 := by
  unfold tf
  split <;> decide
theorem en_eq {g : Nat → ClassId} {ad : Nat → Nat} {M M' : Mm} {a : Nat} (h0 : mK M' a = mK M a) (h1 : mI M' a = mI M a) (h2 : mL M' a = mL M a) (h3 : ∀ i, i < 50 → mR M' a i = mR M a i) (h4 : 10 < (mK M a).1 → mR M' a = mR M a) : en g ad M' a = en g ad M a := by
  unfold en
  rw [h0, h1, h2]
  split
  · congr 2
    unfold eo
    refine List.map_congr_left fun k hk => ?_
    have hk := List.mem_range.mp hk
    have := tf_len (mK M a).1
    unfold sv
    rw [h1, h2, h3 k (by omega)]
  · split
    · rfl
    · split
      · rfl
      · have e : er ad M' a = er ad M a := by unfold er; rw [h4 (by omega)]
        rw [e]
theorem K0_T : ∀ a, a < 168 → K0 a = kdT a := by decide +kernel
theorem K0_A : ∀ a, a < 168 → 10 < (K0 a).1 → a = 38 ∨ a = 39 ∨ a = 44 := by decide +kernel
def R0ok (p r : Nat) : Bool := (List.range 168).all (fun a => (List.range 50).all (fun i => (Nat.beq a 1 && (Nat.beq i 1 || Nat.beq i 2)) || ((Nat.beq a 2 && Nat.beq i 3) || Nat.beq (R0 p r a i) ((rfT a).getD i 0))))
theorem R0_T {p r : Nat} (h : R0ok p r = true) {a i : Nat} (ha : a < 168) (hi : i < 50) (h1 : ¬ (a = 1 ∧ (i = 1 ∨ i = 2))) (h2 : ¬ (a = 2 ∧ i = 3)) : R0 p r a i = (rfT a).getD i 0 := by
  have q := List.all_eq_true.mp (List.all_eq_true.mp h a (List.mem_range.mpr ha)) i (List.mem_range.mpr hi)
  rcases Bool.or_eq_true_iff.mp q with q | q
  · obtain ⟨x, y⟩ := Bool.and_eq_true_iff.mp q
    rcases Bool.or_eq_true_iff.mp y with y | y
    · exact absurd ⟨Nat.eq_of_beq_eq_true x, Or.inl (Nat.eq_of_beq_eq_true y)⟩ h1
    · exact absurd ⟨Nat.eq_of_beq_eq_true x, Or.inr (Nat.eq_of_beq_eq_true y)⟩ h1
  · rcases Bool.or_eq_true_iff.mp q with q | q
    · obtain ⟨x, y⟩ := Bool.and_eq_true_iff.mp q
      exact absurd ⟨Nat.eq_of_beq_eq_true x, Nat.eq_of_beq_eq_true y⟩ h2
    · exact Nat.eq_of_beq_eq_true q
theorem R0_ok {p r : Nat} (hp : p = 7 ∨ p = 20) (hr : r = 0 ∨ r = 7 ∨ r = 20) : R0ok p r = true := by
  rcases hp with rfl | rfl <;> rcases hr with rfl | rfl | rfl <;> decide +kernel
theorem mem7 {p : Nat} (h : p ∈ [7, 20]) : p = 7 ∨ p = 20 := by
  rcases List.mem_cons.mp h with h | h
  · exact Or.inl h
  · exact Or.inr (List.mem_singleton.mp h)
theorem rfT_l : ∀ a, a < 168 → (rfT a).length ≤ 50 := by decide +kernel
theorem gd_out {xs : List Nat} {i : Nat} (h : xs.length ≤ i) : xs.getD i 0 = 0 := by
  rw [List.getD_eq_getElem?_getD, List.getElem?_eq_none h]
  rfl
theorem Iv_R {P : List (Nat × List Row)} {M : Mm} (h : Iv (mkP P) M) {a k : Nat} (ha : a ≤ 167) (h1 : ¬ (a = 1 ∧ (k = 1 ∨ k = 2))) (h2 : ¬ (a = 2 ∧ k = 3)) : mR M a k = (rfT a).getD k 0 := by
  have q := h.2.2.1 a k ha
  have e : rfN a k = [(rfT a).getD k 0] := by
    unfold rfN
    have e1 : (Nat.beq a 1 && (Nat.beq k 1 || Nat.beq k 2)) = false := by
      cases hb : (Nat.beq a 1 && (Nat.beq k 1 || Nat.beq k 2)) with
      | false => rfl
      | true =>
        obtain ⟨x, y⟩ := Bool.and_eq_true_iff.mp hb
        rcases Bool.or_eq_true_iff.mp y with y | y
        · exact absurd ⟨Nat.eq_of_beq_eq_true x, Or.inl (Nat.eq_of_beq_eq_true y)⟩ h1
        · exact absurd ⟨Nat.eq_of_beq_eq_true x, Or.inr (Nat.eq_of_beq_eq_true y)⟩ h1
    have e2 : (Nat.beq a 2 && Nat.beq k 3) = false := by
      cases hb : (Nat.beq a 2 && Nat.beq k 3) with
      | false => rfl
      | true =>
        obtain ⟨x, y⟩ := Bool.and_eq_true_iff.mp hb
        exact absurd ⟨Nat.eq_of_beq_eq_true x, Nat.eq_of_beq_eq_true y⟩ h2
    rw [e1, e2]
    rfl
  have q : mR M a k ∈ rfN a k := q
  rw [e] at q
  exact List.mem_singleton.mp q
theorem Iv_p {P : List (Nat × List Row)} {M : Mm} (h : Iv (mkP P) M) : mR M 1 1 = 7 ∨ mR M 1 1 = 20 := mem7 (h.2.2.1 1 1 (by decide))
theorem Iv_r {P : List (Nat × List Row)} {M : Mm} (h : Iv (mkP P) M) : mR M 2 3 = 0 ∨ mR M 2 3 = 7 ∨ mR M 2 3 = 20 := by
  have q : mR M 2 3 ∈ [0, 7, 20] := h.2.2.1 2 3 (by decide)
  rcases List.mem_cons.mp q with e | q
  · exact Or.inl e
  · exact Or.inr (mem7 q)
/-- the memory's own form -/
def ffm (M : Mm) : Mm := mk (mC M, mS M) (mR M 1 1) (mR M 2 3) (mI M) (mL M)
/-- the law's states: no name more, the spare plan is the other one -/
def FM (M : Mm) : Prop := mN M = 167 ∧ mR M 1 2 = 27 - mR M 1 1
theorem fm_R {P : List (Nat × List Row)} {M : Mm} (h : Iv (mkP P) M) (hF : FM M) {a i : Nat} (ha : a ≤ 167) (hi : i < 50) : R0 (mR M 1 1) (mR M 2 3) a i = mR M a i := by
  by_cases c : a = 1 ∧ (i = 1 ∨ i = 2)
  · obtain ⟨rfl, rfl | rfl⟩ := c
    · rfl
    · exact hF.2.symm
  · by_cases c2 : a = 2 ∧ i = 3
    · obtain ⟨rfl, rfl⟩ := c2
      rfl
    · rw [R0_T (R0_ok (Iv_p h) (Iv_r h)) (by omega) hi c c2, Iv_R h ha c c2]
theorem fm_wl {P : List (Nat × List Row)} {M : Mm} (h : Iv (mkP P) M) (hF : FM M) (g : Nat → ClassId) (ad : Nat → Nat) : wl g ad (ffm M) = wl g ad M := by
  unfold wl
  rw [hF.1]
  refine List.map_congr_left fun i hi => ?_
  have hi : i < 167 := List.mem_range.mp hi
  have eK : mK M (i + 1) = K0 (i + 1) := (h.2.1 (i + 1) (by omega)).trans (K0_T (i + 1) (by omega)).symm
  have key : en g ad (ffm M) (i + 1) = en g ad M (i + 1) := by
    refine en_eq (M := M) (M' := ffm M) eK.symm rfl rfl (fun j hj => fm_R h hF (by omega) hj) (fun hk => ?_)
    rw [eK] at hk
    funext j
    by_cases hj : j < 50
    · exact fm_R h hF (by omega) hj
    · rw [Iv_R h (by omega) (by omega) (by omega), gd_out (Nat.le_trans (rfT_l (i + 1) (by omega)) (by omega))]
      rcases K0_A (i + 1) (by omega) hk with e | e | e
      · rw [e]
        show cond (Nat.blt j 16) _ 0 = 0
        rw [blt_f (by omega)]
        rfl
      · rw [e]
        show cond (Nat.blt j 3) _ 0 = 0
        rw [blt_f (by omega)]
        rfl
      · rw [e]
        show cond (Nat.blt j 6) _ 0 = 0
        rw [blt_f (by omega)]
        rfl
  rw [key]
theorem fm_kO {P : List (Nat × List Row)} {M : Mm} (h : Iv (mkP P) M) : kO (ffm M) := by
  have h1 := Iv_p h
  have h2 := Iv_r h
  exact kO_mk (by omega) (by omega)
variable {l : Launch} {X : Nat × (Nat → Int32)} {q : Md} {d mc ms : Nat} {av : List Value} {M : Mm}
theorem Ev.ofm {P : List (Nat × List Row)} {kr : KR} (h : Iv (mkP P) M) (hF : FM M) (hv : Ev l X q d true mc ms av (ffm M) (fun r M' => kr r (M.1, M'.2))) : Ev l X q d true mc ms av M kr :=
  Ev.cg (M2 := ffm M) hF.1.symm (fun a ha => (K0_T a (by rw [hF.1] at ha; omega)).trans (h.2.1 a (by rw [hF.1] at ha; exact ha)).symm) (fun g ad => fm_wl h hF g ad) (fm_kO h) hv
end TOMK
