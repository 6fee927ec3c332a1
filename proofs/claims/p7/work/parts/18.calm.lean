/-! the reference's sums over calm days: all weights together are 100 to the n, so not 0 -/
def bt (s k : Nat) : Bool := decide (((nI s) >>> (nI k &&& 31)) &&& 1 = 1)
def wt (c s k : Nat) : Nat := if bt s k = true then c else 100 - c
def pw (c s : Nat) : Nat → Nat
  | 0 => 1
  | k + 1 => pw c s k * wt c s k
def smw (c N : Nat) : Nat → Nat
  | 0 => 0
  | s + 1 => smw c N s + pw c s N
theorem wt_le {c s k : Nat} (hc : c ≤ 100) : wt c s k ≤ 100 := by
  unfold wt
  split <;> omega
theorem pw_le {c s : Nat} (hc : c ≤ 100) : ∀ k, pw c s k ≤ 100 ^ k
  | 0 => Nat.le_refl _
  | k + 1 => by
    show pw c s k * wt c s k ≤ 100 ^ k * 100
    exact Nat.mul_le_mul (pw_le hc k) (wt_le hc)
theorem pw_le7 {c s k : Nat} (hc : c ≤ 100) (hk : k ≤ 7) : pw c s k ≤ 100000000000000 :=
  Nat.le_trans (pw_le hc k) (Nat.le_trans (Nat.pow_le_pow_right (by decide) hk) (by decide))
theorem smw_le {c N : Nat} (hc : c ≤ 100) (hN : N ≤ 7) : ∀ s, smw c N s ≤ s * 100000000000000
  | 0 => Nat.zero_le _
  | s + 1 => by
    show smw c N s + pw c s N ≤ (s + 1) * 100000000000000
    have h1 := smw_le (c := c) (N := N) hc hN s
    have h2 := pw_le7 (c := c) (s := s) hc hN
    omega
theorem pw_pos {c s : Nat} : ∀ k, (∀ j, j < k → 1 ≤ wt c s j) → 1 ≤ pw c s k
  | 0, _ => Nat.le_refl _
  | k + 1, h => Nat.mul_pos (pw_pos k (fun j hj => h j (by omega))) (h k (by omega))
theorem bt0 : ∀ k : Fin 7, bt 0 k.val = false := by decide +kernel
theorem bt1 : ∀ (n : Fin 8) (k : Fin 7), k.val < n.val → bt (2 ^ n.val - 1) k.val = true := by decide +kernel
theorem smw_mono {c N s : Nat} : ∀ n, smw c N s ≤ smw c N (s + n)
  | 0 => Nat.le_refl _
  | n + 1 => Nat.le_trans (smw_mono n) (Nat.le_add_right _ _)
theorem smw_pos {c N : Nat} (hc : c ≤ 100) (hN : N ≤ 7) : 1 ≤ smw c N (2 ^ N) := by
  have hp : 0 < 2 ^ N := Nat.pow_pos (by decide)
  by_cases h : c < 100
  · have h1 : 1 ≤ pw c 0 N := pw_pos N (fun j hj => by
      unfold wt
      rw [bt0 ⟨j, by omega⟩, if_neg (by decide)]
      omega)
    have h2 := smw_mono (c := c) (N := N) (s := 1) (2 ^ N - 1)
    rw [show 1 + (2 ^ N - 1) = 2 ^ N by omega] at h2
    have h3 : smw c N 1 = 0 + pw c 0 N := rfl
    omega
  · have h1 : 1 ≤ pw c (2 ^ N - 1) N := pw_pos N (fun j hj => by
      unfold wt
      rw [bt1 ⟨N, by omega⟩ ⟨j, by omega⟩ hj, if_pos rfl]
      omega)
    have h3 : smw c N (2 ^ N - 1 + 1) = smw c N (2 ^ N - 1) + pw c (2 ^ N - 1) N := rfl
    rw [show 2 ^ N - 1 + 1 = 2 ^ N by omega] at h3
    omega
theorem add64 {x y : Int64} (h1 : lLo ≤ x.toInt + y.toInt) (h2 : x.toInt + y.toInt ≤ lHi) : (x + y).toInt = x.toInt + y.toInt := by
  unfold lLo at h1
  unfold lHi at h2
  rw [Int64.toInt_add]
  exact Int.bmod_eq_of_le (by omega) (by omega)
theorem mul64 {x y : Int64} (h1 : lLo ≤ x.toInt * y.toInt) (h2 : x.toInt * y.toInt ≤ lHi) : (x * y).toInt = x.toInt * y.toInt := by
  unfold lLo at h1
  unfold lHi at h2
  rw [Int64.toInt_mul]
  exact Int.bmod_eq_of_le (by omega) (by omega)
section TCM
variable {l : Launch} {X : Nat × (Nat → Int32)} {d : Nat} {M : Mm} {kr : KR}
set_option maxRecDepth 20000 in
theorem k_bit {s k : Int32} (h0 : ¬ (s >>> (k &&& 31)) &&& 1 = 1 → kr (some (.int 0)) M) (h1 : (s >>> (k &&& 31)) &&& 1 = 1 → kr (some (.int 1)) M) : Ev l X uX7_hasBit d true 0 0 [.int s, .int k] M kr := by
  refine Ev.of (by decide) (Nat.le_of_ble_eq_true rfl) ?_
  refine Wf.sIl tkX7_hasBit rfl rfl ?_
  refine Wf.sIl tkX7_hasBit rfl rfl ?_
  refine Wf.s2 tkX7_hasBit rfl ?_
  refine Wf.sIc tkX7_hasBit rfl ?_
  refine Wf.s2 tkX7_hasBit rfl ?_
  refine Wf.sIc tkX7_hasBit rfl ?_
  refine Wf.sCm tkX7_hasBit rfl (fun w => ?_) (fun w => ?_)
  · refine Wf.sIc tkX7_hasBit rfl ?_
    exact Wf.sZr tkX7_hasBit rfl (Or.inl rfl) (h0 w)
  · refine Wf.sIc tkX7_hasBit rfl ?_
    refine Wf.sGo tkX7_hasBit rfl ?_
    exact Wf.sZr tkX7_hasBit rfl (Or.inr rfl) (h1 w)
def msT : Md3 := [(150, 40, 42), (160, 0, 4), (161, 0, 24)]
def msD9 : Md3 := [(160, 0, 4), (161, 0, 24)]
theorem shl_n {N : Nat} (hN : N ≤ 7) : (1 : Int32) <<< (nI N &&& 31) = nI (2 ^ N) := by
  refine Int32.toInt_inj.mp ?_
  have h := shl1 ⟨N, by omega⟩
  have h2 : 2 ^ N ≤ 2 ^ 7 := Nat.pow_le_pow_right (by decide) hN
  rw [nI_toInt (by omega)]
  exact h
/-- a state that a call within leaves -/
theorem Jv_tr {P : Pk} {M0 : Mm × Int} {M M' : Mm} {ms ms' : Md3} (h : Jv P ms M0 M) (h' : Jv P ms' (M, M0.2) M') (hs : ms'.all (fun m => ina ms m.1 m.2.1 m.2.2) = true) : Jv P ms M0 M' := by
  refine ⟨h'.1.trans h.1, h'.2.1, fun a k hk => ?_, h'.2.2.2⟩
  have hk2 : inm ms' a k = false := by
    cases hq : inm ms' a k with
    | false => rfl
    | true =>
      obtain ⟨m, hm, h4⟩ := List.any_eq_true.mp hq
      obtain ⟨h4, h5⟩ := andT h4
      obtain ⟨h5, h6⟩ := andT h5
      have h7 := ina_in (List.all_eq_true.mp hs m hm) (Nat.le_of_ble_eq_true h5) (Nat.le_of_ble_eq_true h6)
      rw [Nat.eq_of_beq_eq_true h4] at h7
      rw [h7] at hk
      cases hk
  obtain ⟨h4, h5, h8⟩ := h'.2.2.1 a k hk2
  obtain ⟨h6, h7, h9⟩ := h.2.2.1 a k hk
  exact ⟨h4.trans h6, h5.trans h7, h8.trans h9⟩
variable {R : List (Nat × List Row)} {e : Int}
/-- what is asked of the days: so many contracts, in plain words -/
def dysO (l : Launch) (X : Nat × (Nat → Int32)) (R : List (Nat × List Row)) (e : Int) (d : Nat) : Prop := (∀ (M : Mm) (kr : KR), Iv (mkP R) M → eO e M → (∀ M', Jv (mkP R) msD9 (M, e) M' → kr none M') → Ev l X uX7_daysOn d true 0 0 [.ref 150, .int 0] M kr) ∧ (∀ (b : Int32) (M : Mm) (kr : KR), (b = 0 ∨ b = 1) → Iv (mkP R) M → eO e M → (∀ M', Jv (mkP R) msD9 (M, e) M' → kr none M') → Ev l X uX7_dayOn d true 0 0 [.ref 150, .ref 161, .int b] M kr)
set_option maxRecDepth 20000 in
theorem tc_inner {M0 : Mm} {b : Nat × Nat} {c N F s : Nat} (hc : c ≤ 100) (hN : N ≤ 7) (hs : s < 2 ^ N) (hD : dysO l X R e (d + 5)) (hr0 : mI M0 153 2 = nI c) (g : Int64) (h : ∀ (w : Int64) (M : Mm), Jv (mkP R) msT (M0, e) M → mL M 150 40 = g → w.toInt = (pw c s N : Int) → Wf l X uX7_tryCalms (d + 6) true b 95 [(0, .ref 150), (1, .int (nI F)), (2, .int (nI N)), (3, .int (nI s)), (4, .long w), (6, .int (nI N))] [] M kr) : ∀ k : Nat, k ≤ N → ∀ (w : Int64) (M : Mm), Jv (mkP R) msT (M0, e) M → mL M 150 40 = g → w.toInt = (pw c s k : Int) → Wf l X uX7_tryCalms (d + 6) true b 35 [(0, .ref 150), (1, .int (nI F)), (2, .int (nI N)), (3, .int (nI s)), (4, .long w), (6, .int (nI k))] [] M kr := by
  refine dwn _ N ?_ ?_
  · intro w M hJ hg hw
    refine Wf.sIl tkX7_tryCalms rfl rfl ?_
    refine Wf.sIl tkX7_tryCalms rfl rfl ?_
    refine Wf.sCm (x := nI N) (y := nI N) tkX7_tryCalms rfl (fun _ => h w M hJ hg hw) (fun z => absurd (Int32.le_refl _) z)
  · intro k hk ih w M hJ hg hw
    have k150 : kk M 150 7 = true := kk_ok hJ.2.1 rfl
    have k153 : kk M 153 9 = true := kk_ok hJ.2.1 rfl
    have r15 : mR M 150 15 = 153 := List.mem_singleton.mp (hJ.2.1.2.2.1 150 15 (by decide))
    have r25 : mR M 150 25 = 161 := List.mem_singleton.mp (hJ.2.1.2.2.1 150 25 (by decide))
    have m153 : (mK M 153).2 = 202 := by rw [hJ.2.1.2.1 153 (by decide)]; rfl
    have hr : mI M 153 2 = nI c := by rw [(hJ.2.2.1 153 2 rfl).1]; exact hr0
    have hpw := pw_le7 (c := c) (s := s) (k := k) hc (by omega)
    have hwt := wt_le (c := c) (s := s) (k := k) hc
    have big : (100000000000000 * 100 : Int) ≤ lHi := by decide
    have low : lLo ≤ 0 := by decide
    have mulw : ∀ y : Int64, y.toInt = (wt c s k : Int) → (w * y).toInt = (pw c s (k + 1) : Int) := by
      intro y hy
      have e1 : (pw c s k : Int) * (wt c s k : Int) ≤ 100000000000000 * 100 := Int.mul_le_mul (by omega) (by omega) (by omega) (by omega)
      have e2 : 0 ≤ (pw c s k : Int) * (wt c s k : Int) := Int.mul_nonneg (by omega) (by omega)
      rw [mul64 (by rw [hw, hy]; omega) (by rw [hw, hy]; omega), hw, hy]
      exact (Int.natCast_mul _ _).symm
    have go : ∀ y : Int64, y.toInt = (wt c s k : Int) → Wf l X uX7_tryCalms (d + 6) true b 72 [(0, .ref 150), (1, .int (nI F)), (2, .int (nI N)), (3, .int (nI s)), (4, .long w), (6, .int (nI k))] [.long y, .long w] M kr := by
      intro y hy
      refine Wf.sL2 tkX7_tryCalms rfl ?_
      refine Wf.sLs tkX7_tryCalms rfl rfl ?_
      refine Wf.sAl tkX7_tryCalms rfl rfl rfl ?_
      refine Wf.sAl tkX7_tryCalms rfl rfl rfl ?_
      refine Wf.sG tkX7_tryCalms rfl k150 ?_
      show Wf l X uX7_tryCalms (d + 6) true b 80 _ [.ref (mR M 150 25), .ref 150] M kr
      rw [r25]
      refine Wf.sIl tkX7_tryCalms rfl rfl ?_
      refine Wf.sIl tkX7_tryCalms rfl rfl ?_
      refine Wf.sCs (as := [.int (nI s), .int (nI k)]) (rest := [.ref 161, .ref 150]) tkX7_tryCalms rfl rfl rfl ?_
      have dn : ∀ bb : Int32, (bb = 0 ∨ bb = 1) → Wf l X uX7_tryCalms (d + 6) true b 86 [(0, .ref 150), (1, .int (nI F)), (2, .int (nI N)), (3, .int (nI s)), (4, .long (w * y)), (6, .int (nI k))] [.int bb, .ref 161, .ref 150] M kr := by
        intro bb hbb
        refine Wf.sCv (as := [.ref 161, .int bb]) (rest := []) tkX7_tryCalms rfl rfl k150 rfl ?_
        refine hD.2 bb M _ hbb hJ.2.1 hJ.2.2.2 (fun M' hJ' => ?_)
        have hJ2 := Jv_tr hJ hJ' (by decide)
        refine Wf.sInc tkX7_tryCalms rfl rfl rfl ?_
        refine Wf.sGo tkX7_tryCalms rfl ?_
        rw [nI_1]
        exact ih (w * y) M' hJ2 (by rw [(hJ'.2.2.1 150 40 (by decide)).2.2]; exact hg) (mulw y hy)
      exact k_bit (fun _ => dn 0 (Or.inl rfl)) (fun _ => dn 1 (Or.inr rfl))
    refine Wf.sIl tkX7_tryCalms rfl rfl ?_
    refine Wf.sIl tkX7_tryCalms rfl rfl ?_
    refine Wf.sCm (x := nI k) (y := nI N) tkX7_tryCalms rfl (fun z => absurd z (nI_ge hk (by omega))) (fun _ => ?_)
    refine Wf.sLl tkX7_tryCalms rfl rfl ?_
    refine Wf.sIl tkX7_tryCalms rfl rfl ?_
    refine Wf.sIl tkX7_tryCalms rfl rfl ?_
    refine Wf.sCs (as := [.int (nI s), .int (nI k)]) (rest := [.long w]) tkX7_tryCalms rfl rfl rfl ?_
    refine k_bit (fun hb => ?_) (fun hb => ?_)
    · refine Wf.sIf tkX7_tryCalms rfl (fun _ => ?_) (fun z => absurd rfl z)
      refine Wf.sIc tkX7_tryCalms rfl ?_
      refine Wf.sAl tkX7_tryCalms rfl rfl rfl ?_
      refine Wf.sG tkX7_tryCalms rfl k150 ?_
      show Wf l X uX7_tryCalms (d + 6) true b 68 _ [.ref (mR M 150 15), .int 100, .long w] M kr
      rw [r15]
      refine Wf.sIc tkX7_tryCalms rfl ?_
      refine Wf.sIal (j := 2) tkX7_tryCalms rfl k153 ⟨by decide, by decide, by rw [m153]; decide⟩ ?_
      rw [hr]
      refine Wf.s2 tkX7_tryCalms rfl ?_
      refine Wf.si2l tkX7_tryCalms rfl ?_
      refine go _ ?_
      have hbf : bt s k = false := decide_eq_false hb
      unfold wt
      rw [hbf, if_neg (by decide), Int32.toInt_toInt64]
      show ((100 : Int32) - nI c).toInt = _
      have e1 : (100 : Int32).toInt = 100 := by decide
      have e2 : (nI c).toInt = (c : Int) := nI_toInt (by omega)
      have lo : iLo ≤ 0 := by decide
      have hi : (100 : Int) ≤ iHi := by decide
      rw [sub_i (by omega) (by omega), e1, e2]
      omega
    · refine Wf.sIf tkX7_tryCalms rfl (fun z => absurd z (by decide)) (fun _ => ?_)
      refine Wf.sAl tkX7_tryCalms rfl rfl rfl ?_
      refine Wf.sG tkX7_tryCalms rfl k150 ?_
      show Wf l X uX7_tryCalms (d + 6) true b 56 _ [.ref (mR M 150 15), .long w] M kr
      rw [r15]
      refine Wf.sIc tkX7_tryCalms rfl ?_
      refine Wf.sIal (j := 2) tkX7_tryCalms rfl k153 ⟨by decide, by decide, by rw [m153]; decide⟩ ?_
      rw [hr]
      refine Wf.si2l tkX7_tryCalms rfl ?_
      refine Wf.sGo tkX7_tryCalms rfl ?_
      refine go _ ?_
      have hbf : bt s k = true := decide_eq_true hb
      unfold wt
      rw [hbf, if_pos rfl, Int32.toInt_toInt64]
      exact nI_toInt (by omega)
set_option maxRecDepth 20000 in
theorem tc_outer {M0 : Mm} {b : Nat × Nat} {c N F : Nat} (hc : c ≤ 100) (hN : N ≤ 7) (hF : F ≤ 5) (hD : dysO l X R e (d + 5)) (hr0 : mI M0 153 2 = nI c) (h : ∀ M, Jv (mkP R) msT (M0, e) M → 1 ≤ (mL M 150 40).toInt → kr none M) : ∀ s : Nat, s ≤ 2 ^ N → ∀ (zs : Ls) (M : Mm), (zs = [] ∨ ∃ (w : Int64) (k : Int32), zs = [(4, .long w), (6, .int k)]) → Jv (mkP R) msT (M0, e) M → (mL M 150 40).toInt = (smw c N s : Int) → Wf l X uX7_tryCalms (d + 6) true b 17 ([(0, .ref 150), (1, .int (nI F)), (2, .int (nI N)), (3, .int (nI s))] ++ zs) [] M kr := by
  have h27 : 2 ^ N ≤ 2 ^ 7 := Nat.pow_le_pow_right (by decide) hN
  have kee : ∀ (s : Nat) (zs : Ls) (M : Mm), (zs = [] ∨ ∃ (w : Int64) (k : Int32), zs = [(4, .long w), (6, .int k)]) → Wf l X uX7_tryCalms (d + 6) true b 17 [(0, .ref 150), (1, .int (nI F)), (2, .int (nI N)), (3, .int (nI s))] [] M kr → Wf l X uX7_tryCalms (d + 6) true b 17 ([(0, .ref 150), (1, .int (nI F)), (2, .int (nI N)), (3, .int (nI s))] ++ zs) [] M kr := by
    intro s zs M hz hW
    refine Wf.keep [0, 1, 2, 3] ?_
    rcases hz with rfl | ⟨w, k, rfl⟩ <;> exact hW
  refine dwn _ (2 ^ N) ?_ ?_
  · intro zs M hz hJ hg
    refine kee _ zs M hz ?_
    refine Wf.sIl tkX7_tryCalms rfl rfl ?_
    refine Wf.sIc tkX7_tryCalms rfl ?_
    refine Wf.sIl tkX7_tryCalms rfl rfl ?_
    refine Wf.s2 tkX7_tryCalms rfl ?_
    show Wf l X uX7_tryCalms (d + 6) true b 21 _ [.int ((1 : Int32) <<< (nI N &&& 31)), .int (nI (2 ^ N))] M kr
    rw [shl_n hN]
    refine Wf.sCm (x := nI (2 ^ N)) (y := nI (2 ^ N)) tkX7_tryCalms rfl (fun _ => ?_) (fun z => absurd (Int32.le_refl _) z)
    refine Wf.sVr tkX7_tryCalms rfl (h M hJ ?_)
    rw [hg]
    have := smw_pos (c := c) (N := N) hc hN
    omega
  · intro s hs ih zs M hz hJ hg
    refine kee _ zs M hz ?_
    have k150 : kk M 150 7 = true := kk_ok hJ.2.1 rfl
    refine Wf.sIl tkX7_tryCalms rfl rfl ?_
    refine Wf.sIc tkX7_tryCalms rfl ?_
    refine Wf.sIl tkX7_tryCalms rfl rfl ?_
    refine Wf.s2 tkX7_tryCalms rfl ?_
    show Wf l X uX7_tryCalms (d + 6) true b 21 _ [.int ((1 : Int32) <<< (nI N &&& 31)), .int (nI s)] M kr
    rw [shl_n hN]
    refine Wf.sCm (x := nI s) (y := nI (2 ^ N)) tkX7_tryCalms rfl (fun z => absurd z (nI_ge hs (by omega))) (fun _ => ?_)
    refine Wf.sLc tkX7_tryCalms rfl ?_
    refine Wf.sLs tkX7_tryCalms rfl rfl ?_
    refine Wf.sAl tkX7_tryCalms rfl rfl rfl ?_
    refine Wf.sIc tkX7_tryCalms rfl ?_
    refine Wf.sCv (as := [.int 0]) (rest := []) tkX7_tryCalms rfl rfl k150 rfl ?_
    refine hD.1 M _ hJ.2.1 hJ.2.2.2 (fun M1 hJ1 => ?_)
    have hJ2 := Jv_tr hJ hJ1 (by decide)
    have hg1 : mL M1 150 40 = mL M 150 40 := (hJ1.2.2.1 150 40 (by decide)).2.2
    refine Wf.sIc tkX7_tryCalms rfl ?_
    refine Wf.sIs tkX7_tryCalms rfl rfl ?_
    refine tc_inner hc hN hs hD hr0 (mL M 150 40) (fun w M3 hJ3 hg3 hw => ?_) 0 (Nat.zero_le _) 1 M1 hJ2 hg1 rfl
    have k150 : kk M3 150 7 = true := kk_ok hJ3.2.1 rfl
    have k157 : kk M3 157 9 = true := kk_ok hJ3.2.1 rfl
    have k161 : kk M3 161 9 = true := kk_ok hJ3.2.1 rfl
    have r25 : mR M3 150 25 = 161 := List.mem_singleton.mp (hJ3.2.1.2.2.1 150 25 (by decide))
    have r19 : mR M3 150 19 = 157 := List.mem_singleton.mp (hJ3.2.1.2.2.1 150 19 (by decide))
    have m157 : (mK M3 157).2 = 25 := by rw [hJ3.2.1.2.1 157 (by decide)]; rfl
    have m161 : (mK M3 161).2 = 25 := by rw [hJ3.2.1.2.1 161 (by decide)]; rfl
    have hsum : (mL M3 150 40 + w).toInt = (smw c N (s + 1) : Int) := by
      have b1 := smw_le (c := c) (N := N) hc hN s
      have b2 := pw_le7 (c := c) (s := s) hc hN
      have big : (1000 * 100000000000000 : Int) ≤ lHi := by decide
      have low : lLo ≤ 0 := by decide
      have e1 : (mL M3 150 40).toInt = (smw c N s : Int) := by rw [hg3]; exact hg
      rw [add64 (by rw [e1, hw]; omega) (by rw [e1, hw]; omega), e1, hw]
      exact (Int.natCast_add _ _).symm
    have hJa : Jv (mkP R) msT (M0, e) (wL M3 150 40 (mL M3 150 40 + w)) := Jv.wL hJ3 (by decide)
    refine Wf.sAl tkX7_tryCalms rfl rfl rfl ?_
    refine Wf.sDup tkX7_tryCalms rfl rfl ?_
    refine Wf.sG tkX7_tryCalms rfl k150 ?_
    refine Wf.sLl tkX7_tryCalms rfl rfl ?_
    refine Wf.sL2 (x := mL M3 150 40) (y := w) tkX7_tryCalms rfl ?_
    refine Wf.sPL tkX7_tryCalms rfl k150 ?_
    generalize hMa : wL M3 150 40 (mL M3 150 40 + w) = Ma at hJa ⊢
    have ga : (mL Ma 150 40).toInt = (smw c N (s + 1) : Int) := by rw [← hMa, mL_w, if_pos ⟨rfl, rfl⟩]; exact hsum
    have k150 : kk Ma 150 7 = true := kk_ok hJa.2.1 rfl
    have k157 : kk Ma 157 9 = true := kk_ok hJa.2.1 rfl
    have k161 : kk Ma 161 9 = true := kk_ok hJa.2.1 rfl
    have r25 : mR Ma 150 25 = 161 := List.mem_singleton.mp (hJa.2.1.2.2.1 150 25 (by decide))
    have r19 : mR Ma 150 19 = 157 := List.mem_singleton.mp (hJa.2.1.2.2.1 150 19 (by decide))
    have m157 : (mK Ma 157).2 = 25 := by rw [hJa.2.1.2.1 157 (by decide)]; rfl
    have m161 : (mK Ma 161).2 = 25 := by rw [hJa.2.1.2.1 161 (by decide)]; rfl
    have last : ∀ Mb, Jv (mkP R) msT (M0, e) Mb → (mL Mb 150 40).toInt = (smw c N (s + 1) : Int) → Wf l X uX7_tryCalms (d + 6) true b 142 [(0, .ref 150), (1, .int (nI F)), (2, .int (nI N)), (3, .int (nI s)), (4, .long w), (6, .int (nI N))] [] Mb kr := by
      intro Mb hJb gb
      have k150 : kk Mb 150 7 = true := kk_ok hJb.2.1 rfl
      have k161 : kk Mb 161 9 = true := kk_ok hJb.2.1 rfl
      have r25 : mR Mb 150 25 = 161 := List.mem_singleton.mp (hJb.2.1.2.2.1 150 25 (by decide))
      have m161 : (mK Mb 161).2 = 25 := by rw [hJb.2.1.2.1 161 (by decide)]; rfl
      refine Wf.sAl tkX7_tryCalms rfl rfl rfl ?_
      refine Wf.sDup tkX7_tryCalms rfl rfl ?_
      refine Wf.sG tkX7_tryCalms rfl k150 ?_
      refine Wf.sLl tkX7_tryCalms rfl rfl ?_
      refine Wf.sAl tkX7_tryCalms rfl rfl rfl ?_
      refine Wf.sG tkX7_tryCalms rfl k150 ?_
      show Wf l X uX7_tryCalms (d + 6) true b 153 _ [.ref (mR Mb 150 25), .long w, .long (mL Mb 150 42), .ref 150] Mb kr
      rw [r25]
      refine Wf.sIc tkX7_tryCalms rfl ?_
      refine Wf.sIl tkX7_tryCalms rfl rfl ?_
      refine Wf.s2 (x := 6) (y := nI F) tkX7_tryCalms rfl ?_
      refine Wf.sIal (j := 6 + F) tkX7_tryCalms rfl k161 ⟨nI_add 6 F, by omega, by rw [m161]; omega⟩ ?_
      refine Wf.si2l tkX7_tryCalms rfl ?_
      refine Wf.sL2 tkX7_tryCalms rfl ?_
      refine Wf.sL2 tkX7_tryCalms rfl ?_
      refine Wf.sPL tkX7_tryCalms rfl k150 ?_
      refine Wf.sInc tkX7_tryCalms rfl rfl rfl ?_
      refine Wf.sGo tkX7_tryCalms rfl ?_
      rw [nI_1]
      exact ih [(4, .long w), (6, .int (nI N))] _ (Or.inr ⟨w, nI N, rfl⟩) (Jv.wL hJb (by decide)) (by rw [mL_w, if_neg (by decide)]; exact gb)
    have mid : ∀ y : Int64, Wf l X uX7_tryCalms (d + 6) true b 138 [(0, .ref 150), (1, .int (nI F)), (2, .int (nI N)), (3, .int (nI s)), (4, .long w), (6, .int (nI N))] [.long y, .long (mL Ma 150 41), .ref 150] Ma kr := by
      intro y
      refine Wf.sL2 tkX7_tryCalms rfl ?_
      refine Wf.sPL tkX7_tryCalms rfl k150 ?_
      exact last _ (Jv.wL hJa (by decide)) (by rw [mL_w, if_neg (by decide)]; exact ga)
    refine Wf.sAl tkX7_tryCalms rfl rfl rfl ?_
    refine Wf.sDup tkX7_tryCalms rfl rfl ?_
    refine Wf.sG tkX7_tryCalms rfl k150 ?_
    refine Wf.sAl tkX7_tryCalms rfl rfl rfl ?_
    refine Wf.sG tkX7_tryCalms rfl k150 ?_
    show Wf l X uX7_tryCalms (d + 6) true b 115 _ [.ref (mR Ma 150 25), .long (mL Ma 150 41), .ref 150] Ma kr
    rw [r25]
    refine Wf.sIc tkX7_tryCalms rfl ?_
    refine Wf.sIl tkX7_tryCalms rfl rfl ?_
    refine Wf.s2 (x := 12) (y := nI F) tkX7_tryCalms rfl ?_
    refine Wf.sIal (j := 12 + F) tkX7_tryCalms rfl k161 ⟨nI_add 12 F, by omega, by rw [m161]; omega⟩ ?_
    refine Wf.sAl tkX7_tryCalms rfl rfl rfl ?_
    refine Wf.sG tkX7_tryCalms rfl k150 ?_
    show Wf l X uX7_tryCalms (d + 6) true b 124 _ [.ref (mR Ma 150 19), .int (mI Ma 161 (12 + F)), .long (mL Ma 150 41), .ref 150] Ma kr
    rw [r19]
    refine Wf.sIc tkX7_tryCalms rfl ?_
    refine Wf.sIl tkX7_tryCalms rfl rfl ?_
    refine Wf.s2 (x := 12) (y := nI F) tkX7_tryCalms rfl ?_
    refine Wf.sIal (j := 12 + F) tkX7_tryCalms rfl k157 ⟨nI_add 12 F, by omega, by rw [m157]; omega⟩ ?_
    refine Wf.sCm tkX7_tryCalms rfl (fun _ => ?_) (fun _ => ?_)
    · refine Wf.sLc tkX7_tryCalms rfl ?_
      exact mid 0
    · refine Wf.sLl tkX7_tryCalms rfl rfl ?_
      refine Wf.sGo tkX7_tryCalms rfl ?_
      exact mid w
set_option maxRecDepth 20000 in
theorem vh_tryCalms (hR : rwB (lkR R 153) 2 = (0, 100)) (d : Nat) (hD : dysO l X R e (d + 5)) : Vc l X U0 (mkP R) e (d + 6) ((259, [(2, 0, 0, [150]), (0, 0, 5, []), (0, 0, 7, [])], []), [(150, 40, 42), (160, 0, 4), (161, 0, 24)], [(none, [], [(150, 40, 1, 1, lHi, [])])]) := by
  intro av M kr hI he hb hf hr
  obtain ⟨v, t, rfl, hv, ht⟩ := gbs_1 hb
  obtain ⟨v2, t, rfl, hv2, ht⟩ := gbs_1 ht
  obtain ⟨v3, t, rfl, hv3, ht⟩ := gbs_1 ht
  obtain rfl := gbs_0 ht
  obtain rfl := gb_r1 hv
  obtain ⟨f, rfl, hf1, hf2⟩ := gb_i hv2
  obtain ⟨n, rfl, hn1, hn2⟩ := gb_i hv3
  have ef : f = nI f.toInt.toNat := nI_at (by omega) (by omega)
  have en : n = nI n.toInt.toNat := nI_at (by omega) (by omega)
  have b2 := hI.2.2.2 153 2 (by decide)
  have b2 : (0 : Int) ≤ (mI M 153 2).toInt ∧ (mI M 153 2).toInt ≤ 100 := by
    have e1 : rwB ((mkP R).2.2 153) 2 = (0, 100) := hR
    rw [e1] at b2
    exact b2
  have ec : mI M 153 2 = nI (mI M 153 2).toInt.toNat := nI_at (by omega) (by omega)
  have k150 : kk M 150 7 = true := kk_ok hI rfl
  show Ev l X uX7_tryCalms (d + 6) true 0 0 _ M kr
  refine Ev.of (by decide) (Nat.le_of_ble_eq_true rfl) ?_
  rw [ef, en]
  have hJ0 : Jv (mkP R) msT (M, e) M := Jv.rf hI he
  refine Wf.sAl tkX7_tryCalms rfl rfl rfl ?_
  refine Wf.sLc tkX7_tryCalms rfl ?_
  refine Wf.sPL tkX7_tryCalms rfl k150 ?_
  refine Wf.sAl tkX7_tryCalms rfl rfl rfl ?_
  refine Wf.sLc tkX7_tryCalms rfl ?_
  refine Wf.sPL tkX7_tryCalms rfl k150 ?_
  refine Wf.sAl tkX7_tryCalms rfl rfl rfl ?_
  refine Wf.sLc tkX7_tryCalms rfl ?_
  refine Wf.sPL tkX7_tryCalms rfl k150 ?_
  refine Wf.sIc tkX7_tryCalms rfl ?_
  refine Wf.sIs tkX7_tryCalms rfl rfl ?_
  refine tc_outer (c := (mI M 153 2).toInt.toNat) (N := n.toInt.toNat) (F := f.toInt.toNat) (M0 := M) (by omega) (by omega) (by omega) hD ec (fun M' hJ' h1 => ?_) 0 (Nat.zero_le _) [] _ (Or.inl rfl) (Jv.wL (Jv.wL (Jv.wL hJ0 (by decide)) (by decide)) (by decide)) rfl
  refine hr none M' hJ' ⟨_, List.mem_singleton.mpr rfl, trivial, fun x hx => absurd hx List.not_mem_nil, fun x hx => ?_⟩
  rw [List.mem_singleton.mp hx]
  exact ⟨rfl, h1, i64_hi _⟩
end TCM
