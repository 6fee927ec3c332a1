/-! words: the class's isWord and what stands on it, exactly -/
section WRD
variable {l : Launch} {X : Nat × (Nat → Int32)} {d : Nat} {M : Mm} {kr : KR} {a : Nat}
theorem tB_and0 : ∀ i, i < 42 → ∀ j, j < 8 → (tB i).getD j 0 &&& 255 = (tB i).getD j 0 := by decide +kernel
theorem tB_and {i j : Nat} (hi : i < 42) (hj : j < (tB i).length) : (tB i).getD j 0 &&& 255 = (tB i).getD j 0 := tB_and0 i hi j (by have := (len7 ⟨i, hi⟩).1; have this : (tB i).length ≤ 7 := this; omega)
theorem tB_rng : ∀ i, i < 42 → ∀ j, j < (tB i).length → ∃ c, c < 128 ∧ 97 ≤ c ∧ (tB i).getD j 0 = nI c := by
  have h : ∀ i, i < 42 → ∀ j, j < 8 → j < (tB i).length → (97 ≤ ((tB i).getD j 0).toInt ∧ ((tB i).getD j 0).toInt < 128) := by decide +kernel
  intro i hi j hj
  have hl := (len7 ⟨i, hi⟩).1
  have hl : (tB i).length ≤ 7 := hl
  obtain ⟨h1, h2⟩ := h i hi j (by omega) hj
  exact ⟨((tB i).getD j 0).toInt.toNat, by omega, by omega, nI_at (by omega) (by omega)⟩
set_option maxRecDepth 20000 in
theorem k_ch1x {j : Nat} (ha : 5100 ≤ a ∧ a < 5142) (hj : j < (tB (a - 5100)).length) (h : ∀ k : Fin 256, (tB (a - 5100)).getD j 0 &&& 255 = nI k.val → kr (some (.int (nI k.val))) M) : Ev l X uJ1_charAt_3b067 (d + 2) true 0 0 [.ref a, .int (nI j)] M kr := by
  refine Ev.ofF (by decide +kernel) (Nat.le_of_ble_eq_true rfl) ?_
  have p0 : Nat.blt 0 a = true := Nat.ble_eq_true_of_le (by omega)
  have hl := len7 ⟨a - 5100, by omega⟩
  have hl1 : (tB (a - 5100)).length ≤ 7 := hl.1
  refine Wf.sIl tkJ1_charAt_3b067 rfl rfl ?_
  refine Wf.sAl tkJ1_charAt_3b067 rfl rfl p0 ?_
  refine Wf.stp1 tkJ1_charAt_3b067 (o := oSln 2) rfl ⟨ha, ?_⟩
  refine Wf.sCs tkJ1_charAt_3b067 rfl rfl rfl ?_
  refine k_ck0 (nI_pos (by omega)) (Int32.not_le.mp (nI_ge hj (by omega))) ?_
  refine Wf.sAl tkJ1_charAt_3b067 rfl rfl p0 ?_
  refine Wf.sIl tkJ1_charAt_3b067 rfl rfl ?_
  refine Wf.stp1 tkJ1_charAt_3b067 (o := oSbl 8) rfl ⟨ha, ?_, ?_⟩
  · intro z
    rcases z with z | z
    · exact nI_pos (by omega) z
    · rw [nI_clamp (by omega)] at z; omega
  refine Wf.sIc tkJ1_charAt_3b067 rfl ?_
  refine Wf.s2 tkJ1_charAt_3b067 rfl ?_
  obtain ⟨k, hk⟩ := and255 ((tB (a - 5100)).getD (nI j).toNatClampNeg 0)
  refine Wf.stp1 tkJ1_charAt_3b067 (o := o1 13 (fun x => (x.toUInt32 % 65536).toInt32)) rfl ?_
  have e : ((((tB (a - 5100)).getD (nI j).toNatClampNeg 0 &&& 255) : Int32).toUInt32 % 65536).toInt32 = nI k.val := by rw [hk]; exact i2c_b k
  show Wf l X uJ1_charAt_3b067 (d + 2) true _ (13 + 1) _ [.int ((((tB (a - 5100)).getD (nI j).toNatClampNeg 0 &&& 255) : Int32).toUInt32 % 65536).toInt32] M kr
  rw [e]
  exact Wf.stp1 tkJ1_charAt_3b067 (o := oTr .char) rfl ⟨nar_c k, h k (by rw [← hk, nI_clamp (by omega)])⟩
set_option maxRecDepth 20000 in
theorem k_charx {j : Nat} (ha : 5000 ≤ a ∧ a < 5042) (hj : j < (tB (a - 5000)).length) (h : kr (some (.int ((tB (a - 5000)).getD j 0))) M) : Ev l X uJ0_charAt_5068e (d + 3) true 0 0 [.ref a, .int (nI j)] M kr := by
  refine Ev.ofF (by decide +kernel) (Nat.le_of_ble_eq_true rfl) ?_
  have p0 : Nat.blt 0 a = true := Nat.ble_eq_true_of_le (by omega)
  refine Wf.sAl tkJ0_charAt_5068e rfl rfl p0 ?_
  refine Wf.sCq tkJ0_charAt_5068e rfl rfl ha rfl ?_
  refine k_latin ha ?_
  refine Wf.sIf tkJ0_charAt_5068e rfl (fun w => absurd w (by decide)) (fun _ => ?_)
  refine Wf.sAl tkJ0_charAt_5068e rfl rfl p0 ?_
  refine Wf.stp1 tkJ0_charAt_5068e (o := oGsv 8) rfl ⟨ha, ?_⟩
  refine Wf.sIl tkJ0_charAt_5068e rfl rfl ?_
  refine Wf.sCs tkJ0_charAt_5068e rfl rfl rfl ?_
  refine k_ch1x ⟨by omega, by omega⟩ (by rw [show a + 100 - 5100 = a - 5000 by omega]; exact hj) (fun k hk => ?_)
  rw [show a + 100 - 5100 = a - 5000 by omega, tB_and (by omega) hj] at hk
  rw [hk] at h
  exact Wf.stp1 tkJ0_charAt_5068e (o := oTr .char) rfl ⟨nar_c k, h⟩
end WRD
section ISWX
variable {l : Launch} {X : Nat × (Nat → Int32)} {d : Nat} {w : Nat × Nat} {p r : Nat} {I : Nat → Nat → Int32} {L : Nat → Nat → Int64} {kr : KR} {b : Nat → Nat} {n e : Nat}
/-- the token at hand is the word of that number -/
def isW (b : Nat → Nat) (n i e : Nat) : Bool := Nat.beq (tso b n e) 1 && (Nat.beq (tsp b n e - tst b n e) (tB i).length && (ff (fun j => !(decide (sb (b (tst b n e + j)) = (tB i).getD j 0))) (tB i).length 0).isNone)
def bgl (b : Nat → Nat) (n e : Nat) : Bool := isW b n 0 e || (isW b n 1 e || (isW b n 2 e || (isW b n 3 e || (isW b n 4 e || (isW b n 5 e || isW b n 6 e)))))
theorem tso_5 : tso b n e < 5 := by
  unfold tso kso
  repeat' (first | decide | split)
theorem nI_sub {x y : Nat} (h : y ≤ x) : (nI x - nI y : Int32) = nI (x - y) := by
  have z : nI x = nI (x - y) + nI y := by rw [nI_add, Nat.sub_add_cancel h]
  rw [z]
  exact Int32.add_sub_cancel _ _
set_option maxRecDepth 20000 in
theorem x_isWord {wd : Nat} (ht : TX b n I) (he : e ≤ n) (hc : TC b n e I L) (hw : 5000 ≤ wd ∧ wd < 5042) (h : kr (some (.int (bI (isW b n (wd - 5000) e)))) (mk w p r I L)) : Ev l X uX4_isWord (d + 5) true 0 0 [.ref 2, .ref wd] (mk w p r I L) kr := by
  obtain ⟨h9, h2, hb⟩ := ht
  obtain ⟨t4, t5, t6, -, -⟩ := hc
  have hsp := tsp_b (b := b) he
  have p0 : Nat.blt 0 wd = true := Nat.ble_eq_true_of_le (by omega)
  have hl := (len7 ⟨wd - 5000, by omega⟩).1
  have hl : (tB (wd - 5000)).length ≤ 7 := hl
  refine Ev.of (by decide) (Nat.le_of_ble_eq_true rfl) ?_
  refine Wf.sAl tkX4_isWord rfl rfl rfl ?_
  refine Wf.sG tkX4_isWord rfl rfl ?_
  refine Wf.sIc tkX4_isWord rfl ?_
  have no : isW b n (wd - 5000) e = false → Wf l X uX4_isWord (d + 5) true (mC (mk w p r I L) + 0, mS (mk w p r I L) + 0) 24 [(0, .ref 2), (1, .ref wd)] [] (mk w p r I L) kr := by
    intro q
    rw [q] at h
    refine Wf.sIc tkX4_isWord rfl ?_
    exact Wf.sZr tkX4_isWord rfl (Or.inl rfl) h
  refine Wf.sCm (x := I 2 4) (y := 1) tkX4_isWord rfl (fun z => no ?_) (fun z => ?_)
  · have z : ¬ I 2 4 = 1 := z
    unfold isW
    cases hq : Nat.beq (tso b n e) 1 with
    | false => rfl
    | true =>
      have := Nat.eq_of_beq_eq_true hq
      rw [t4, this] at z
      exact absurd rfl z
  have z : I 2 4 = 1 := z
  have s4 := tso_5 (b := b) (n := n) (e := e)
  have t1 : tso b n e = 1 := by
    rw [t4, show (1 : Int32) = nI 1 from rfl, nI_eq (by omega) (by decide)] at z
    exact z
  refine Wf.sAl tkX4_isWord rfl rfl rfl ?_
  refine Wf.sG tkX4_isWord rfl rfl ?_
  refine Wf.sAl tkX4_isWord rfl rfl rfl ?_
  refine Wf.sG tkX4_isWord rfl rfl ?_
  refine Wf.s2 tkX4_isWord rfl ?_
  refine Wf.sAl tkX4_isWord rfl rfl p0 ?_
  refine Wf.sCq (rest := [.int (I 2 6 - I 2 5)]) tkX4_isWord rfl rfl hw rfl ?_
  refine k_len (d := d + 3) hw ?_
  have e1 : (I 2 6 - I 2 5 : Int32) = nI (tsp b n e - tst b n e) := by rw [t6, t5]; exact nI_sub hsp.1
  have nol : ¬ (I 2 6 - I 2 5 : Int32) = nI (tB (wd - 5000)).length → isW b n (wd - 5000) e = false := by
    intro z2
    rw [e1, nI_eq (by omega) (by omega)] at z2
    unfold isW
    cases hq : Nat.beq (tsp b n e - tst b n e) (tB (wd - 5000)).length with
    | false => rw [Bool.false_and, Bool.and_false]
    | true => exact absurd (Nat.eq_of_beq_eq_true hq) z2
  refine Wf.sCm (x := I 2 6 - I 2 5) (y := nI (tB (wd - 5000)).length) tkX4_isWord rfl (fun z2 => ?_) (fun z2 => no (nol z2))
  have z2 : (I 2 6 - I 2 5 : Int32) = nI (tB (wd - 5000)).length := z2
  rw [e1, nI_eq (by omega) (by omega)] at z2
  have hiw : isW b n (wd - 5000) e = (ff (fun j => !(decide (sb (b (tst b n e + j)) = (tB (wd - 5000)).getD j 0))) (tB (wd - 5000)).length 0).isNone := by
    unfold isW
    rw [t1, z2, show Nat.beq 1 1 = true from rfl, show ∀ k, Nat.beq k k = true from fun k => Nat.beq_refl k, Bool.true_and, Bool.true_and]
  rw [hiw] at h
  refine Wf.sIc tkX4_isWord rfl ?_
  refine Wf.sIs tkX4_isWord rfl rfl ?_
  have loop := srch (e := (tB (wd - 5000)).length) (P := fun j => !(decide (sb (b (tst b n e + j)) = (tB (wd - 5000)).getD j 0))) (Wi := fun i => Wf l X uX4_isWord (d + 5) true (mC (mk w p r I L) + 0, mS (mk w p r I L) + 0) 28 [(0, .ref 2), (1, .ref wd), (2, .int (nI i))] [] (mk w p r I L) kr) (K := fun o => kr (some (.int (bI o.isNone))) (mk w p r I L)) ?_ ?_ 0 (Nat.zero_le _)
  · rw [Nat.sub_zero] at loop
    exact loop h
  · intro hK
    refine Wf.sIl tkX4_isWord rfl rfl ?_
    refine Wf.sAl tkX4_isWord rfl rfl p0 ?_
    refine Wf.sCq (rest := [.int (nI (tB (wd - 5000)).length)]) tkX4_isWord rfl rfl hw rfl ?_
    refine k_len (d := d + 3) hw ?_
    refine Wf.sCm (x := nI (tB (wd - 5000)).length) (y := nI (tB (wd - 5000)).length) tkX4_isWord rfl (fun _ => ?_) (fun z => absurd (Int32.le_refl _) z)
    refine Wf.sIc tkX4_isWord rfl ?_
    exact Wf.sZr tkX4_isWord rfl (Or.inr rfl) hK
  · intro i hi
    obtain ⟨hb1, hb2⟩ := hb (tst b n e + i) (by omega)
    have head : (sb (b (tst b n e + i)) = (tB (wd - 5000)).getD i 0 → Wf l X uX4_isWord (d + 5) true (mC (mk w p r I L) + 0, mS (mk w p r I L) + 0) 57 [(0, .ref 2), (1, .ref wd), (2, .int (nI i))] [] (mk w p r I L) kr) → (¬ sb (b (tst b n e + i)) = (tB (wd - 5000)).getD i 0 → kr (some (.int 0)) (mk w p r I L)) → Wf l X uX4_isWord (d + 5) true (mC (mk w p r I L) + 0, mS (mk w p r I L) + 0) 28 [(0, .ref 2), (1, .ref wd), (2, .int (nI i))] [] (mk w p r I L) kr := by
      intro j1 j2
      refine Wf.sIl tkX4_isWord rfl rfl ?_
      refine Wf.sAl tkX4_isWord rfl rfl p0 ?_
      refine Wf.sCq (rest := [.int (nI i)]) tkX4_isWord rfl rfl hw rfl ?_
      refine k_len (d := d + 3) hw ?_
      refine Wf.sCm (x := nI i) (y := nI (tB (wd - 5000)).length) tkX4_isWord rfl (fun z => absurd z (nI_ge hi (by omega))) (fun _ => ?_)
      refine Wf.sAl tkX4_isWord rfl rfl rfl ?_
      refine Wf.sG tkX4_isWord rfl rfl ?_
      refine Wf.sAl tkX4_isWord rfl rfl rfl ?_
      refine Wf.sG tkX4_isWord rfl rfl ?_
      show Wf l X uX4_isWord (d + 5) true _ 44 _ [.int (I 2 5), .ref 3] (mk w p r I L) kr
      rw [t5]
      refine Wf.sIl tkX4_isWord rfl rfl ?_
      refine Wf.s2 tkX4_isWord rfl ?_
      refine Wf.sBal (j := tst b n e + i) tkX4_isWord rfl rfl ⟨nI_add _ i, by omega, show _ < 900 by omega⟩ ?_
      refine Wf.sAl tkX4_isWord rfl rfl p0 ?_
      refine Wf.sIl tkX4_isWord rfl rfl ?_
      refine Wf.sCq (rest := [.int (I 3 (tst b n e + i))]) tkX4_isWord rfl rfl hw rfl ?_
      refine k_charx (d := d + 1) hw hi ?_
      refine Wf.sCm (x := I 3 (tst b n e + i)) (y := (tB (wd - 5000)).getD i 0) tkX4_isWord rfl (fun z => ?_) (fun z => ?_)
      · have z : I 3 (tst b n e + i) = (tB (wd - 5000)).getD i 0 := z
        rw [hb2] at z
        exact j1 z
      · have z : ¬ I 3 (tst b n e + i) = (tB (wd - 5000)).getD i 0 := z
        rw [hb2] at z
        refine Wf.sIc tkX4_isWord rfl ?_
        exact Wf.sZr tkX4_isWord rfl (Or.inl rfl) (j2 z)
    refine ⟨fun hP hK => ?_, fun hP hK => ?_⟩
    · have hP : (!(decide (sb (b (tst b n e + i)) = (tB (wd - 5000)).getD i 0))) = true := hP
      refine head (fun q => ?_) (fun _ => hK)
      rw [decide_eq_true q] at hP
      cases hP
    · have hP : (!(decide (sb (b (tst b n e + i)) = (tB (wd - 5000)).getD i 0))) = false := hP
      refine head (fun _ => ?_) (fun q => ?_)
      · refine Wf.sInc tkX4_isWord rfl rfl rfl ?_
        refine Wf.sGo tkX4_isWord rfl ?_
        rw [nI_1]
        exact hK
      · rw [decide_eq_false q] at hP
        cases hP
theorem bI_t {q : Bool} (h : ¬ bI q = 0) : q = true := by
  cases q with
  | true => rfl
  | false => exact absurd rfl h
theorem bI_f {q : Bool} (h : bI q = 0) : q = false := by
  cases q with
  | true => exact absurd h (by decide)
  | false => rfl
set_option maxRecDepth 20000 in
theorem x_beginsLine (ht : TX b n I) (he : e ≤ n) (hc : TC b n e I L) (h : kr (some (.int (bI (bgl b n e)))) (mk w p r I L)) : Ev l X uX4_beginsLine (d + 6) true 0 0 [.ref 2] (mk w p r I L) kr := by
  refine Ev.of (by decide) (Nat.le_of_ble_eq_true rfl) ?_
  unfold bgl at h
  refine Wf.gc tkX4_beginsLine [] ?_
  conv => whnf
  refine x_isWord (wd := 5000) (d := d) ht he hc (by decide) ?_
  conv => whnf
  refine ⟨fun z => ?_, fun z => ?_⟩
  · rw [bI_t z] at h
    conv => whnf
    exact ⟨Or.inr rfl, h⟩
  rw [bI_f z, Bool.false_or] at h
  conv => whnf
  refine x_isWord (wd := 5001) (d := d) ht he hc (by decide) ?_
  conv => whnf
  refine ⟨fun z => ?_, fun z => ?_⟩
  · rw [bI_t z] at h
    conv => whnf
    exact ⟨Or.inr rfl, h⟩
  rw [bI_f z, Bool.false_or] at h
  conv => whnf
  refine x_isWord (wd := 5002) (d := d) ht he hc (by decide) ?_
  conv => whnf
  refine ⟨fun z => ?_, fun z => ?_⟩
  · rw [bI_t z] at h
    conv => whnf
    exact ⟨Or.inr rfl, h⟩
  rw [bI_f z, Bool.false_or] at h
  conv => whnf
  refine x_isWord (wd := 5003) (d := d) ht he hc (by decide) ?_
  conv => whnf
  refine ⟨fun z => ?_, fun z => ?_⟩
  · rw [bI_t z] at h
    conv => whnf
    exact ⟨Or.inr rfl, h⟩
  rw [bI_f z, Bool.false_or] at h
  conv => whnf
  refine x_isWord (wd := 5004) (d := d) ht he hc (by decide) ?_
  conv => whnf
  refine ⟨fun z => ?_, fun z => ?_⟩
  · rw [bI_t z] at h
    conv => whnf
    exact ⟨Or.inr rfl, h⟩
  rw [bI_f z, Bool.false_or] at h
  conv => whnf
  refine x_isWord (wd := 5005) (d := d) ht he hc (by decide) ?_
  conv => whnf
  refine ⟨fun z => ?_, fun z => ?_⟩
  · rw [bI_t z] at h
    conv => whnf
    exact ⟨Or.inr rfl, h⟩
  rw [bI_f z, Bool.false_or] at h
  conv => whnf
  refine x_isWord (wd := 5006) (d := d) ht he hc (by decide) ?_
  conv => whnf
  refine ⟨fun z => ?_, fun z => ?_⟩
  · rw [bI_f z] at h
    conv => whnf
    exact ⟨Or.inl rfl, h⟩
  · rw [bI_t z] at h
    conv => whnf
    exact ⟨Or.inr rfl, h⟩
/-- a fault told of the token at s -/
def fl (I : Nat → Nat → Int32) (k s : Nat) : Nat → Nat → Int32 := u2 (u2 I 2 13 (nI k)) 2 14 (nI s)
theorem x_fails {k : Int32} (hc : TC b n e I L) (h : kr (some (.int 0)) (mk w p r (u2 (u2 I 2 13 k) 2 14 (nI (tst b n e))) L)) : Ev l X uX4_fails d true 0 0 [.ref 2, .int k] (mk w p r I L) kr := by
  refine Ev.of (by decide) (Nat.le_of_ble_eq_true rfl) ?_
  refine Wf.gc tkX4_fails [] ?_
  conv => whnf
  rw [← hc.2.1] at h
  exact ⟨Or.inl rfl, h⟩
/-- a WHOLE within bounds stands here: 0; else the fault -/
def bnd (b : Nat → Nat) (n lo hi e : Nat) : Nat := if tso b n e = 2 then (if lo ≤ tvl b n e ∧ tvl b n e ≤ hi then 0 else 4) else 1
set_option maxRecDepth 20000 in
theorem x_bounded {lo hi : Nat} (hlo : lo < 1000) (hhi : hi < 1000) (he : e ≤ n) (hc : TC b n e I L) (h0 : bnd b n lo hi e = 0 → kr (some (.int 1)) (mk w p r I L)) (h1 : bnd b n lo hi e ≠ 0 → kr (some (.int 0)) (mk w p r (fl I (bnd b n lo hi e) (tst b n e)) L)) : Ev l X uX4_bounded (d + 1) true 0 0 [.ref 2, .int (nI lo), .int (nI hi)] (mk w p r I L) kr := by
  have s4 := tso_5 (b := b) (n := n) (e := e)
  refine Ev.of (by decide) (Nat.le_of_ble_eq_true rfl) ?_
  refine Wf.gc tkX4_bounded [] ?_
  conv => whnf
  unfold bnd at h0 h1
  refine ⟨fun z => ?_, fun z => ?_⟩
  · have z : I 2 4 = 2 := z
    rw [hc.1, show (2 : Int32) = nI 2 from rfl, nI_eq (by omega) (by decide)] at z
    rw [if_pos z] at h0 h1
    have hv := (tvl_b he z).1
    have h7 := hc.2.2.2.1 z
    conv => whnf
    refine sX6_within ?_ ?_
    · intro z1 z2
      have z1 : nI lo ≤ I 2 7 := z1
      have z2 : I 2 7 ≤ nI hi := z2
      rw [h7, nI_leI (by omega) (by omega)] at z1 z2
      rw [if_pos ⟨z1, z2⟩] at h0
      conv => whnf
      refine b1 (by decide) ?_
      conv => whnf
      exact ⟨Or.inr rfl, h0 rfl⟩
    · intro z1
      have z1 : ¬ (nI lo ≤ I 2 7 ∧ I 2 7 ≤ nI hi) := z1
      rw [h7, nI_leI (by omega) (by omega), nI_leI (by omega) (by omega)] at z1
      rw [if_neg z1] at h1
      conv => whnf
      refine b2 (by decide) ?_
      conv => whnf
      refine x_fails hc ?_
      conv => whnf
      refine b1 (by decide) ?_
      conv => whnf
      exact ⟨Or.inl rfl, h1 (by decide)⟩
  · have z : ¬ I 2 4 = 2 := z
    rw [hc.1, show (2 : Int32) = nI 2 from rfl, nI_eq (by omega) (by decide)] at z
    rw [if_neg z] at h1
    conv => whnf
    refine x_fails hc ?_
    conv => whnf
    exact ⟨Or.inl rfl, h1 (by decide)⟩
theorem TX_sT {I' : Nat → Nat → Int32} {L' : Nat → Nat → Int64} (ht : TX b n I) (hs : sT I I' L L') : TX b n I' := ⟨ht.1, by rw [hs.1 2 2 (by omega)]; exact ht.2.1, fun i hi => ⟨(ht.2.2 i hi).1, by rw [hs.1 3 i (by omega)]; exact (ht.2.2 i hi).2⟩⟩
/-- a label, then a WHOLE within bounds: the fault, its place -/
def lab (b : Nat → Nat) (n i lo hi e : Nat) : Nat × Nat := if isW b n i e = true then (bnd b n lo hi (tsp b n e), tst b n (tsp b n e)) else (1, tst b n e)
set_option maxRecDepth 20000 in
theorem x_labelled {wd lo hi : Nat} (hlo : lo < 1000) (hhi : hi < 1000) (ht : TX b n I) (he : e ≤ n) (hc : TC b n e I L) (hw : 5000 ≤ wd ∧ wd < 5042) (h0 : (lab b n (wd - 5000) lo hi e).1 = 0 → ∀ I' L', sT I I' L L' → TC b n (tsp b n e) I' L' → tso b n (tsp b n e) = 2 → lo ≤ tvl b n (tsp b n e) → tvl b n (tsp b n e) ≤ hi → kr (some (.int 1)) (mk w p r I' L')) (h1 : (lab b n (wd - 5000) lo hi e).1 ≠ 0 → ∀ I' L', sT I I' L L' → kr (some (.int 0)) (mk w p r (fl I' (lab b n (wd - 5000) lo hi e).1 (lab b n (wd - 5000) lo hi e).2) L')) : Ev l X uX4_labelled (d + 6) true 0 0 [.ref 2, .ref wd, .int (nI lo), .int (nI hi)] (mk w p r I L) kr := by
  have p0 : Nat.blt 0 wd = true := Nat.ble_eq_true_of_le (by omega)
  refine Ev.of (by decide) (Nat.le_of_ble_eq_true rfl) ?_
  refine Wf.sAl tkX4_labelled rfl rfl rfl ?_
  refine Wf.sAl tkX4_labelled rfl rfl p0 ?_
  refine Wf.sCv (as := [.ref wd]) (rest := []) tkX4_labelled rfl rfl rfl rfl ?_
  refine x_isWord (d := d) ht he hc hw ?_
  unfold lab at h0 h1
  refine Wf.sIf (x := bI (isW b n (wd - 5000) e)) tkX4_labelled rfl (fun z => ?_) (fun z => ?_)
  · rw [bI_t z, if_pos rfl] at h0 h1
    refine Wf.gc tkX4_labelled [] ?_
    conv => whnf
    have hsp := tsp_b (b := b) he
    refine x_take (d := d + 4) ht hsp.2 hc.2.2.1 (fun I' L' hs hc' => ?_)
    conv => whnf
    refine x_bounded (d := d + 4) hlo hhi hsp.2 hc' (fun q => ?_) (fun q => ?_)
    · conv => whnf
      refine ⟨Or.inr rfl, ?_⟩
      unfold bnd at q
      split at q
      · rename_i z1
        split at q
        · rename_i z2
          exact h0 (by unfold bnd; rw [if_pos z1, if_pos z2]) I' L' hs hc' z1 z2.1 z2.2
        · cases q
      · cases q
    · conv => whnf
      exact ⟨Or.inl rfl, h1 q I' L' hs⟩
  · rw [bI_f z, if_neg (by decide)] at h1
    refine Wf.gc tkX4_labelled [] ?_
    conv => whnf
    refine x_fails hc ?_
    conv => whnf
    exact ⟨Or.inl rfl, h1 (show (1 : Nat) ≠ 0 by decide) I L ⟨fun _ _ _ => rfl, fun _ _ _ => rfl⟩⟩
end ISWX
