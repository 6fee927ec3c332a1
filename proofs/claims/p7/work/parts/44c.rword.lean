/-! the reference's words and wholes -/
section RWD
variable {l : Launch} {X : Nat × (Nat → Int32)} {d : Nat} {w : Nat × Nat} {p r : Nat} {I : Nat → Nat → Int32} {L : Nat → Nat → Int64} {kr : KR} {b : Nat → Nat} {n e : Nat}
/-- a fault told -/
def flR (I : Nat → Nat → Int32) (k s : Nat) : Nat → Nat → Int32 := u2 (u2 (u2 I 150 13 1) 150 9 (nI k)) 150 10 (nI s)
theorem y_wrong0 {k s : Int32} (h0 : I 150 13 = 0) (h : kr none (mk w p r (u2 (u2 (u2 I 150 13 1) 150 9 k) 150 10 s) L)) : Ev l X uX7_wrong d true 0 0 [.ref 150, .int k, .int s] (mk w p r I L) kr := by
  refine Ev.of (by decide) (Nat.le_of_ble_eq_true rfl) ?_
  refine Wf.gc tkX7_wrong [] ?_
  conv => whnf
  refine b1' h0 ?_
  conv => whnf
  first
    | exact h
    | exact ⟨Or.inr rfl, h⟩
theorem y_wrong1 {k s : Int32} (h1 : ¬ I 150 13 = 0) (h : kr none (mk w p r I L)) : Ev l X uX7_wrong d true 0 0 [.ref 150, .int k, .int s] (mk w p r I L) kr := by
  refine Ev.of (by decide) (Nat.le_of_ble_eq_true rfl) ?_
  refine Wf.gc tkX7_wrong [] ?_
  conv => whnf
  refine b2' h1 ?_
  conv => whnf
  exact h
/-- the first k letters are those of the word -/
def eqs (b : Nat → Nat) (s i : Nat) : Nat → Bool
  | 0 => true
  | k + 1 => eqs b s i k && decide (sb (b (s + k)) = (tB i).getD k 0)
theorem eqs_iff {s i : Nat} : ∀ {k : Nat}, eqs b s i k = true ↔ ∀ j, j < k → sb (b (s + j)) = (tB i).getD j 0
  | 0 => ⟨fun _ j hj => absurd hj (Nat.not_lt_zero _), fun _ => rfl⟩
  | k + 1 => by
    constructor
    · intro h j hj
      obtain ⟨h1, h2⟩ := andT h
      rcases Nat.lt_or_ge j k with z | z
      · exact eqs_iff.mp h1 j z
      · rw [show j = k by omega]; exact of_decide_eq_true h2
    · intro h
      show (eqs b s i k && decide _) = true
      rw [eqs_iff.mpr (fun j hj => h j (by omega)), decide_eq_true (h k (by omega))]
      rfl
theorem eqs_ff {s i k : Nat} : eqs b s i k = (ff (fun j => !(decide (sb (b (s + j)) = (tB i).getD j 0))) k 0).isNone := by
  cases hf : ff (fun j => !(decide (sb (b (s + j)) = (tB i).getD j 0))) k 0 with
  | none =>
    refine eqs_iff.mpr (fun j hj => ?_)
    have := ff_none hf j (Nat.zero_le _) (by omega)
    have this : (!(decide (sb (b (s + j)) = (tB i).getD j 0))) = false := this
    cases hq : decide (sb (b (s + j)) = (tB i).getD j 0) with
    | true => exact of_decide_eq_true hq
    | false => rw [hq] at this; cases this
  | some q =>
    obtain ⟨-, q2, q3⟩ := ff_lt hf
    have q3 : (!(decide (sb (b (s + q)) = (tB i).getD q 0))) = true := q3
    cases hq : eqs b s i k with
    | false => rfl
    | true =>
      rw [decide_eq_true (eqs_iff.mp hq q (by omega))] at q3
      cases q3
theorem sb_nI : ∀ c, c < 256 → ∀ t, t < 128 → (sb c = nI t ↔ nI c = nI t) := by decide +kernel
theorem y_isWord_f {wd : Nat} (hw : 5000 ≤ wd ∧ wd < 5042) (h1 : ¬ I 150 13 = 0) (h : kr (some (.int 0)) (mk w p r I L)) : Ev l X uX7_isWord (d + 5) true 0 0 [.ref 150, .ref wd] (mk w p r I L) kr := by
  refine Ev.of (by decide) (Nat.le_of_ble_eq_true rfl) ?_
  refine Wf.gc tkX7_isWord [] ?_
  conv => whnf
  refine b1 h1 ?_
  conv => whnf
  exact ⟨Or.inl rfl, h⟩
set_option maxHeartbeats 2000000 in
set_option maxRecDepth 20000 in
theorem y_isWord {wd : Nat} (hr : RX b n I) (he : e ≤ n) (hc : TR b n e I) (h0 : I 150 13 = 0) (hw : 5000 ≤ wd ∧ wd < 5042) (h : kr (some (.int (bI (isW b n (wd - 5000) e)))) (mk w p r I L)) : Ev l X uX7_isWord (d + 5) true 0 0 [.ref 150, .ref wd] (mk w p r I L) kr := by
  obtain ⟨t6, t4, t5, -, t8⟩ := hc
  have hsp := tsp_b (b := b) he
  have s4 := tso_5 (b := b) (n := n) (e := e)
  have p0 : Nat.blt 0 wd = true := Nat.ble_eq_true_of_le (by omega)
  have hl := (len7 ⟨wd - 5000, by omega⟩).1
  have hl : (tB (wd - 5000)).length ≤ 7 := hl
  refine Ev.of (by decide) (Nat.le_of_ble_eq_true rfl) ?_
  have no : isW b n (wd - 5000) e = false → Wf l X uX7_isWord (d + 5) true (mC (mk w p r I L) + 0, mS (mk w p r I L) + 0) 26 [(0, .ref 150), (1, .ref wd)] [] (mk w p r I L) kr := by
    intro q
    rw [q] at h
    refine Wf.sIc tkX7_isWord rfl ?_
    exact Wf.sZr tkX7_isWord rfl (Or.inl rfl) h
  refine Wf.sAl tkX7_isWord rfl rfl rfl ?_
  refine Wf.sG tkX7_isWord rfl rfl ?_
  refine Wf.sIf (x := I 150 13) tkX7_isWord rfl (fun z => absurd h0 z) (fun _ => ?_)
  refine Wf.sAl tkX7_isWord rfl rfl rfl ?_
  refine Wf.sG tkX7_isWord rfl rfl ?_
  refine Wf.sIc tkX7_isWord rfl ?_
  refine Wf.sCm (x := I 150 6) (y := 2) tkX7_isWord rfl (fun z => no ?_) (fun z => ?_)
  · have z : ¬ I 150 6 = 2 := z
    unfold isW
    cases hq : Nat.beq (tso b n e) 1 with
    | false => rfl
    | true =>
      have := Nat.eq_of_beq_eq_true hq
      rw [t6, this] at z
      exact absurd rfl z
  have z : I 150 6 = 2 := z
  have t1 : tso b n e = 1 := by
    rw [t6] at z
    rcases (show tso b n e = 0 ∨ tso b n e = 1 ∨ tso b n e = 2 ∨ tso b n e = 3 ∨ tso b n e = 4 by omega) with q | q | q | q | q
    · rw [q] at z; exact absurd z (by decide)
    · exact q
    · rw [q] at z; exact absurd z (by decide)
    · rw [q] at z; exact absurd z (by decide)
    · rw [q] at z; exact absurd z (by decide)
  obtain ⟨n8, l8⟩ := t8 t1
  obtain ⟨w8, -, -⟩ := word_b he t1
  refine Wf.sAl tkX7_isWord rfl rfl rfl ?_
  refine Wf.sG tkX7_isWord rfl rfl ?_
  refine Wf.sAl tkX7_isWord rfl rfl p0 ?_
  refine Wf.sCq (rest := [.int (I 150 8)]) tkX7_isWord rfl rfl hw rfl ?_
  refine k_len (d := d + 3) hw ?_
  refine Wf.sCm (x := I 150 8) (y := nI (tB (wd - 5000)).length) tkX7_isWord rfl (fun z2 => ?_) (fun z2 => no ?_)
  · have z2 : I 150 8 = nI (tB (wd - 5000)).length := z2
    rw [n8, nI_eq (by omega) (by omega)] at z2
    have hiw : isW b n (wd - 5000) e = eqs b (tst b n e) (wd - 5000) (tB (wd - 5000)).length := by
      unfold isW
      rw [t1, z2, show Nat.beq 1 1 = true from rfl, show ∀ k, Nat.beq k k = true from fun k => Nat.beq_refl k, Bool.true_and, Bool.true_and, eqs_ff]
    rw [hiw] at h
    refine Wf.sIc tkX7_isWord rfl ?_
    refine Wf.sIs tkX7_isWord rfl rfl ?_
    refine Wf.sIc tkX7_isWord rfl ?_
    refine Wf.sIs tkX7_isWord rfl rfl ?_
    have loop : ∀ i, i ≤ (tB (wd - 5000)).length → Wf l X uX7_isWord (d + 5) true (mC (mk w p r I L) + 0, mS (mk w p r I L) + 0) 32 [(0, .ref 150), (1, .ref wd), (2, .int (bI (eqs b (tst b n e) (wd - 5000) i))), (3, .int (nI i))] [] (mk w p r I L) kr := by
      refine down _ _ ?_ ?_
      · refine Wf.sIl tkX7_isWord rfl rfl ?_
        refine Wf.sAl tkX7_isWord rfl rfl rfl ?_
        refine Wf.sG tkX7_isWord rfl rfl ?_
        refine Wf.sCm (x := nI (tB (wd - 5000)).length) (y := I 150 8) tkX7_isWord rfl (fun _ => ?_) (fun z => absurd (show I 150 8 ≤ nI (tB (wd - 5000)).length by rw [n8, z2]; exact Int32.le_refl _) z)
        refine Wf.sIl tkX7_isWord rfl rfl ?_
        refine Wf.sZr tkX7_isWord rfl ?_ h
        cases eqs b (tst b n e) (wd - 5000) (tB (wd - 5000)).length
        · exact Or.inl rfl
        · exact Or.inr rfl
      · intro i hi hW
        have sety : ∀ v : Int32, v = bI (eqs b (tst b n e) (wd - 5000) (i + 1)) → Wf l X uX7_isWord (d + 5) true (mC (mk w p r I L) + 0, mS (mk w p r I L) + 0) 63 [(0, .ref 150), (1, .ref wd), (2, .int (bI (eqs b (tst b n e) (wd - 5000) i))), (3, .int (nI i))] [.int v] (mk w p r I L) kr := by
          intro v hv
          refine Wf.sIs tkX7_isWord rfl rfl ?_
          refine Wf.sInc tkX7_isWord rfl rfl rfl ?_
          refine Wf.sGo tkX7_isWord rfl ?_
          rw [nI_1, hv]
          exact hW
        refine Wf.sIl tkX7_isWord rfl rfl ?_
        refine Wf.sAl tkX7_isWord rfl rfl rfl ?_
        refine Wf.sG tkX7_isWord rfl rfl ?_
        refine Wf.sCm (x := nI i) (y := I 150 8) tkX7_isWord rfl (fun z => absurd z (by show ¬ I 150 8 ≤ nI i; rw [n8, z2]; exact nI_ge hi (by omega))) (fun _ => ?_)
        refine Wf.sIl tkX7_isWord rfl rfl ?_
        refine Wf.sIf (x := bI (eqs b (tst b n e) (wd - 5000) i)) tkX7_isWord rfl (fun z3 => ?_) (fun z3 => ?_)
        · refine Wf.sIc tkX7_isWord rfl ?_
          refine sety 0 ?_
          show (0 : Int32) = bI (eqs b (tst b n e) (wd - 5000) i && _)
          rw [bI_f z3]
          rfl
        · have e1 := bI_t z3
          obtain ⟨hb1, hb2⟩ := hr.2.2 (tst b n e + i) (by omega)
          obtain ⟨t, ht1, ht2, ht3⟩ := tB_rng (wd - 5000) (by omega) i hi
          have iff : sb (b (tst b n e + i)) = (tB (wd - 5000)).getD i 0 ↔ nI (b (tst b n e + i)) = (tB (wd - 5000)).getD i 0 := by rw [ht3]; exact sb_nI _ hb1 t ht1
          refine Wf.sAl tkX7_isWord rfl rfl rfl ?_
          refine Wf.sG tkX7_isWord rfl rfl ?_
          refine Wf.sIl tkX7_isWord rfl rfl ?_
          refine Wf.sIal (j := i) tkX7_isWord rfl rfl ⟨rfl, by omega, show i < 8 by omega⟩ ?_
          refine Wf.sAl tkX7_isWord rfl rfl p0 ?_
          refine Wf.sIl tkX7_isWord rfl rfl ?_
          refine Wf.sCq (rest := [.int (I 152 i)]) tkX7_isWord rfl rfl hw rfl ?_
          refine k_charx (d := d + 1) hw hi ?_
          refine Wf.sCm (x := I 152 i) (y := (tB (wd - 5000)).getD i 0) tkX7_isWord rfl (fun z4 => ?_) (fun z4 => ?_)
          · have z4 : ¬ I 152 i = (tB (wd - 5000)).getD i 0 := z4
            rw [l8 i (by omega), ← iff] at z4
            refine Wf.sIc tkX7_isWord rfl ?_
            refine sety 0 ?_
            show (0 : Int32) = bI (eqs b (tst b n e) (wd - 5000) i && decide _)
            rw [decide_eq_false z4, Bool.and_false]
            rfl
          · have z4 : I 152 i = (tB (wd - 5000)).getD i 0 := z4
            rw [l8 i (by omega), ← iff] at z4
            refine Wf.sIc tkX7_isWord rfl ?_
            refine Wf.sGo tkX7_isWord rfl ?_
            refine sety 1 ?_
            show (1 : Int32) = bI (eqs b (tst b n e) (wd - 5000) i && decide _)
            rw [decide_eq_true z4, e1]
            rfl
    exact loop 0 (Nat.zero_le _)
  · have z2 : ¬ I 150 8 = nI (tB (wd - 5000)).length := z2
    rw [n8, nI_eq (by omega) (by omega)] at z2
    unfold isW
    cases hq : Nat.beq (tsp b n e - tst b n e) (tB (wd - 5000)).length with
    | false => rw [Bool.false_and, Bool.and_false]
    | true => exact absurd (Nat.eq_of_beq_eq_true hq) z2
theorem isW_21 {i : Nat} : isW b n (21 + i) e = isW b n i e := by
  have e1 : tB (21 + i) = tB i := by
    unfold tB tS
    rw [Nat.add_mod_left]
  unfold isW
  rw [e1]
end RWD
