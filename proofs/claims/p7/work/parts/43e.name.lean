/-! names: the class's table of them -/
section NAM
variable {l : Launch} {X : Nat × (Nat → Int32)} {d : Nat} {w : Nat × Nat} {p r : Nat} {I : Nat → Nat → Int32} {L : Nat → Nat → Int64} {kr : KR} {b : Nat → Nat} {n e : Nat}
/-- a name: where it was told first, its length, its sort, its number -/
abbrev Nm : Type := Nat × Nat × Nat × Nat
def nmD (nm : List Nm) (i : Nat) : Nm := nm.getD i (0, 0, 0, 0)
/-- letters from s on, k of them, in base 32 -/
def encN (b : Nat → Nat) (s : Nat) : Nat → Nat
  | 0 => 0
  | j + 1 => encN b s j * 32 + (b (s + j) - 96)
def smW (b : Nat → Nat) (s k : Nat) : Prop := k ≤ 8 ∧ 1 ≤ k ∧ ∀ j, j < k → isS (b (s + j)) = true
theorem encN_b {s : Nat} : ∀ {k : Nat}, (∀ j, j < k → isS (b (s + j)) = true) → encN b s k < 32 ^ k
  | 0, _ => Nat.zero_lt_one
  | k + 1, h => by
    have h1 := encN_b (s := s) (k := k) (fun j hj => h j (by omega))
    have h2 := isS_b (h k (by omega))
    show encN b s k * 32 + (b (s + k) - 96) < 32 ^ (k + 1)
    rw [Nat.pow_succ]
    omega
theorem enc_eq {s : Nat} : ∀ {k : Nat}, (∀ j, j < k → isS (b (s + j)) = true) → enc b s k = Int64.ofNat (encN b s k)
  | 0, _ => rfl
  | k + 1, h => by
    have h1 := enc_eq (s := s) (k := k) (fun j hj => h j (by omega))
    have h2 := isS_b (h k (by omega))
    show enc b s k * 32 + (sb (b (s + k)) - 97 + 1).toInt64 = Int64.ofNat (encN b s k * 32 + (b (s + k) - 96))
    have e : (sb (b (s + k)) - 97 + 1 : Int32) = nI (b (s + k) - 96) := by
      rw [sb_lo (by omega), show (97 : Int32) = nI 97 from rfl, nI_sub h2.1, nI_1, show b (s + k) - 97 + 1 = b (s + k) - 96 by omega]
    rw [e, h1, nI_l (by omega), Int64.ofNat_add, Int64.ofNat_mul]
    rfl
theorem encN_inj {s t : Nat} : ∀ {k m : Nat}, (∀ j, j < k → isS (b (s + j)) = true) → (∀ j, j < m → isS (b (t + j)) = true) → encN b s k = encN b t m → k = m ∧ ∀ j, j < k → b (s + j) = b (t + j)
  | 0, 0, _, _, _ => ⟨rfl, fun j hj => absurd hj (Nat.not_lt_zero j)⟩
  | 0, m + 1, _, h2, h => by
    have := isS_b (h2 m (by omega))
    have h : 0 = encN b t m * 32 + (b (t + m) - 96) := h
    omega
  | k + 1, 0, h1, _, h => by
    have := isS_b (h1 k (by omega))
    have h : encN b s k * 32 + (b (s + k) - 96) = 0 := h
    omega
  | k + 1, m + 1, h1, h2, h => by
    have c1 := isS_b (h1 k (by omega))
    have c2 := isS_b (h2 m (by omega))
    have h : encN b s k * 32 + (b (s + k) - 96) = encN b t m * 32 + (b (t + m) - 96) := h
    have e1 : b (s + k) = b (t + m) := by omega
    have e2 : encN b s k = encN b t m := by omega
    obtain ⟨e3, e4⟩ := encN_inj (fun j hj => h1 j (by omega)) (fun j hj => h2 j (by omega)) e2
    subst e3
    refine ⟨rfl, fun j hj => ?_⟩
    rcases Nat.lt_or_ge j k with z | z
    · exact e4 j z
    · rw [show j = k by omega]; exact e1
theorem encN_cg {s t : Nat} : ∀ {k : Nat}, (∀ j, j < k → b (s + j) = b (t + j)) → encN b s k = encN b t k
  | 0, _ => rfl
  | k + 1, h => by
    show encN b s k * 32 + (b (s + k) - 96) = encN b t k * 32 + (b (t + k) - 96)
    rw [h k (by omega), encN_cg (fun j hj => h j (by omega))]
theorem i64_inj {x y : Nat} (hx : x < 2 ^ 40) (hy : y < 2 ^ 40) (h : Int64.ofNat x = Int64.ofNat y) : x = y := by
  have h1 : (Int64.ofNat x).toInt = (Int64.ofNat y).toInt := by rw [h]
  rw [Int64.toInt_ofNat_of_lt (by omega), Int64.toInt_ofNat_of_lt (by omega)] at h1
  omega
/-- the same word -/
def sameW (b : Nat → Nat) (s k t m : Nat) : Bool := Nat.beq k m && (ff (fun j => !(Nat.beq (b (s + j)) (b (t + j)))) k 0).isNone
theorem sameW_iff {s k t m : Nat} : sameW b s k t m = true ↔ k = m ∧ ∀ j, j < k → b (s + j) = b (t + j) := by
  constructor
  · intro h
    obtain ⟨h1, h2⟩ := andT h
    refine ⟨Nat.eq_of_beq_eq_true h1, fun j hj => ?_⟩
    cases hf : ff (fun j => !(Nat.beq (b (s + j)) (b (t + j)))) k 0 with
    | some q => rw [hf] at h2; cases h2
    | none =>
      have := ff_none hf j (Nat.zero_le _) (by omega)
      have this : (!(Nat.beq (b (s + j)) (b (t + j)))) = false := this
      cases hq : Nat.beq (b (s + j)) (b (t + j)) with
      | true => exact Nat.eq_of_beq_eq_true hq
      | false => rw [hq] at this; cases this
  · intro h
    obtain ⟨rfl, h2⟩ := h
    unfold sameW
    rw [Nat.beq_refl, Bool.true_and]
    cases hf : ff (fun j => !(Nat.beq (b (s + j)) (b (t + j)))) k 0 with
    | none => rfl
    | some q =>
      obtain ⟨-, q2, q3⟩ := ff_lt hf
      have q3 : (!(Nat.beq (b (s + q)) (b (t + q)))) = true := q3
      rw [h2 q (by omega), Nat.beq_refl] at q3
      cases q3
theorem enc_same {s k t m : Nat} (h1 : smW b s k) (h2 : smW b t m) : enc b s k = enc b t m ↔ sameW b s k t m = true := by
  rw [enc_eq h1.2.2, enc_eq h2.2.2, sameW_iff]
  have p : ∀ {j}, j ≤ 8 → 32 ^ j ≤ 2 ^ 40 := fun {j} hj => by
    have := Nat.pow_le_pow_right (n := 32) (by decide) hj
    have e : (32 : Nat) ^ 8 = 2 ^ 40 := by decide
    omega
  have b1 := encN_b h1.2.2
  have b2 := encN_b h2.2.2
  have p1 := p h1.1
  have p2 := p h2.1
  constructor
  · intro h
    exact encN_inj h1.2.2 h2.2.2 (i64_inj (by omega) (by omega) h)
  · intro h
    obtain ⟨rfl, h⟩ := h
    rw [encN_cg h]
/-- the place of the name at hand in the table -/
def nlk (b : Nat → Nat) (n : Nat) (nm : List Nm) (e : Nat) : Option Nat := ff (fun i => sameW b (nmD nm i).1 (nmD nm i).2.1 (tst b n e) (tsp b n e - tst b n e)) nm.length 0
/-- the class's table -/
def NC (b : Nat → Nat) (nm : List Nm) (I : Nat → Nat → Int32) (L : Nat → Nat → Int64) : Prop := (I 2 12 = nI nm.length ∧ I 2 13 = 0) ∧ nm.length ≤ 15 ∧ ∀ i, i < nm.length → smW b (nmD nm i).1 (nmD nm i).2.1 ∧ L 4 i = enc b (nmD nm i).1 (nmD nm i).2.1 ∧ I 5 i = nI (nmD nm i).2.2.1 ∧ I 6 i = nI (nmD nm i).2.2.2
theorem wordS (he : e ≤ n) (h : tso b n e = 1) : smW b (tst b n e) (tsp b n e - tst b n e) := by
  obtain ⟨h1, h2, h3⟩ := word_b he h
  exact ⟨h1, h2, fun j hj => h3 _ (by omega) (by omega)⟩
theorem cmp0 {x y : Int64} : lg_cmp x y = 0 ↔ x = y := by
  unfold lg_cmp
  constructor
  · intro h
    split at h
    · cases h
    · split at h
      · assumption
      · cases h
  · intro h
    subst h
    rw [if_neg (fun z => Int64.lt_irrefl z), if_pos rfl]
set_option maxRecDepth 20000 in
theorem x_nameAt {nm : List Nm} (he : e ≤ n) (hc : TC b n e I L) (hn : NC b nm I L) (h1 : tso b n e = 1) (h : kr (some (.int (oI (nlk b n nm e)))) (mk w p r I L)) : Ev l X uX4_nameAt d true 0 0 [.ref 2] (mk w p r I L) kr := by
  obtain ⟨⟨n1, n0⟩, n2, n3⟩ := hn
  have hL := hc.2.2.2.2 h1
  have hw := wordS he h1
  refine Ev.of (by decide) (Nat.le_of_ble_eq_true rfl) ?_
  refine Wf.gc tkX4_nameAt [2] ?_
  conv => whnf
  have loop := srch (e := nm.length) (P := fun i => sameW b (nmD nm i).1 (nmD nm i).2.1 (tst b n e) (tsp b n e - tst b n e)) (Wi := fun i => Wf l X uX4_nameAt d true (mC (mk w p r I L) + 0, mS (mk w p r I L) + 0) 2 [(0, .ref 2), (1, .int (nI i))] [] (mk w p r I L) kr) (K := fun o => kr (some (.int (oI o))) (mk w p r I L)) ?_ ?_ 0 (Nat.zero_le _)
  · rw [Nat.sub_zero] at loop
    exact loop h
  · intro hK
    refine Wf.gc tkX4_nameAt [] ?_
    conv => whnf
    refine b1 (fun z => z ?_) ?_
    · show I 2 12 ≤ nI nm.length
      rw [n1]
      exact Int32.le_refl _
    conv => whnf
    exact hK
  · intro i hi
    obtain ⟨m1, m2, m3, m4⟩ := n3 i hi
    have iff := enc_same m1 hw
    have head : (enc b (nmD nm i).1 (nmD nm i).2.1 = enc b (tst b n e) (tsp b n e - tst b n e) → kr (some (.int (nI i))) (mk w p r I L)) → (¬ enc b (nmD nm i).1 (nmD nm i).2.1 = enc b (tst b n e) (tsp b n e - tst b n e) → Wf l X uX4_nameAt d true (mC (mk w p r I L) + 0, mS (mk w p r I L) + 0) 26 [(0, .ref 2), (1, .int (nI i))] [] (mk w p r I L) kr) → Wf l X uX4_nameAt d true (mC (mk w p r I L) + 0, mS (mk w p r I L) + 0) 2 [(0, .ref 2), (1, .int (nI i))] [] (mk w p r I L) kr := by
      intro j1 j2
      refine Wf.gc tkX4_nameAt [26] ?_
      conv => whnf
      refine b2 ?_ ?_
      · show ¬ I 2 12 ≤ nI i
        rw [n1]
        exact nI_ge hi (by omega)
      conv => whnf
      refine ⟨i, ix (N := 15) (by omega) (by decide), ?_⟩
      conv => whnf
      refine ⟨fun z => ?_, fun z => ?_⟩
      · have z : ¬ lg_cmp (L 4 i) (L 2 8) = 0 := z
        rw [cmp0, m2, hL] at z
        conv => whnf
        exact j2 z
      · have z : lg_cmp (L 4 i) (L 2 8) = 0 := z
        rw [cmp0, m2, hL] at z
        conv => whnf
        exact j1 z
    refine ⟨fun hP hK => ?_, fun hP hK => ?_⟩
    · exact head (fun _ => hK) (fun q => absurd (iff.mpr hP) q)
    · refine head (fun q => ?_) (fun _ => ?_)
      · have := iff.mp q
        rw [this] at hP
        cases hP
      · refine Wf.gc tkX4_nameAt [2] ?_
        conv => whnf
        rw [← nI_1] at hK
        exact hK
end NAM
