/-! walls counted; bounds behind a line -/
section POP
def pcT (x : Nat) : Nat → Nat
  | 0 => 0
  | j + 1 => pcT x j + (x.testBit j).toNat
theorem pcT_cg {x y : Nat} : ∀ {K : Nat}, (∀ j, j < K → x.testBit j = y.testBit j) → pcT x K = pcT y K
  | 0, _ => rfl
  | K + 1, h => by
    show pcT x K + (x.testBit K).toNat = pcT y K + (y.testBit K).toNat
    rw [pcT_cg (fun j hj => h j (by omega)), h K (by omega)]
theorem pcT_or {x k : Nat} (hb : x.testBit k = false) : ∀ {K : Nat}, pcT (x ||| 2 ^ k) K = pcT x K + (if k < K then 1 else 0)
  | 0 => rfl
  | K + 1 => by
    show pcT (x ||| 2 ^ k) K + ((x ||| 2 ^ k).testBit K).toNat = pcT x K + (x.testBit K).toNat + _
    rw [pcT_or hb, Nat.testBit_or, Nat.testBit_two_pow]
    by_cases h : k = K
    · subst h
      rw [hb, if_neg (Nat.lt_irrefl _), if_pos (Nat.lt_succ_self _), decide_eq_true rfl]
      rfl
    · rw [decide_eq_false h, Bool.or_false]
      by_cases h2 : k < K
      · rw [if_pos h2, if_pos (by omega)]; omega
      · rw [if_neg h2, if_neg (by omega)]; omega
/-- all numbers of at most m bits below 2 ^ k are counted rightly -/
def chk5 : Nat → Nat → Nat → Nat → Bool
  | 0, _, acc, c => decide (pcI (nI acc) = nI c)
  | k + 1, 0, acc, c => chk5 k 0 acc c
  | k + 1, m + 1, acc, c => chk5 k (m + 1) acc c && chk5 k m (acc + 2 ^ k) (c + 1)
theorem chk5_ok : ∀ (k m acc c : Nat), chk5 k m acc c = true → ∀ y, y < 2 ^ k → pcT y k ≤ m → pcI (nI (acc + y)) = nI (c + pcT y k)
  | 0, m, acc, c, h, y, hy, _ => by
    have e : y = 0 := by omega
    subst e
    exact of_decide_eq_true h
  | k + 1, m, acc, c, h, y, hy, hm => by
    rw [Nat.pow_succ] at hy
    rcases Nat.lt_or_ge y (2 ^ k) with z | z
    · have e1 : pcT y (k + 1) = pcT y k := by
        show pcT y k + (y.testBit k).toNat = _
        rw [Nat.testBit_lt_two_pow z]
        rfl
      rw [e1] at hm ⊢
      cases m with
      | zero => exact chk5_ok k 0 acc c h y z hm
      | succ m => exact chk5_ok k (m + 1) acc c (andT h).1 y z hm
    · obtain ⟨x, rfl⟩ : ∃ x, y = 2 ^ k + x := ⟨y - 2 ^ k, by omega⟩
      have hx : x < 2 ^ k := by omega
      have e1 : pcT (2 ^ k + x) (k + 1) = pcT x k + 1 := by
        show pcT (2 ^ k + x) k + ((2 ^ k + x).testBit k).toNat = _
        rw [Nat.testBit_two_pow_add_eq, Nat.testBit_lt_two_pow hx, pcT_cg (fun j hj => Nat.testBit_two_pow_add_gt hj x)]
        rfl
      rw [e1] at hm ⊢
      cases m with
      | zero => omega
      | succ m =>
        have := chk5_ok k m (acc + 2 ^ k) (c + 1) (andT h).2 x hx (by omega)
        rw [Nat.add_assoc] at this
        rw [this]
        congr 1
        omega
set_option maxRecDepth 20000 in
theorem chk5_20 : chk5 20 5 0 0 = true := by decide +kernel
theorem pc_20 {x : Nat} (hx : x < 2 ^ 20) (h5 : pcT x 20 ≤ 5) : pcI (nI x) = nI (pcT x 20) := by
  have := chk5_ok 20 5 0 0 chk5_20 x hx h5
  rw [Nat.zero_add, Nat.zero_add] at this
  exact this
/-- the walls are a set of so many cells -/
def BW (F : Nat → Nat) (W : Int32) : Prop := ∃ x, x < 2 ^ 20 ∧ W = nI x ∧ pcT x 20 = F 3
theorem sh31 : ∀ k, k < 32 → ((nI k &&& 31).toBitVec.smod 32).toNat = k := by decide +kernel
theorem isWl_bit {x k : Nat} (hx : x < 2 ^ 20) (hk : k < 20) : isWl (nI x) k = x.testBit k := by
  unfold isWl
  rw [pk_shrN (by omega) _ k (sh31 k (by omega)), show (1 : Int32) = nI 1 from rfl, pk_andN (n := x / 2 ^ k) (by have := Nat.div_le_self x (2 ^ k); omega) (m := nI 1) 1 rfl, show (0 : Int32) = nI 0 from rfl, Nat.testBit_eq_decide_div_mod_eq]
  have h2 : x / 2 ^ k % 2 ^ 1 < 2 := Nat.mod_lt _ (by decide)
  have e : (2 : Nat) ^ 1 = 2 := rfl
  rw [e] at h2 ⊢
  by_cases h : x / 2 ^ k % 2 = 1
  · rw [h, decide_eq_true rfl]
    decide
  · have h0 : x / 2 ^ k % 2 = 0 := by omega
    rw [h0]
    decide
theorem nI_or {x y : Nat} : nI x ||| nI y = nI (x ||| y) := by
  apply Int32.toBitVec_inj.mp
  apply BitVec.eq_of_toNat_eq
  show (BitVec.ofNat 32 x ||| BitVec.ofNat 32 y).toNat = (BitVec.ofNat 32 (x ||| y)).toNat
  rw [BitVec.toNat_or, BitVec.toNat_ofNat, BitVec.toNat_ofNat, BitVec.toNat_ofNat, Nat.or_mod_two_pow]
theorem wall_or {x k : Nat} (hk : k < 20) : nI x ||| ((1 : Int32) <<< (nI k &&& 31)) = nI (x ||| 2 ^ k) := by
  have h2 : 2 ^ k ≤ 2 ^ 19 := Nat.pow_le_pow_right (by decide) (by omega)
  rw [show (1 : Int32) = nI 1 from rfl, pk_shlN (n := 1) _ k (sh31 k (by omega)) (by omega), Nat.one_mul, nI_or]
theorem BW_add {F : Nat → Nat} {W : Int32} {k : Nat} (hk : k < 20) (h : BW F W) (hw : isWl W k = false) : BW (uF F 3 (F 3 + 1)) (W ||| ((1 : Int32) <<< (nI k &&& 31))) := by
  obtain ⟨x, h1, rfl, h3⟩ := h
  rw [isWl_bit h1 hk] at hw
  refine ⟨x ||| 2 ^ k, Nat.or_lt_two_pow h1 (Nat.pow_lt_pow_right (by decide) hk), wall_or hk, ?_⟩
  rw [pcT_or hw, if_pos hk, h3, uF_s]
end POP
section BDL
variable {b : Nat → Nat} {n e : Nat} {nm : List Nm} {F : Nat → Nat} {W : Int32}
/-- all bounds -/
def B2 (P : Ps) : Prop := Bd P.1 P.2.1 P.2.2.1 ∧ BW P.1 P.2.1
theorem Bp_of (h : BW F W) (h3 : F 3 ≤ 5) : pcI W = nI (F 3) := by
  obtain ⟨x, h1, rfl, h4⟩ := h
  rw [pc_20 h1 (by omega), h4]
theorem tn_le (he : e ≤ n) : ∀ k, tn b n k e ≤ tn b n (k + 1) e := fun k => by
  have h1 := tn_b (b := b) he k
  have h2 := (tst_b (b := b) h1).1
  have h3 := (tsp_b (b := b) h1).1
  show tn b n k e ≤ tsp b n (tn b n k e)
  omega
theorem tn_ge (he : e ≤ n) : ∀ k, 1 ≤ k → tn b n 1 e ≤ tn b n k e
  | 0, h => by omega
  | 1, _ => Nat.le_refl _
  | k + 2, _ => Nat.le_trans (tn_ge he (k + 1) (by omega)) (tn_le he (k + 1))
theorem isW_1 {i : Nat} (h : isW b n i e = true) : tso b n e = 1 := Nat.eq_of_beq_eq_true (andT h).1
theorem bgl_1 (h : bgl b n e = true) : tso b n e = 1 := by
  unfold bgl at h
  rcases Bool.or_eq_true_iff.mp h with z | h
  · exact isW_1 z
  rcases Bool.or_eq_true_iff.mp h with z | h
  · exact isW_1 z
  rcases Bool.or_eq_true_iff.mp h with z | h
  · exact isW_1 z
  rcases Bool.or_eq_true_iff.mp h with z | h
  · exact isW_1 z
  rcases Bool.or_eq_true_iff.mp h with z | h
  · exact isW_1 z
  rcases Bool.or_eq_true_iff.mp h with z | h
  · exact isW_1 z
  · exact isW_1 h
/-- a line goes on behind its own word -/
theorem ln_gt (he : e ≤ n) (h : bgl b n e = true) (k : Nat) (hk : 1 ≤ k) : e < tn b n k e := by
  have h1 : e < tn b n 1 e := tsp_gt he (by rw [bgl_1 h]; decide)
  exact Nat.lt_of_lt_of_le h1 (tn_ge he k hk)
theorem lab_v {i lo hi : Nat} (h : ¬ (lab b n i lo hi e).1 ≠ 0) : lo ≤ tvl b n (tsp b n e) ∧ tvl b n (tsp b n e) ≤ hi := by
  have h : (lab b n i lo hi e).1 = 0 := Decidable.not_not.mp h
  unfold lab at h
  split at h
  · exact bnd_v h
  · cases h
theorem uF_lt {k v : Nat} (h : ∀ j, F j < 1000) (hv : v < 1000) : ∀ j, uF F k v j < 1000 := fun j => by
  unfold uF
  split
  · exact hv
  · exact h j
end BDL
