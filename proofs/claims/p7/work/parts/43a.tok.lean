/-! TOKENS of a text: bytes b, n of them; e: where the last one stopped -/
section TOK
def isS (c : Nat) : Bool := Nat.ble 97 c && Nat.ble c 122
def isD (c : Nat) : Bool := Nat.ble 48 c && Nat.ble c 57
def fst (P : Nat → Bool) (n k : Nat) : Nat := (ff P (n - k) k).getD n
variable (b : Nat → Nat) (n : Nat)
/-- where the token begins -/
def tst (e : Nat) : Nat := fst (fun j => !(Nat.beq (b j) 32)) n e
def wen (s : Nat) : Nat := fst (fun j => !(isS (b j))) n s
def den (s : Nat) : Nat := fst (fun j => !(isD (b j))) n s
/-- its sort: 0 the end, 1 a word, 2 a whole, 3 the mark, 4 none such -/
def kso (s : Nat) : Nat := if n ≤ s then 0 else if isS (b s) = true then (if wen b n s - s ≤ 8 then 1 else 4) else if isD (b s) = true then (if den b n s - s ≤ 3 then 2 else 4) else if b s = 59 then 3 else 4
def ksp (s : Nat) : Nat := if n ≤ s then s else if isS (b s) = true then wen b n s else if isD (b s) = true then den b n s else s + 1
def tso (e : Nat) : Nat := kso b n (tst b n e)
def tsp (e : Nat) : Nat := ksp b n (tst b n e)
/-- the first j digits from s on; so in Int32; letters in base 32 -/
def dv (s : Nat) : Nat → Nat
  | 0 => 0
  | j + 1 => dv s j * 10 + (b (s + j) - 48)
def sb (c : Nat) : Int32 := if c < 128 then nI c else nI c - 256
def dvI (s : Nat) : Nat → Int32
  | 0 => 0
  | j + 1 => dvI s j * 10 + (sb (b (s + j)) - 48)
def enc (s : Nat) : Nat → Int64
  | 0 => 0
  | j + 1 => enc s j * 32 + (sb (b (s + j)) - 97 + 1).toInt64
def tvl (e : Nat) : Nat := dv b (tst b n e) (tsp b n e - tst b n e)
def ten (e : Nat) : Int64 := enc b (tst b n e) (tsp b n e - tst b n e)
variable {b n}
theorem fst_ge {P : Nat → Bool} {n k : Nat} (h : k ≤ n) : k ≤ fst P n k ∧ fst P n k ≤ n := by
  unfold fst
  cases hf : ff P (n - k) k with
  | none => exact ⟨h, Nat.le_refl _⟩
  | some j =>
    obtain ⟨h1, h2, -⟩ := ff_lt hf
    show k ≤ j ∧ j ≤ n
    omega
theorem ff_no {P : Nat → Bool} : ∀ {n i j : Nat}, ff P n i = some j → ∀ k, i ≤ k → k < j → P k = false
  | 0, i, j, h, _, _, _ => by cases h
  | n + 1, i, j, h, k, h1, h2 => by
    unfold ff at h
    cases hP : P i with
    | true =>
      rw [hP, if_pos rfl] at h
      cases h
      omega
    | false =>
      rw [hP, if_neg (by decide)] at h
      rcases Nat.lt_or_ge i k with z | z
      · exact ff_no h k (by omega) h2
      · rw [show k = i by omega]; exact hP
theorem ff_none {P : Nat → Bool} : ∀ {n i : Nat}, ff P n i = none → ∀ k, i ≤ k → k < i + n → P k = false
  | 0, i, _, k, h1, h2 => by omega
  | n + 1, i, h, k, h1, h2 => by
    unfold ff at h
    cases hP : P i with
    | true => rw [hP, if_pos rfl] at h; cases h
    | false =>
      rw [hP, if_neg (by decide)] at h
      rcases Nat.lt_or_ge i k with z | z
      · exact ff_none h k (by omega) (by omega)
      · rw [show k = i by omega]; exact hP
theorem fst_in {P : Nat → Bool} {n k j : Nat} (h1 : k ≤ j) (h2 : j < fst P n k) : P j = false := by
  unfold fst at h2
  cases hf : ff P (n - k) k with
  | none => rw [hf] at h2; have h2 : j < n := h2; exact ff_none hf j h1 (by omega)
  | some m => rw [hf] at h2; exact ff_no hf j h1 h2
theorem fst_gt {P : Nat → Bool} {n k : Nat} (h : k < n) (hP : P k = false) : k < fst P n k := by
  rcases Nat.lt_or_ge k (fst P n k) with z | z
  · exact z
  · exfalso
    have h1 := (fst_ge (P := P) (n := n) (k := k) (by omega)).1
    have e : fst P n k = k := by omega
    unfold fst at e
    cases hf : ff P (n - k) k with
    | none => rw [hf] at e; have e : n = k := e; omega
    | some m =>
      rw [hf] at e
      have e : m = k := e
      have := (ff_lt hf).2.2
      rw [e, hP] at this
      cases this
theorem tst_b {e : Nat} (h : e ≤ n) : e ≤ tst b n e ∧ tst b n e ≤ n := fst_ge h
theorem ksp_b {s : Nat} (h : s ≤ n) : s ≤ ksp b n s ∧ ksp b n s ≤ n := by
  unfold ksp
  split
  · omega
  · split
    · exact fst_ge h
    · split
      · exact fst_ge h
      · omega
theorem tsp_b {e : Nat} (h : e ≤ n) : tst b n e ≤ tsp b n e ∧ tsp b n e ≤ n := ksp_b (tst_b h).2
/-- behind any token but the end the text is shorter -/
theorem tsp_gt {e : Nat} (h : e ≤ n) (ht : tso b n e ≠ 0) : e < tsp b n e := by
  have h1 := (tst_b (b := b) h).1
  have h2 := (tst_b (b := b) h).2
  unfold tso kso at ht
  unfold tsp ksp
  rcases Nat.lt_or_ge (tst b n e) n with z | z
  · rw [if_neg (by omega)]
    split
    · rename_i hs
      have := fst_gt (P := fun j => !(isS (b j))) z (by show (!(isS (b (tst b n e)))) = false; rw [hs]; rfl)
      show e < fst (fun j => !(isS (b j))) n (tst b n e)
      omega
    · split
      · rename_i hd
        have := fst_gt (P := fun j => !(isD (b j))) z (by show (!(isD (b (tst b n e)))) = false; rw [hd]; rfl)
        show e < fst (fun j => !(isD (b j))) n (tst b n e)
        omega
      · omega
  · rw [if_pos z] at ht
    exact absurd rfl ht
/-- a word has at most 8 letters, small ones -/
theorem word_b {e : Nat} (h : e ≤ n) (ht : tso b n e = 1) : tsp b n e - tst b n e ≤ 8 ∧ 1 ≤ tsp b n e - tst b n e ∧ ∀ j, tst b n e ≤ j → j < tsp b n e → isS (b j) = true := by
  have h2 := (tst_b (b := b) h).2
  unfold tso kso at ht
  unfold tsp ksp
  split at ht
  · omega
  · rename_i z
    rw [if_neg z]
    split at ht
    · rename_i hs
      rw [if_pos hs]
      split at ht
      · rename_i h8
        refine ⟨h8, ?_, fun j h3 h4 => ?_⟩
        · have := fst_gt (P := fun j => !(isS (b j))) (n := n) (k := tst b n e) (by omega) (by show (!(isS (b (tst b n e)))) = false; rw [hs]; rfl)
          have : tst b n e < wen b n (tst b n e) := this
          omega
        · have := fst_in (P := fun j => !(isS (b j))) h3 h4
          have this : (!(isS (b j))) = false := this
          cases hq : isS (b j) with
          | true => rfl
          | false => rw [hq] at this; cases this
      · omega
    · split at ht
      · split at ht <;> omega
      · split at ht <;> omega
/-- a whole has at most 3 digits -/
theorem whole_b {e : Nat} (h : e ≤ n) (ht : tso b n e = 2) : tsp b n e - tst b n e ≤ 3 ∧ ∀ j, tst b n e ≤ j → j < tsp b n e → isD (b j) = true := by
  have h2 := (tst_b (b := b) h).2
  unfold tso kso at ht
  unfold tsp ksp
  split at ht
  · omega
  · rename_i z
    rw [if_neg z]
    split at ht
    · split at ht <;> omega
    · rename_i hs
      rw [if_neg hs]
      split at ht
      · rename_i hd
        rw [if_pos hd]
        split at ht
        · rename_i h3
          refine ⟨h3, fun j h3 h4 => ?_⟩
          have := fst_in (P := fun j => !(isD (b j))) h3 h4
          have this : (!(isD (b j))) = false := this
          cases hq : isD (b j) with
          | true => rfl
          | false => rw [hq] at this; cases this
        · omega
      · split at ht <;> omega
theorem isD_b {c : Nat} (h : isD c = true) : 48 ≤ c ∧ c ≤ 57 := by
  obtain ⟨h1, h2⟩ := andT h
  exact ⟨Nat.le_of_ble_eq_true h1, Nat.le_of_ble_eq_true h2⟩
theorem isS_b {c : Nat} (h : isS c = true) : 97 ≤ c ∧ c ≤ 122 := by
  obtain ⟨h1, h2⟩ := andT h
  exact ⟨Nat.le_of_ble_eq_true h1, Nat.le_of_ble_eq_true h2⟩
theorem sb_lo {c : Nat} (h : c < 128) : sb c = nI c := if_pos h
theorem dv_b {s : Nat} : ∀ {j : Nat}, (∀ k, k < j → isD (b (s + k)) = true) → dv b s j < 10 ^ j
  | 0, _ => Nat.zero_lt_one
  | j + 1, h => by
    have h1 := dv_b (s := s) (j := j) (fun k hk => h k (by omega))
    have h2 := isD_b (h j (by omega))
    show dv b s j * 10 + (b (s + j) - 48) < 10 ^ (j + 1)
    rw [Nat.pow_succ]
    omega
theorem nI_mul (x y : Nat) : nI x * nI y = nI (x * y) := (Int32.ofNat_mul x y).symm
theorem dvI_eq {s : Nat} : ∀ {j : Nat}, (∀ k, k < j → isD (b (s + k)) = true) → dvI b s j = nI (dv b s j)
  | 0, _ => rfl
  | j + 1, h => by
    have h1 := dvI_eq (s := s) (j := j) (fun k hk => h k (by omega))
    have h2 := isD_b (h j (by omega))
    show dvI b s j * 10 + (sb (b (s + j)) - 48) = nI (dv b s j * 10 + (b (s + j) - 48))
    have e : (sb (b (s + j)) - 48 : Int32) = nI (b (s + j) - 48) := by
      rw [sb_lo (by omega)]
      have z : nI (b (s + j)) = nI (b (s + j) - 48) + 48 := by
        rw [show (nI (b (s + j) - 48) + 48 : Int32) = nI (b (s + j) - 48 + 48) from nI_add _ 48, Nat.sub_add_cancel h2.1]
      rw [z]
      exact Int32.add_sub_cancel _ _
    rw [e, h1, show (nI (dv b s j) * 10 : Int32) = nI (dv b s j * 10) from nI_mul _ 10, nI_add]
theorem tvl_b {e : Nat} (h : e ≤ n) (ht : tso b n e = 2) : tvl b n e < 1000 ∧ dvI b (tst b n e) (tsp b n e - tst b n e) = nI (tvl b n e) := by
  obtain ⟨h1, h2⟩ := whole_b h ht
  have h3 : ∀ k, k < tsp b n e - tst b n e → isD (b (tst b n e + k)) = true := fun k hk => h2 _ (by omega) (by omega)
  refine ⟨?_, dvI_eq h3⟩
  have h4 := dv_b h3
  have h5 : 10 ^ (tsp b n e - tst b n e) ≤ 10 ^ 3 := Nat.pow_le_pow_right (by decide) h1
  show dv b _ _ < 1000
  omega
end TOK
