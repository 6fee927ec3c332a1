/-! the law's script, counters, states -/
section LAWV
variable {i n : Nat} {M M' : Mm}
theorem vi1 (h : i + 6 ≤ n) (hn : n ≤ 3072) : vp_in (nI i + 1) n := by
  rw [show (nI i + 1 : Int32) = nI (i + 1) from nI_add i 1]
  exact vp_in_nI (by omega) (by omega)
theorem vi2 (h : i + 6 ≤ n) (hn : n ≤ 3072) : vp_in (nI i + 2) n := by
  rw [show (nI i + 2 : Int32) = nI (i + 2) from nI_add i 2]
  exact vp_in_nI (by omega) (by omega)
theorem vi3 (h : i + 6 ≤ n) (hn : n ≤ 3072) : vp_in (nI i + 3) n := by
  rw [show (nI i + 3 : Int32) = nI (i + 3) from nI_add i 3]
  exact vp_in_nI (by omega) (by omega)
theorem vi4 (h : i + 6 ≤ n) (hn : n ≤ 3072) : vp_in (nI i + 4) n := by
  rw [show (nI i + 4 : Int32) = nI (i + 4) from nI_add i 4]
  exact vp_in_nI (by omega) (by omega)
theorem vi5 (h : i + 6 ≤ n) (hn : n ≤ 3072) : vp_in (nI i + 5) n := by
  rw [show (nI i + 5 : Int32) = nI (i + 5) from nI_add i 5]
  exact vp_in_nI (by omega) (by omega)
theorem vi0 (h : i + 6 ≤ n) (hn : n ≤ 3072) : vp_in (nI i) n := vp_in_nI (by omega) (by omega)
theorem mC_1 (h : M'.1 = M.1) : mC M' = mC M := congrArg (fun x => x.2.1) h
theorem mS_1 (h : M'.1 = M.1) : mS M' = mS M := congrArg (fun x => x.2.2.1) h
def bz (x : Int32) : Int32 := if x = 0 then 0 else 1
theorem bz_0 {x : Int32} (h : x = 0) : bz x = 0 := if_pos h
theorem bz_1 {x : Int32} (h : ¬ x = 0) : bz x = 1 := if_neg h
theorem LX_gw (h : LX M) : LX (gw M) := h
theorem LX_wL {a j : Nat} {w : Int64} (h : LX M) : LX (wL M a j w) := h
theorem rj_LS (hN : 167 ≤ mN M) (hC : mC M + 1 ≤ 1000) (hS : mS M + 6 ≤ 10000) : rj (1000, 10000) M [(0, .ref 4999), (1, .ref 1), (2, .ref 150), (3, .ref 167), (4, .int (nI i))] [] 1 6 = true := by
  have e : ∀ a : Nat, a ≤ 167 → rk (mN M) (.ref a) = true := fun a ha => by
    show (Nat.ble a (mN M) || Nat.ble 4999 a) = true
    rw [Nat.ble_eq_true_of_le (show a ≤ mN M by omega)]
    rfl
  have e9 : rk (mN M) (.ref 4999) = true := by
    show (Nat.ble 4999 (mN M) || true) = true
    exact Bool.or_true _
  refine Bool.and_eq_true_iff.mpr ⟨rfl, Bool.and_eq_true_iff.mpr ⟨?_, Bool.and_eq_true_iff.mpr ⟨rfl, Bool.and_eq_true_iff.mpr ⟨Nat.ble_eq_true_of_le hC, Nat.ble_eq_true_of_le hS⟩⟩⟩⟩
  exact Bool.and_eq_true_iff.mpr ⟨e9, Bool.and_eq_true_iff.mpr ⟨e 1 (by decide), Bool.and_eq_true_iff.mpr ⟨e 150 (by decide), Bool.and_eq_true_iff.mpr ⟨e 167 (by decide), rfl⟩⟩⟩⟩
theorem hd_small : ∀ n : Nat, n < 6 → ∀ i : Nat, i < 6 → (nI n - 6 : Int32) < nI i := by decide
theorem hd_gt (hi : i ≤ n) (hn : n ≤ 3072) : (nI n - 6 : Int32) < nI i ↔ n < i + 6 := by
  by_cases h6 : 6 ≤ n
  · have e : (nI n - 6 : Int32) = nI (n - 6) := by
      have z : nI (n - 6) + 6 = nI n := by
        rw [show (nI (n - 6) + 6 : Int32) = nI (n - 6 + 6) from nI_add (n - 6) 6, Nat.sub_add_cancel h6]
      rw [← z]
      exact Int32.add_sub_cancel _ _
    rw [e, nI_ltI (by omega) (by omega)]
    omega
  · exact ⟨fun _ => by omega, fun _ => hd_small n (by omega) i (by omega)⟩
end LAWV
