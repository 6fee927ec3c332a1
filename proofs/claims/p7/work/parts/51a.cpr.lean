/-! the reference's copies of rows; what was kept -/
section CPR
variable {l : Launch} {X : Nat × (Nat → Int32)} {d : Nat} {w : Nat × Nat} {p r : Nat} {I : Nat → Nat → Int32} {L : Nat → Nat → Int64} {kr : KR} {s t : Nat}
set_option maxHeartbeats 2000000 in
set_option maxRecDepth 20000 in
theorem y_cp_157_158 (hs : s + 25 ≤ 25) (ht : t + 25 ≤ 400) (h : ∀ K : Nat → Nat → Int32, (∀ x i, ¬ (x = 158 ∧ t ≤ i ∧ i < t + 25) → K x i = I x i) → (∀ i, i < 25 → K 158 (t + i) = I 157 (s + i)) → kr none (mk w p r K L)) : Ev l X uX7_copy d true 0 0 [.ref 157, .int (nI s), .ref 158, .int (nI t), .int 25] (mk w p r I L) kr := by
  refine Ev.of (by decide) (Nat.le_of_ble_eq_true rfl) ?_
  refine Wf.gc tkX7_copy [3] ?_
  conv => whnf
  have loop := down (fun j => ∀ K : Nat → Nat → Int32, (∀ x i, ¬ (x = 158 ∧ t ≤ i ∧ i < t + 25) → K x i = I x i) → (∀ i, i < j → K 158 (t + i) = I 157 (s + i)) → Wf l X uX7_copy d true (mC (mk w p r I L) + 0, mS (mk w p r I L) + 0) 3 [(0, .ref 157), (1, .int (nI s)), (2, .ref 158), (3, .int (nI t)), (4, .int 25), (5, .int (nI j))] [] (mk w p r K L) kr) 25 ?_ ?_ 0 (Nat.zero_le _)
  · exact loop I (fun _ _ _ => rfl) (fun i hi => absurd hi (Nat.not_lt_zero _))
  · intro K k1 k2
    refine Wf.gc tkX7_copy [] ?_
    conv => whnf
    refine b1' (by decide) ?_
    conv => whnf
    exact h K k1 k2
  · intro j hj ih K k1 k2
    have ih := ih (u2 K 158 (t + j) (K 157 (s + j))) (fun x i z => by rw [u2_o (by omega)]; exact k1 x i z) (fun i hi => by
      rcases Nat.lt_or_ge i j with z | z
      · rw [u2_o (by omega)]; exact k2 i z
      · have : i = j := by omega
        subst this
        rw [u2_s]; exact k1 157 (s + i) (by omega))
    rw [← nI_1] at ih
    refine Wf.gc tkX7_copy [3] ?_
    conv => whnf
    refine b2' (by show ¬ (25 : Int32) ≤ nI j; rw [show (25 : Int32) = nI 25 from rfl]; exact nI_ge hj (by decide)) ?_
    conv => whnf
    refine ⟨s + j, ⟨by show (nI s + nI j : Int32) = nI (s + j); exact nI_add s j, by omega, show s + j < 25 by omega⟩, ?_⟩
    conv => whnf
    refine ⟨t + j, ⟨by show (nI t + nI j : Int32) = nI (t + j); exact nI_add t j, by omega, show t + j < 400 by omega⟩, ?_⟩
    conv => whnf
    exact ih
set_option maxHeartbeats 2000000 in
set_option maxRecDepth 20000 in
theorem y_cp_158_157 (hs : s + 25 ≤ 400) (ht : t + 25 ≤ 25) (h : ∀ K : Nat → Nat → Int32, (∀ x i, ¬ (x = 157 ∧ t ≤ i ∧ i < t + 25) → K x i = I x i) → (∀ i, i < 25 → K 157 (t + i) = I 158 (s + i)) → kr none (mk w p r K L)) : Ev l X uX7_copy d true 0 0 [.ref 158, .int (nI s), .ref 157, .int (nI t), .int 25] (mk w p r I L) kr := by
  refine Ev.of (by decide) (Nat.le_of_ble_eq_true rfl) ?_
  refine Wf.gc tkX7_copy [3] ?_
  conv => whnf
  have loop := down (fun j => ∀ K : Nat → Nat → Int32, (∀ x i, ¬ (x = 157 ∧ t ≤ i ∧ i < t + 25) → K x i = I x i) → (∀ i, i < j → K 157 (t + i) = I 158 (s + i)) → Wf l X uX7_copy d true (mC (mk w p r I L) + 0, mS (mk w p r I L) + 0) 3 [(0, .ref 158), (1, .int (nI s)), (2, .ref 157), (3, .int (nI t)), (4, .int 25), (5, .int (nI j))] [] (mk w p r K L) kr) 25 ?_ ?_ 0 (Nat.zero_le _)
  · exact loop I (fun _ _ _ => rfl) (fun i hi => absurd hi (Nat.not_lt_zero _))
  · intro K k1 k2
    refine Wf.gc tkX7_copy [] ?_
    conv => whnf
    refine b1' (by decide) ?_
    conv => whnf
    exact h K k1 k2
  · intro j hj ih K k1 k2
    have ih := ih (u2 K 157 (t + j) (K 158 (s + j))) (fun x i z => by rw [u2_o (by omega)]; exact k1 x i z) (fun i hi => by
      rcases Nat.lt_or_ge i j with z | z
      · rw [u2_o (by omega)]; exact k2 i z
      · have : i = j := by omega
        subst this
        rw [u2_s]; exact k1 158 (s + i) (by omega))
    rw [← nI_1] at ih
    refine Wf.gc tkX7_copy [3] ?_
    conv => whnf
    refine b2' (by show ¬ (25 : Int32) ≤ nI j; rw [show (25 : Int32) = nI 25 from rfl]; exact nI_ge hj (by decide)) ?_
    conv => whnf
    refine ⟨s + j, ⟨by show (nI s + nI j : Int32) = nI (s + j); exact nI_add s j, by omega, show s + j < 400 by omega⟩, ?_⟩
    conv => whnf
    refine ⟨t + j, ⟨by show (nI t + nI j : Int32) = nI (t + j); exact nI_add t j, by omega, show t + j < 25 by omega⟩, ?_⟩
    conv => whnf
    exact ih
set_option maxHeartbeats 2000000 in
set_option maxRecDepth 20000 in
theorem y_cp_157_159 (hs : s + 25 ≤ 25) (ht : t + 25 ≤ 75) (h : ∀ K : Nat → Nat → Int32, (∀ x i, ¬ (x = 159 ∧ t ≤ i ∧ i < t + 25) → K x i = I x i) → (∀ i, i < 25 → K 159 (t + i) = I 157 (s + i)) → kr none (mk w p r K L)) : Ev l X uX7_copy d true 0 0 [.ref 157, .int (nI s), .ref 159, .int (nI t), .int 25] (mk w p r I L) kr := by
  refine Ev.of (by decide) (Nat.le_of_ble_eq_true rfl) ?_
  refine Wf.gc tkX7_copy [3] ?_
  conv => whnf
  have loop := down (fun j => ∀ K : Nat → Nat → Int32, (∀ x i, ¬ (x = 159 ∧ t ≤ i ∧ i < t + 25) → K x i = I x i) → (∀ i, i < j → K 159 (t + i) = I 157 (s + i)) → Wf l X uX7_copy d true (mC (mk w p r I L) + 0, mS (mk w p r I L) + 0) 3 [(0, .ref 157), (1, .int (nI s)), (2, .ref 159), (3, .int (nI t)), (4, .int 25), (5, .int (nI j))] [] (mk w p r K L) kr) 25 ?_ ?_ 0 (Nat.zero_le _)
  · exact loop I (fun _ _ _ => rfl) (fun i hi => absurd hi (Nat.not_lt_zero _))
  · intro K k1 k2
    refine Wf.gc tkX7_copy [] ?_
    conv => whnf
    refine b1' (by decide) ?_
    conv => whnf
    exact h K k1 k2
  · intro j hj ih K k1 k2
    have ih := ih (u2 K 159 (t + j) (K 157 (s + j))) (fun x i z => by rw [u2_o (by omega)]; exact k1 x i z) (fun i hi => by
      rcases Nat.lt_or_ge i j with z | z
      · rw [u2_o (by omega)]; exact k2 i z
      · have : i = j := by omega
        subst this
        rw [u2_s]; exact k1 157 (s + i) (by omega))
    rw [← nI_1] at ih
    refine Wf.gc tkX7_copy [3] ?_
    conv => whnf
    refine b2' (by show ¬ (25 : Int32) ≤ nI j; rw [show (25 : Int32) = nI 25 from rfl]; exact nI_ge hj (by decide)) ?_
    conv => whnf
    refine ⟨s + j, ⟨by show (nI s + nI j : Int32) = nI (s + j); exact nI_add s j, by omega, show s + j < 25 by omega⟩, ?_⟩
    conv => whnf
    refine ⟨t + j, ⟨by show (nI t + nI j : Int32) = nI (t + j); exact nI_add t j, by omega, show t + j < 75 by omega⟩, ?_⟩
    conv => whnf
    exact ih
set_option maxHeartbeats 2000000 in
set_option maxRecDepth 20000 in
theorem y_cp_159_157 (hs : s + 25 ≤ 75) (ht : t + 25 ≤ 25) (h : ∀ K : Nat → Nat → Int32, (∀ x i, ¬ (x = 157 ∧ t ≤ i ∧ i < t + 25) → K x i = I x i) → (∀ i, i < 25 → K 157 (t + i) = I 159 (s + i)) → kr none (mk w p r K L)) : Ev l X uX7_copy d true 0 0 [.ref 159, .int (nI s), .ref 157, .int (nI t), .int 25] (mk w p r I L) kr := by
  refine Ev.of (by decide) (Nat.le_of_ble_eq_true rfl) ?_
  refine Wf.gc tkX7_copy [3] ?_
  conv => whnf
  have loop := down (fun j => ∀ K : Nat → Nat → Int32, (∀ x i, ¬ (x = 157 ∧ t ≤ i ∧ i < t + 25) → K x i = I x i) → (∀ i, i < j → K 157 (t + i) = I 159 (s + i)) → Wf l X uX7_copy d true (mC (mk w p r I L) + 0, mS (mk w p r I L) + 0) 3 [(0, .ref 159), (1, .int (nI s)), (2, .ref 157), (3, .int (nI t)), (4, .int 25), (5, .int (nI j))] [] (mk w p r K L) kr) 25 ?_ ?_ 0 (Nat.zero_le _)
  · exact loop I (fun _ _ _ => rfl) (fun i hi => absurd hi (Nat.not_lt_zero _))
  · intro K k1 k2
    refine Wf.gc tkX7_copy [] ?_
    conv => whnf
    refine b1' (by decide) ?_
    conv => whnf
    exact h K k1 k2
  · intro j hj ih K k1 k2
    have ih := ih (u2 K 157 (t + j) (K 159 (s + j))) (fun x i z => by rw [u2_o (by omega)]; exact k1 x i z) (fun i hi => by
      rcases Nat.lt_or_ge i j with z | z
      · rw [u2_o (by omega)]; exact k2 i z
      · have : i = j := by omega
        subst this
        rw [u2_s]; exact k1 159 (s + i) (by omega))
    rw [← nI_1] at ih
    refine Wf.gc tkX7_copy [3] ?_
    conv => whnf
    refine b2' (by show ¬ (25 : Int32) ≤ nI j; rw [show (25 : Int32) = nI 25 from rfl]; exact nI_ge hj (by decide)) ?_
    conv => whnf
    refine ⟨s + j, ⟨by show (nI s + nI j : Int32) = nI (s + j); exact nI_add s j, by omega, show s + j < 75 by omega⟩, ?_⟩
    conv => whnf
    refine ⟨t + j, ⟨by show (nI t + nI j : Int32) = nI (t + j); exact nI_add t j, by omega, show t + j < 25 by omega⟩, ?_⟩
    conv => whnf
    exact ih
set_option maxHeartbeats 2000000 in
set_option maxRecDepth 20000 in
theorem y_cp_157_161 (hs : s + 25 ≤ 25) (ht : t + 25 ≤ 25) (h : ∀ K : Nat → Nat → Int32, (∀ x i, ¬ (x = 161 ∧ t ≤ i ∧ i < t + 25) → K x i = I x i) → (∀ i, i < 25 → K 161 (t + i) = I 157 (s + i)) → kr none (mk w p r K L)) : Ev l X uX7_copy d true 0 0 [.ref 157, .int (nI s), .ref 161, .int (nI t), .int 25] (mk w p r I L) kr := by
  refine Ev.of (by decide) (Nat.le_of_ble_eq_true rfl) ?_
  refine Wf.gc tkX7_copy [3] ?_
  conv => whnf
  have loop := down (fun j => ∀ K : Nat → Nat → Int32, (∀ x i, ¬ (x = 161 ∧ t ≤ i ∧ i < t + 25) → K x i = I x i) → (∀ i, i < j → K 161 (t + i) = I 157 (s + i)) → Wf l X uX7_copy d true (mC (mk w p r I L) + 0, mS (mk w p r I L) + 0) 3 [(0, .ref 157), (1, .int (nI s)), (2, .ref 161), (3, .int (nI t)), (4, .int 25), (5, .int (nI j))] [] (mk w p r K L) kr) 25 ?_ ?_ 0 (Nat.zero_le _)
  · exact loop I (fun _ _ _ => rfl) (fun i hi => absurd hi (Nat.not_lt_zero _))
  · intro K k1 k2
    refine Wf.gc tkX7_copy [] ?_
    conv => whnf
    refine b1' (by decide) ?_
    conv => whnf
    exact h K k1 k2
  · intro j hj ih K k1 k2
    have ih := ih (u2 K 161 (t + j) (K 157 (s + j))) (fun x i z => by rw [u2_o (by omega)]; exact k1 x i z) (fun i hi => by
      rcases Nat.lt_or_ge i j with z | z
      · rw [u2_o (by omega)]; exact k2 i z
      · have : i = j := by omega
        subst this
        rw [u2_s]; exact k1 157 (s + i) (by omega))
    rw [← nI_1] at ih
    refine Wf.gc tkX7_copy [3] ?_
    conv => whnf
    refine b2' (by show ¬ (25 : Int32) ≤ nI j; rw [show (25 : Int32) = nI 25 from rfl]; exact nI_ge hj (by decide)) ?_
    conv => whnf
    refine ⟨s + j, ⟨by show (nI s + nI j : Int32) = nI (s + j); exact nI_add s j, by omega, show s + j < 25 by omega⟩, ?_⟩
    conv => whnf
    refine ⟨t + j, ⟨by show (nI t + nI j : Int32) = nI (t + j); exact nI_add t j, by omega, show t + j < 25 by omega⟩, ?_⟩
    conv => whnf
    exact ih
set_option maxHeartbeats 2000000 in
set_option maxRecDepth 20000 in
theorem y_cp_155_161 (hs : s + 25 ≤ 25) (ht : t + 25 ≤ 25) (h : ∀ K : Nat → Nat → Int32, (∀ x i, ¬ (x = 161 ∧ t ≤ i ∧ i < t + 25) → K x i = I x i) → (∀ i, i < 25 → K 161 (t + i) = I 155 (s + i)) → kr none (mk w p r K L)) : Ev l X uX7_copy d true 0 0 [.ref 155, .int (nI s), .ref 161, .int (nI t), .int 25] (mk w p r I L) kr := by
  refine Ev.of (by decide) (Nat.le_of_ble_eq_true rfl) ?_
  refine Wf.gc tkX7_copy [3] ?_
  conv => whnf
  have loop := down (fun j => ∀ K : Nat → Nat → Int32, (∀ x i, ¬ (x = 161 ∧ t ≤ i ∧ i < t + 25) → K x i = I x i) → (∀ i, i < j → K 161 (t + i) = I 155 (s + i)) → Wf l X uX7_copy d true (mC (mk w p r I L) + 0, mS (mk w p r I L) + 0) 3 [(0, .ref 155), (1, .int (nI s)), (2, .ref 161), (3, .int (nI t)), (4, .int 25), (5, .int (nI j))] [] (mk w p r K L) kr) 25 ?_ ?_ 0 (Nat.zero_le _)
  · exact loop I (fun _ _ _ => rfl) (fun i hi => absurd hi (Nat.not_lt_zero _))
  · intro K k1 k2
    refine Wf.gc tkX7_copy [] ?_
    conv => whnf
    refine b1' (by decide) ?_
    conv => whnf
    exact h K k1 k2
  · intro j hj ih K k1 k2
    have ih := ih (u2 K 161 (t + j) (K 155 (s + j))) (fun x i z => by rw [u2_o (by omega)]; exact k1 x i z) (fun i hi => by
      rcases Nat.lt_or_ge i j with z | z
      · rw [u2_o (by omega)]; exact k2 i z
      · have : i = j := by omega
        subst this
        rw [u2_s]; exact k1 155 (s + i) (by omega))
    rw [← nI_1] at ih
    refine Wf.gc tkX7_copy [3] ?_
    conv => whnf
    refine b2' (by show ¬ (25 : Int32) ≤ nI j; rw [show (25 : Int32) = nI 25 from rfl]; exact nI_ge hj (by decide)) ?_
    conv => whnf
    refine ⟨s + j, ⟨by show (nI s + nI j : Int32) = nI (s + j); exact nI_add s j, by omega, show s + j < 25 by omega⟩, ?_⟩
    conv => whnf
    refine ⟨t + j, ⟨by show (nI t + nI j : Int32) = nI (t + j); exact nI_add t j, by omega, show t + j < 25 by omega⟩, ?_⟩
    conv => whnf
    exact ih
set_option maxHeartbeats 2000000 in
set_option maxRecDepth 20000 in
theorem y_note {A : Ast} (hR : RA A) (hA : AS7 A I) (h : ∀ I', (∀ x i, ¬ (x = 150 ∧ i = 22) → x ≠ 158 → I' x i = I x i) → AS7 (A.1, A.2.1, psh A.2.2.1 A.2.1, A.2.2.2) I' → kr none (mk w p r I' L)) : Ev l X uX7_note (d + 1) true 0 0 [.ref 150] (mk w p r I L) kr := by
  obtain ⟨a1, a2, a3, a4, a5, a6, a7, a8⟩ := hA
  have h16 := hR.2.1.1
  have lastP : ∀ (k : Nat) (J : Nat → Nat → Int32), k < 16 → k + 1 = (psh A.2.2.1 A.2.1).length → J 150 22 = nI k → (∀ x i, ¬ (x = 150 ∧ i = 22) → x ≠ 158 → J x i = I x i) → (∀ j, j < k → ∀ i, i < 25 → J 158 (25 * j + i) = rD (psh A.2.2.1 A.2.1) j i) → ∀ ls : Ls, (ls = [] ∨ ∃ z : Int32, ls = [(1, .int z)]) → Wf l X uX7_note (d + 1) true (mC (mk w p r I L) + 0, mS (mk w p r I L) + 0) 49 ((0, .ref 150) :: ls) [] (mk w p r J L) kr := by
    intro k J hk hl j22 jo jr ls hls
    have rest : Wf l X uX7_note (d + 1) true (mC (mk w p r I L) + 0, mS (mk w p r I L) + 0) 49 [(0, .ref 150)] [] (mk w p r J L) kr := by
      refine Wf.gc tkX7_note [] ?_
      conv => whnf
      show Ev l X uX7_copy d true 0 0 [.ref 157, .int 0, .ref 158, .int (25 * J 150 22), .int 25] (mk w p r J L) _
      rw [j22, show (25 : Int32) * nI k = nI (25 * k) from nI_mul 25 k]
      refine y_cp_157_158 (s := 0) (t := 25 * k) (by decide) (by omega) (fun K k1 k2 => ?_)
      conv => whnf
      have k22 : K 150 22 = nI k := (k1 150 22 (by omega)).trans j22
      show kr none (mk w p r (u2 K 150 22 (K 150 22 + 1)) L)
      rw [k22, nI_s]
      refine h _ (fun x i z1 z2 => ?_) ⟨?_, FS_cg a2 (fun i _ => ?_), FH_cg a3 (fun i _ => ?_), fun i hi => ?_, ?_, fun j hj i hi => ?_, ?_, fun j hj i hi => ?_⟩
      · rw [u2_o z1, k1 x i (by omega)]; exact jo x i z1 z2
      · rw [u2_o (by omega), k1 150 14 (by omega), jo 150 14 (by omega) (by decide)]; exact a1
      · rw [u2_o (by omega), k1 153 i (by omega), jo 153 i (by omega) (by decide)]
      · rw [u2_o (by omega), k1 155 i (by omega), jo 155 i (by omega) (by decide)]
      · rw [u2_o (by omega), k1 157 i (by omega), jo 157 i (by omega) (by decide)]; exact a4 i hi
      · rw [u2_s]; show nI (k + 1) = nI (psh A.2.2.1 A.2.1).length; rw [hl]
      · have hj : j < (psh A.2.2.1 A.2.1).length := hj
        show u2 K 150 22 (nI (k + 1)) 158 (25 * j + i) = rD (psh A.2.2.1 A.2.1) j i
        rw [u2_o (by omega)]
        by_cases e : j = k
        · subst e
          rw [k2 i hi, jo 157 (0 + i) (by omega) (by decide), Nat.zero_add, a4 i hi]
          rcases psh_D (S := A.2.1) h16 hj with ⟨-, z⟩ | ⟨z, -, -⟩
          · rw [z]
          · omega
        · rw [k1 158 (25 * j + i) (by omega)]
          exact jr j (by omega) i hi
      · rw [u2_o (by omega), k1 150 23 (by omega), jo 150 23 (by omega) (by decide)]; exact a7
      · rw [u2_o (by omega), k1 159 _ (by omega), jo 159 _ (by omega) (by decide)]; exact a8 j hj i hi
    rcases hls with rfl | ⟨z, rfl⟩
    · exact rest
    · exact Wf.keep [0] rest
  refine Ev.of (by decide) (Nat.le_of_ble_eq_true rfl) ?_
  refine Wf.gc tkX7_note [11, 49] ?_
  conv => whnf
  have hl := psh_len (S := A.2.1) h16
  refine ⟨fun z => ?_, fun z => ?_⟩
  · have z : ¬ I 150 22 = 16 := z
    have hk : A.2.2.1.length < 16 := by
      rcases Nat.lt_or_ge A.2.2.1.length 16 with y | y
      · exact y
      · exfalso
        apply z
        rw [a5, show A.2.2.1.length = 16 by omega]
        rfl
    conv => whnf
    refine lastP A.2.2.1.length I hk (by rw [hl, if_pos hk]) a5 (fun _ _ _ _ => rfl) (fun j hj i hi => ?_) [] (Or.inl rfl)
    rw [a6 j hj i hi]
    unfold psh
    rw [if_pos hk, rD_a hj]
  · have z : I 150 22 = 16 := z
    have hk : A.2.2.1.length = 16 := by
      rw [a5] at z
      exact (nI_eq (by omega) (by decide)).mp (z.trans (show (16 : Int32) = nI 16 from rfl))
    conv => whnf
    have loop := down (fun j => ∀ K : Nat → Nat → Int32, (∀ x i, x ≠ 158 → K x i = I x i) → (∀ i, i < j → K 158 i = I 158 (i + 25)) → (∀ i, j ≤ i → K 158 i = I 158 i) → Wf l X uX7_note (d + 1) true (mC (mk w p r I L) + 0, mS (mk w p r I L) + 0) 11 [(0, .ref 150), (1, .int (nI j))] [] (mk w p r K L) kr) 375 ?_ ?_ 0 (Nat.zero_le _)
    · exact loop I (fun _ _ _ => rfl) (fun i hi => absurd hi (Nat.not_lt_zero _)) (fun _ _ => rfl)
    · intro K k1 k2 k3
      refine Wf.gc tkX7_note [49] ?_
      conv => whnf
      refine b1' (by decide) ?_
      conv => whnf
      show Wf l X uX7_note (d + 1) true (mC (mk w p r I L) + 0, mS (mk w p r I L) + 0) 49 [(0, .ref 150), (1, .int (nI 375))] [] (mk w p r (u2 K 150 22 (K 150 22 - 1)) L) kr
      rw [k1 150 22 (by decide), z]
      refine lastP 15 (u2 K 150 22 (16 - 1)) (by decide) (by rw [hl, if_neg (by omega)]) u2_s (fun x i z1 z2 => by rw [u2_o z1]; exact k1 x i z2) (fun j hj i hi => ?_) [(1, .int (nI 375))] (Or.inr ⟨_, rfl⟩)
      rw [u2_o (by omega), k2 (25 * j + i) (by omega), show 25 * j + i + 25 = 25 * (j + 1) + i by omega, a6 (j + 1) (by omega) i hi]
      unfold psh
      rw [if_neg (by omega), rD_a (by rw [List.length_drop]; omega), rD_d]
    · intro j hj ih K k1 k2 k3
      refine Wf.gc tkX7_note [11] ?_
      conv => whnf
      refine b2' (by show ¬ (375 : Int32) ≤ nI j; rw [show (375 : Int32) = nI 375 from rfl, nI_leI (by decide) (by omega)]; omega) ?_
      conv => whnf
      refine ⟨j + 25, ⟨by show (nI j + 25 : Int32) = nI (j + 25); exact nI_add j 25, by omega, show j + 25 < 400 by omega⟩, ?_⟩
      conv => whnf
      refine ⟨j, ⟨rfl, by omega, show j < 400 by omega⟩, ?_⟩
      conv => whnf
      show Wf l X uX7_note (d + 1) true (mC (mk w p r I L) + 0, mS (mk w p r I L) + 0) 11 [(0, .ref 150), (1, .int (nI j + 1))] [] (mk w p r (u2 K 158 j (K 158 (j + 25))) L) kr
      rw [nI_s]
      refine ih _ (fun x i z => by rw [u2_o (by omega)]; exact k1 x i z) (fun i hi => ?_) (fun i hi => ?_)
      · by_cases e : i = j
        · subst e
          rw [u2_s]; exact k3 (i + 25) (by omega)
        · rw [u2_o (by omega)]; exact k2 i (by omega)
      · rw [u2_o (by omega)]; exact k3 i (by omega)
end CPR
