/-! the reference's tokens -/
section RTK
variable {l : Launch} {X : Nat × (Nat → Int32)} {d : Nat} {w : Nat × Nat} {p r : Nat} {I : Nat → Nat → Int32} {L : Nat → Nat → Int64} {kr : KR} {b : Nat → Nat} {n e s : Nat}
def RX (b : Nat → Nat) (n : Nat) (I : Nat → Nat → Int32) : Prop := n ≤ 900 ∧ I 150 3 = nI n ∧ ∀ i, i < n → b i < 256 ∧ I 151 i = nI (b i)
/-- the sorts as the reference has them -/
def rc : Nat → Nat
  | 0 => 0
  | 1 => 2
  | 2 => 3
  | 3 => 59
  | _ => 1
def TR (b : Nat → Nat) (n e : Nat) (I : Nat → Nat → Int32) : Prop := I 150 6 = nI (rc (tso b n e)) ∧ I 150 4 = nI (tst b n e) ∧ I 150 5 = nI (tsp b n e) ∧ (tso b n e = 2 → I 150 7 = nI (tvl b n e)) ∧ (tso b n e = 1 → I 150 8 = nI (tsp b n e - tst b n e) ∧ ∀ k, k < tsp b n e - tst b n e → I 152 k = nI (b (tst b n e + k)))
def sN (I I' : Nat → Nat → Int32) : Prop := ∀ a i, ¬ (a = 150 ∧ 4 ≤ i ∧ i ≤ 8) → a ≠ 152 → I' a i = I a i
theorem y_see {k : Nat} (hk : k ≤ 901) (hr : RX b n I) (h0 : n ≤ k → kr (some (.int (-1))) (mk w p r I L)) (h1 : k < n → kr (some (.int (nI (b k)))) (mk w p r I L)) : Ev l X uX7_see d true 0 0 [.ref 150, .int (nI k)] (mk w p r I L) kr := by
  obtain ⟨h9, hn, hb⟩ := hr
  refine Ev.of (by decide) (Nat.le_of_ble_eq_true rfl) ?_
  refine Wf.gc tkX7_see [] ?_
  conv => whnf
  refine ⟨fun z => ?_, fun z => ?_⟩
  · have z : I 150 3 ≤ nI k := z
    rw [hn, nI_leI (by omega) (by omega)] at z
    conv => whnf
    exact h0 z
  · have z : ¬ I 150 3 ≤ nI k := z
    rw [hn, nI_leI (by omega) (by omega)] at z
    conv => whnf
    refine ⟨k, ix (N := 900) (by omega) (by decide), ?_⟩
    conv => whnf
    have h1 := h1 (by omega)
    rw [← (hb k (by omega)).2] at h1
    exact h1
theorem nIS : ∀ c, c < 256 → (isS c = true ↔ (¬ nI c < 97 ∧ ¬ 122 < nI c)) := by decide +kernel
theorem nID : ∀ c, c < 256 → (isD c = true ↔ (¬ nI c < 48 ∧ ¬ 57 < nI c)) := by decide +kernel
theorem y_isSmall {c : Nat} {M : Mm} (hc : c < 256) (h : kr (some (.int (bI (isS c)))) M) : Ev l X uX7_isSmall d true 0 0 [.int (nI c)] M kr := by
  refine k_small (fun z => ?_) (fun z => ?_)
  · have e : isS c = false := by
      cases hq : isS c with
      | false => rfl
      | true =>
        obtain ⟨q1, q2⟩ := (nIS c hc).mp hq
        unfold smL at z
        rw [decide_eq_true q1, decide_eq_true q2] at z
        cases z
    rw [e] at h
    exact h
  · have e : isS c = true := by
      unfold smL at z
      obtain ⟨q1, q2⟩ := andT z
      exact (nIS c hc).mpr ⟨of_decide_eq_true q1, of_decide_eq_true q2⟩
    rw [e] at h
    exact h
theorem y_isDigit {c : Nat} {M : Mm} (hc : c < 256) (h : kr (some (.int (bI (isD c)))) M) : Ev l X uX7_isDigit d true 0 0 [.int (nI c)] M kr := by
  refine k_digit (fun z => ?_) (fun z => ?_)
  · have e : isD c = false := by
      cases hq : isD c with
      | false => rfl
      | true =>
        obtain ⟨q1, q2⟩ := (nID c hc).mp hq
        unfold dgL at z
        rw [decide_eq_true q1, decide_eq_true q2] at z
        cases z
    rw [e] at h
    exact h
  · have e : isD c = true := by
      unfold dgL at z
      obtain ⟨q1, q2⟩ := andT z
      exact (nID c hc).mpr ⟨of_decide_eq_true q1, of_decide_eq_true q2⟩
    rw [e] at h
    exact h
theorem y_isSm1 {M : Mm} (h : kr (some (.int 0)) M) : Ev l X uX7_isSmall d true 0 0 [.int (-1)] M kr := k_small (fun _ => h) (fun z => by cases (show smL (-1) = false from by decide +kernel).symm.trans z)
theorem y_isDg1 {M : Mm} (h : kr (some (.int 0)) M) : Ev l X uX7_isDigit d true 0 0 [.int (-1)] M kr := k_digit (fun _ => h) (fun z => by cases (show dgL (-1) = false from by decide +kernel).symm.trans z)
theorem nI_m1 {k : Nat} (h : k < 1000) : ¬ nI k = -1 := by
  intro z
  have z : (nI k).toInt = (-1 : Int32).toInt := by rw [z]
  rw [nI_toInt (by omega)] at z
  have : (-1 : Int32).toInt = -1 := rfl
  omega
theorem n59 : ∀ c, c < 256 → (nI c = 59 ↔ c = 59) := by decide +kernel
set_option maxHeartbeats 4000000 in
set_option maxRecDepth 20000 in
/-- the word's loop -/
theorem y_nword {J : Nat → Nat → Int32} {MM : Mm} {c : Int32} (hr : RX b n J) (hs : s ≤ n) (h : ∀ K : Nat → Nat → Int32, (∀ a j, ¬ (a = 150 ∧ j = 8) → a ≠ 152 → K a j = J a j) → K 150 8 = nI (wen b n s - s) → (∀ j, j < wen b n s - s → j < 8 → K 152 j = nI (b (s + j))) → Wf l X uX7_next (d + 2) true (mC MM + 0, mS MM + 0) 117 [(0, .ref 150), (1, .int (nI (wen b n s))), (2, .int c)] [] (mk w p r K L) kr) : ∀ i, i ≤ n → s ≤ i → (fst (fun j => !(isS (b j))) n i = wen b n s) → ∀ K : Nat → Nat → Int32, (∀ a j, ¬ (a = 150 ∧ j = 8) → a ≠ 152 → K a j = J a j) → K 150 8 = nI (i - s) → (∀ j, j < i - s → j < 8 → K 152 j = nI (b (s + j))) → Wf l X uX7_next (d + 2) true (mC MM + 0, mS MM + 0) 67 [(0, .ref 150), (1, .int (nI i)), (2, .int c)] [] (mk w p r K L) kr := by
  have key := srch (e := n) (P := fun j => !(isS (b j))) (Wi := fun i => s ≤ i → ∀ K : Nat → Nat → Int32, (∀ a j, ¬ (a = 150 ∧ j = 8) → a ≠ 152 → K a j = J a j) → K 150 8 = nI (i - s) → (∀ j, j < i - s → j < 8 → K 152 j = nI (b (s + j))) → Wf l X uX7_next (d + 2) true (mC MM + 0, mS MM + 0) 67 [(0, .ref 150), (1, .int (nI i)), (2, .int c)] [] (mk w p r K L) kr) (K := fun o => o.getD n = wen b n s) ?_ ?_
  · intro i hi hsi hf
    exact key i hi hf hsi
  · intro hK hsi K k1 k2 k3
    have hK : n = wen b n s := hK
    have rx : RX b n K := ⟨hr.1, by rw [k1 150 3 (by omega) (by decide)]; exact hr.2.1, fun j hj => ⟨(hr.2.2 j hj).1, by rw [k1 151 j (by omega) (by decide)]; exact (hr.2.2 j hj).2⟩⟩
    refine Wf.gc tkX7_next [117] ?_
    conv => whnf
    refine y_see (by have := hr.1; omega) rx (fun _ => ?_) (fun z => absurd z (Nat.lt_irrefl _))
    conv => whnf
    refine y_isSm1 ?_
    conv => whnf
    refine b1' rfl ?_
    conv => whnf
    rw [hK] at k2 k3 ⊢
    exact h K k1 k2 k3
  · intro i hi
    have hbi := (hr.2.2 i hi).1
    refine ⟨fun hP hK hsi K k1 k2 k3 => ?_, fun hP ih hsi K k1 k2 k3 => ?_⟩
    · have hK : i = wen b n s := hK
      have hP : (!(isS (b i))) = true := hP
      have hS : isS (b i) = false := by
        cases hq : isS (b i) with
        | false => rfl
        | true => rw [hq] at hP; cases hP
      have rx : RX b n K := ⟨hr.1, by rw [k1 150 3 (by omega) (by decide)]; exact hr.2.1, fun j hj => ⟨(hr.2.2 j hj).1, by rw [k1 151 j (by omega) (by decide)]; exact (hr.2.2 j hj).2⟩⟩
      refine Wf.gc tkX7_next [117] ?_
      conv => whnf
      refine y_see (by have := hr.1; omega) rx (fun z => absurd hi (by omega)) (fun _ => ?_)
      conv => whnf
      refine y_isSmall hbi ?_
      conv => whnf
      rw [hS]
      refine b1' rfl ?_
      conv => whnf
      rw [hK] at k2 k3 ⊢
      exact h K k1 k2 k3
    · have hP : (!(isS (b i))) = false := hP
      have hS : isS (b i) = true := by
        cases hq : isS (b i) with
        | true => rfl
        | false => rw [hq] at hP; cases hP
      have rx : RX b n K := ⟨hr.1, by rw [k1 150 3 (by omega) (by decide)]; exact hr.2.1, fun j hj => ⟨(hr.2.2 j hj).1, by rw [k1 151 j (by omega) (by decide)]; exact (hr.2.2 j hj).2⟩⟩
      have n9 := hr.1
      have e1 : i + 1 - s = i - s + 1 := by omega
      have ih := ih (by omega)
      rw [e1] at ih
      have tl : ∀ K2 : Nat → Nat → Int32, (∀ a j, ¬ (a = 150 ∧ j = 8) → a ≠ 152 → K2 a j = J a j) → K2 150 8 = nI (i - s) → (∀ j, j < i - s + 1 → j < 8 → K2 152 j = nI (b (s + j))) → Wf l X uX7_next (d + 2) true (mC MM + 0, mS MM + 0) 101 [(0, .ref 150), (1, .int (nI i)), (2, .int c)] [] (mk w p r K2 L) kr := by
        intro K2 q1 q2 q3
        refine Wf.gc tkX7_next [67] ?_
        conv => whnf
        have q := ih (u2 K2 150 8 (K2 150 8 + 1)) (fun a j z1 z2 => by rw [u2_o z1]; exact q1 a j z1 z2) (by rw [u2_s, q2, nI_1]) (fun j z1 z2 => by rw [u2_o (by omega)]; exact q3 j z1 z2)
        rw [← nI_1] at q
        exact q
      refine Wf.gc tkX7_next [101] ?_
      conv => whnf
      refine y_see (by omega) rx (fun z => absurd hi (by omega)) (fun _ => ?_)
      conv => whnf
      refine y_isSmall hbi ?_
      conv => whnf
      rw [hS]
      refine b2' (by decide) ?_
      conv => whnf
      refine ⟨fun z => ?_, fun z => ?_⟩
      · have z : (8 : Int32) ≤ K 150 8 := z
        rw [k2, show (8 : Int32) = nI 8 from rfl, nI_leI (by decide) (by omega)] at z
        conv => whnf
        exact tl K k1 k2 (fun j z1 z2 => k3 j (by omega) z2)
      · have z : ¬ (8 : Int32) ≤ K 150 8 := z
        rw [k2, show (8 : Int32) = nI 8 from rfl, nI_leI (by decide) (by omega)] at z
        conv => whnf
        refine y_see (by omega) rx (fun z => absurd hi (by omega)) (fun _ => ?_)
        conv => whnf
        refine ⟨i - s, ⟨k2, by omega, show _ < 8 by omega⟩, ?_⟩
        conv => whnf
        refine tl (u2 K 152 (i - s) (nI (b i))) (fun a j z1 z2 => by rw [u2_o (by omega)]; exact k1 a j z1 z2) (by rw [u2_o (by omega)]; exact k2) (fun j z1 z2 => ?_)
        by_cases e : j = i - s
        · rw [e, u2_s, show s + (i - s) = i by omega]
        · rw [u2_o (by omega)]; exact k3 j (by omega) z2
end RTK
