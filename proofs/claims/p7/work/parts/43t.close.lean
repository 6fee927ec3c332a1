/-! the class's close, exactly -/
section CLX
variable {l : Launch} {X : Nat × (Nat → Int32)} {d : Nat} {w : Nat × Nat} {p r : Nat} {I : Nat → Nat → Int32} {L : Nat → Nat → Int64} {kr : KR} {b : Nat → Nat} {n e : Nat}
theorem x_min {x y : Int32} {M : Mm} (h : kr (some (.int (if y < x then y else x))) M) : Ev l X uJ9_min_7cf53 d true 0 0 [.int x, .int y] M kr := by
  refine Ev.ofF (by decide +kernel) (Nat.le_of_ble_eq_true rfl) ?_
  refine Wf.gc tkJ9_min_7cf53 [] ?_
  conv => whnf
  refine ⟨fun z => ?_, fun z => ?_⟩
  · have z : y < x := z
    rw [if_pos z] at h
    conv => whnf
    exact h
  · have z : ¬ y < x := z
    rw [if_neg z] at h
    conv => whnf
    exact h
theorem bleF {a c : Nat} (h : c < a) : Nat.ble a c = false := by
  cases hq : Nat.ble a c with
  | false => rfl
  | true => have := Nat.le_of_ble_eq_true hq; omega
theorem beqF {a c : Nat} (h : a ≠ c) : Nat.beq a c = false := by
  cases hq : Nat.beq a c with
  | false => rfl
  | true => exact absurd (Nat.eq_of_beq_eq_true hq) h
theorem R0_r {q a k : Nat} (h : ¬ (a = 2 ∧ k = 3)) : R0 p r a k = R0 p q a k := by
  rcases Nat.lt_or_ge a 2 with z | z
  · rcases (show a = 0 ∨ a = 1 by omega) with rfl | rfl <;> rfl
  · rcases Nat.lt_or_ge 2 a with z2 | z2
    · unfold R0
      rw [bleF z2]
      rfl
    · have e : a = 2 := by omega
      subst e
      show R0_2 p r k = R0_2 p q k
      unfold R0_2
      rw [beqF (show k ≠ 3 by omega)]
      rfl
theorem wR_23 {q : Nat} : wR (mk w p r I L) 2 3 q = mk w p q I L := by
  show ((167, w.1, w.2, K0), I, L, fun c j => if c = 2 ∧ j = 3 then q else R0 p r c j) = ((167, w.1, w.2, K0), I, L, R0 p q)
  have e : (fun c j => if c = 2 ∧ j = 3 then q else R0 p r c j) = R0 p q := by
    funext c j
    by_cases h : c = 2 ∧ j = 3
    · rw [if_pos h, h.1, h.2]; rfl
    · rw [if_neg h]; exact R0_r h
  rw [e]
theorem R0_p {q a k : Nat} (h : ¬ (a = 1 ∧ (k = 1 ∨ k = 2))) : R0 p r a k = R0 q r a k := by
  rcases Nat.lt_or_ge a 1 with z | z
  · have e : a = 0 := by omega
    subst e
    rfl
  · rcases Nat.lt_or_ge 1 a with z2 | z2
    · unfold R0
      rw [bleF z2]
      rfl
    · have e : a = 1 := by omega
      subst e
      show R0_1 p r k = R0_1 q r k
      unfold R0_1
      rw [beqF (show k ≠ 1 by omega), beqF (show k ≠ 2 by omega)]
      rfl
theorem wR_sw {q : Nat} (hq : 27 - q = p) : wR (wR (mk w p r I L) 1 1 q) 1 2 p = mk w q r I L := by
  show ((167, w.1, w.2, K0), I, L, fun c j => if c = 1 ∧ j = 2 then p else if c = 1 ∧ j = 1 then q else R0 p r c j) = ((167, w.1, w.2, K0), I, L, R0 q r)
  have e : (fun c j => if c = 1 ∧ j = 2 then p else if c = 1 ∧ j = 1 then q else R0 p r c j) = R0 q r := by
    funext c j
    by_cases h : c = 1 ∧ j = 2
    · rw [if_pos h, h.1, h.2]
      show p = 27 - q
      exact hq.symm
    · rw [if_neg h]
      by_cases h2 : c = 1 ∧ j = 1
      · rw [if_pos h2, h2.1, h2.2]; rfl
      · rw [if_neg h2]
        exact R0_p (by omega)
  rw [e]
/-- what close may change: the reader, the spare plan -/
def sR (q : Nat) (I I' : Nat → Nat → Int32) (L L' : Nat → Nat → Int64) : Prop := (∀ a i, ¬ (a = 2 ∧ 2 ≤ i) → a ≠ 5 → a ≠ 6 → ¬ (q ≤ a ∧ a ≤ q + 12) → I' a i = I a i) ∧ ∀ a i, a ≠ 2 → a ≠ 4 → L' a i = L a i
set_option maxHeartbeats 2000000 in
set_option maxRecDepth 20000 in
theorem x_reads {q : Nat} (hq : q = 7 ∨ q = 20) (hn9 : n ≤ 900) (hb : ∀ i, i < n → b i < 256 ∧ I 3 i = sb (b i)) (hE : ∀ er, rdT b n (n + 1) P00 = .inl er → ∀ I' L', sR q I I' L L' → I' 2 13 = nI er.1 → I' 2 14 = nI er.2 → kr (some (.int 0)) (mk w p q I' L')) (hO : ∀ P', rdT b n (n + 1) P00 = .inr P' → ∀ I' L', sR q I I' L L' → SC b n q P' I' L' → kr (some (.int 1)) (mk w p q I' L')) : Ev l X uX4_reads (d + 11) true 0 0 [.ref 2, .int (nI n), .ref q] (mk w p r I L) kr := by
  refine Ev.of (by decide) (Nat.le_of_ble_eq_true rfl) ?_
  have p0 : Nat.blt 0 q = true := by rcases hq with rfl | rfl <;> rfl
  refine Wf.sAl tkX4_reads rfl rfl rfl ?_
  refine Wf.sIl tkX4_reads rfl rfl ?_
  refine Wf.sIc tkX4_reads rfl ?_
  refine Wf.sCs (as := [.int (nI n), .int 900]) (rest := [.ref 2]) tkX4_reads rfl rfl rfl ?_
  refine x_min ?_
  rw [if_neg (by rw [show (900 : Int32) = nI 900 from rfl, nI_ltI (by decide) (by omega)]; omega)]
  refine Wf.sPI tkX4_reads rfl rfl ?_
  refine Wf.sAl tkX4_reads rfl rfl rfl ?_
  refine Wf.sAl tkX4_reads rfl rfl p0 ?_
  show Wf l X uX4_reads (d + 11) true (mC (mk w p r I L) + 0, mS (mk w p r I L) + 0) 13 [(0, .ref 2), (1, .int (nI n)), (2, .ref q)] [.ref q, .ref 2] (mk w p r (u2 I 2 2 (nI n)) L) kr
  have rest : Wf l X uX4_reads (d + 11) true (mC (mk w p r I L) + 0, mS (mk w p r I L) + 0) 16 [(0, .ref 2), (1, .int (nI n)), (2, .ref q)] [] (mk w p q (u2 I 2 2 (nI n)) L) kr := by
    have go : ∀ J : Nat → Nat → Int32, (∀ a i, a ≠ q → a ≠ q + 5 → J a i = u2 I 2 2 (nI n) a i) → PC q F00 0 J → Wf l X uX4_reads (d + 11) true (mC (mk w p r I L) + 0, mS (mk w p r I L) + 0) 23 [(0, .ref 2), (1, .int (nI n)), (2, .ref q)] [] (mk w p q J L) kr := by
      intro J hJ hpc
      refine Wf.gc tkX4_reads [49] ?_
      conv => whnf
      obtain ⟨K, hK⟩ : ∃ K, K = u2 (u2 (u2 (u2 J 2 12 0) 2 13 0) 2 14 0) 2 6 0 := ⟨_, rfl⟩
      show Ev l X uX4_take (d + 10) true 0 0 [.ref 2] (mk w p q (u2 (u2 (u2 (u2 J 2 12 0) 2 13 0) 2 14 0) 2 6 0) L) _
      rw [← hK]
      have kJ : ∀ a i, ¬ (a = 2 ∧ 4 ≤ i) → K a i = J a i := fun a i z => by rw [hK, u2_o (by omega), u2_o (by omega), u2_o (by omega), u2_o (by omega)]
      have tx : TX b n K := ⟨hn9, by rw [kJ 2 2 (by omega), hJ 2 2 (by omega) (by omega), u2_s], fun i hi => ⟨(hb i hi).1, by rw [kJ 3 i (by omega), hJ 3 i (by omega) (by omega), u2_o (by omega)]; exact (hb i hi).2⟩⟩
      have pcK : PC q F00 0 K := PC_eq hpc (fun a i z1 z2 => kJ a i (by omega))
      have ncK : NC b [] K L := ⟨⟨by rw [hK]; rfl, by rw [hK]; rfl⟩, by decide, fun i hi => absurd hi (Nat.not_lt_zero _)⟩
      have sR0 : ∀ I' L', sL q K I' L L' → sR q I I' L L' := fun I' L' hs => ⟨fun a i z1 z2 z3 z4 => by rw [hs.1 a i (by omega) z2 z3 z4, kJ a i (by omega), hJ a i (by omega) (by omega), u2_o (by omega)], hs.2⟩
      refine x_take (d := d + 9) (e := 0) tx (Nat.zero_le _) (by rw [hK]; rfl) (fun I1 L1 hs1 hc1 => ?_)
      conv => whnf
      exact x_rloop (b := b) (n := n) (J0 := K) (K0 := L) (av := [.ref 2]) (MM := mk w p r I L) hq ⟨_, rfl⟩ (fun er I' L' h1 h2 h3 h4 => hE er h4 I' L' (sR0 I' L' h1) h2 h3) (fun P' h4 I' L' h1 h2 => hO P' h4 I' L' (sR0 I' L' h1) h2) hn9 (n + 1) 0 (by omega) P00 I1 L1 rfl B3_00 hs1.sL ⟨TX_sT tx hs1, Nat.zero_le _, hc1, NC_sT ncK hs1, PC_sT (by omega) pcK hs1⟩ (nI n) q
    rcases hq with rfl | rfl
    · refine Wf.gc tkX4_reads [23] ?_
      conv => whnf
      refine x_clear (Or.inl rfl) (fun J hJ hpc => ?_)
      conv => whnf
      exact go J hJ hpc
    · refine Wf.gc tkX4_reads [23] ?_
      conv => whnf
      refine x_clear (Or.inr rfl) (fun J hJ hpc => ?_)
      conv => whnf
      exact go J hJ hpc
  have rest : Wf l X uX4_reads (d + 11) true (mC (mk w p r I L) + 0, mS (mk w p r I L) + 0) 16 [(0, .ref 2), (1, .int (nI n)), (2, .ref q)] [] (wR (mk w p r (u2 I 2 2 (nI n)) L) 2 3 q) kr := by
    rw [wR_23]
    exact rest
  rcases hq with rfl | rfl
  · refine Wf.gc tkX4_reads [16] ?_
    conv => whnf
    exact rest
  · refine Wf.gc tkX4_reads [16] ?_
    conv => whnf
    exact rest
theorem u2_id {α : Type} {J : Nat → Nat → α} {a i : Nat} {v : α} (h : J a i = v) : u2 J a i v = J := by
  funext x y
  unfold u2
  split
  · rename_i z; rw [z.1, z.2, h]
  · rfl
set_option maxHeartbeats 2000000 in
set_option maxRecDepth 20000 in
/-- now is as the plan tells -/
theorem x_begin {q : Nat} (hq : q = 7 ∨ q = 20) (h : ∀ I', (∀ a i, (a < 33 ∨ 37 < a) → I' a i = I a i) → (∀ f, f < 6 → I' 34 f = I (q + 2) f ∧ I' 35 f = 0 ∧ I' 36 f = 0) → (∀ c, c < 5 → I' 37 c = I (q + 6) c) → I' 33 4 = 0 → I' 33 5 = 0 → kr none (mk w p r I' L)) : Ev l X uX2_begin (d + 1) true 0 0 [.ref 33, .ref q] (mk w p r I L) kr := by
  refine Ev.of (by decide) (Nat.le_of_ble_eq_true rfl) ?_
  have fin : ∀ J : Nat → Nat → Int32, (∀ a i, (a < 33 ∨ 37 < a) → J a i = I a i) → (∀ f, f < 6 → J 34 f = I (q + 2) f) → (∀ c, c < 5 → J 37 c = I (q + 6) c) → Wf l X uX2_begin (d + 1) true (mC (mk w p r I L) + 0, mS (mk w p r I L) + 0) 31 [(0, .ref 33), (1, .ref q), (2, .int (nI 0))] [] (mk w p r J L) kr := by
    intro J j1 j2 j3
    have loop : ∀ i, i ≤ 6 → ∀ K : Nat → Nat → Int32, (∀ a j, a ≠ 35 → a ≠ 36 → K a j = J a j) → (∀ j, j < i → K 35 j = 0 ∧ K 36 j = 0) → Wf l X uX2_begin (d + 1) true (mC (mk w p r I L) + 0, mS (mk w p r I L) + 0) 31 [(0, .ref 33), (1, .ref q), (2, .int (nI i))] [] (mk w p r K L) kr := by
      refine down _ 6 ?_ ?_
      · intro K hK hz
        refine Wf.gc tkX2_begin [] ?_
        conv => whnf
        refine b1' (by show (6 : Int32) ≤ nI 6; decide) ?_
        conv => whnf
        show kr none (mk w p r (u2 (u2 K 33 4 0) 33 5 0) L)
        refine h _ (fun a i z => ?_) (fun f hf => ?_) (fun c hc => ?_) rfl rfl
        · rw [u2_o (by omega), u2_o (by omega), hK a i (by omega) (by omega)]; exact j1 a i z
        · rw [u2_o (by omega), u2_o (by omega), u2_o (by omega), u2_o (by omega), u2_o (by omega), u2_o (by omega), hK 34 f (by decide) (by decide)]
          exact ⟨j2 f hf, (hz f hf).1, (hz f hf).2⟩
        · rw [u2_o (by omega), u2_o (by omega), hK 37 c (by decide) (by decide)]; exact j3 c hc
      · intro i hi ih K hK hz
        refine Wf.gc tkX2_begin [31] ?_
        conv => whnf
        refine b2' (by show ¬ (6 : Int32) ≤ nI i; rw [show (6 : Int32) = nI 6 from rfl]; exact nI_ge hi (by decide)) ?_
        conv => whnf
        refine ⟨i, ix (N := 6) hi (by decide), ?_⟩
        conv => whnf
        refine ⟨i, ix (N := 6) hi (by decide), ?_⟩
        conv => whnf
        have q := ih (u2 (u2 K 35 i 0) 36 i 0) (fun a j z1 z2 => by rw [u2_o (by omega), u2_o (by omega)]; exact hK a j z1 z2) (fun j hj => by
          by_cases e : j = i
          · subst e
            rw [u2_o (by omega), u2_s, u2_s]
            exact ⟨rfl, rfl⟩
          · rw [u2_o (by omega), u2_o (by omega), u2_o (by omega), u2_o (by omega)]
            exact hz j (by omega))
        rw [← nI_1] at q
        exact q
    exact loop 0 (by decide) J (fun _ _ _ _ => rfl) (fun j hj => absurd hj (Nat.not_lt_zero _))
  rcases hq with rfl | rfl
  · refine Wf.gc tkX2_begin [31] ?_
    conv => whnf
    refine ⟨0, 0, 6, ⟨rfl, rfl, rfl, by decide, by decide, by decide, Nat.le_refl 6, Nat.le_refl 6⟩, ?_⟩
    conv => whnf
    refine ⟨0, 0, 5, ⟨rfl, rfl, rfl, by decide, by decide, by decide, Nat.le_refl 5, Nat.le_refl 5⟩, ?_⟩
    conv => whnf
    exact fin (u1 (u1 I 34 (va_cpy (I 9) (I 34) 0 0 6)) 37 (va_cpy (I 13) (I 37) 0 0 5)) (fun a i z => by rw [u1_o (by omega), u1_o (by omega)]) (fun f hf => by rw [u1_o (by decide), u1_s]; exact (pk_cpy_in (Nat.zero_le _) (by omega)).trans (by rw [Nat.sub_zero, Nat.zero_add])) (fun c hc => by rw [u1_s]; exact (pk_cpy_in (Nat.zero_le _) (by omega)).trans (by rw [Nat.sub_zero, Nat.zero_add]))
  · refine Wf.gc tkX2_begin [31] ?_
    conv => whnf
    refine ⟨0, 0, 6, ⟨rfl, rfl, rfl, by decide, by decide, by decide, Nat.le_refl 6, Nat.le_refl 6⟩, ?_⟩
    conv => whnf
    refine ⟨0, 0, 5, ⟨rfl, rfl, rfl, by decide, by decide, by decide, Nat.le_refl 5, Nat.le_refl 5⟩, ?_⟩
    conv => whnf
    exact fin (u1 (u1 I 34 (va_cpy (I 22) (I 34) 0 0 6)) 37 (va_cpy (I 26) (I 37) 0 0 5)) (fun a i z => by rw [u1_o (by omega), u1_o (by omega)]) (fun f hf => by rw [u1_o (by decide), u1_s]; exact (pk_cpy_in (Nat.zero_le _) (by omega)).trans (by rw [Nat.sub_zero, Nat.zero_add])) (fun c hc => by rw [u1_s]; exact (pk_cpy_in (Nat.zero_le _) (by omega)).trans (by rw [Nat.sub_zero, Nat.zero_add]))
end CLX
