/-! the class's moments: copies -/
section MOM
variable {l : Launch} {X : Nat × (Nat → Int32)} {d : Nat} {w : Nat × Nat} {p r : Nat} {I : Nat → Nat → Int32} {L : Nat → Nat → Int64} {kr : KR}
/-- the moment b becomes as a is -/
def cpO (a b : Nat) (I I' : Nat → Nat → Int32) : Prop := (∀ c i, ¬ (b ≤ c ∧ c ≤ b + 4) → I' c i = I c i) ∧ (∀ f, f < 6 → I' (b + 1) f = I (a + 1) f ∧ I' (b + 2) f = I (a + 2) f ∧ I' (b + 3) f = I (a + 3) f) ∧ (∀ c, c < 5 → I' (b + 4) c = I (a + 4) c) ∧ I' b 4 = I a 4 ∧ I' b 5 = I a 5
def cpJ1 (I : Nat → Nat → Int32) (a b : Nat) : Nat → Nat → Int32 := u1 I (b + 1) (va_cpy (I (a + 1)) (I (b + 1)) 0 0 6)
def cpJ2 (I : Nat → Nat → Int32) (a b : Nat) : Nat → Nat → Int32 := u1 (cpJ1 I a b) (b + 2) (va_cpy (cpJ1 I a b (a + 2)) (cpJ1 I a b (b + 2)) 0 0 6)
def cpJ3 (I : Nat → Nat → Int32) (a b : Nat) : Nat → Nat → Int32 := u1 (cpJ2 I a b) (b + 3) (va_cpy (cpJ2 I a b (a + 3)) (cpJ2 I a b (b + 3)) 0 0 6)
def cpJ4 (I : Nat → Nat → Int32) (a b : Nat) : Nat → Nat → Int32 := u1 (cpJ3 I a b) (b + 4) (va_cpy (cpJ3 I a b (a + 4)) (cpJ3 I a b (b + 4)) 0 0 5)
def cpJ5 (I : Nat → Nat → Int32) (a b : Nat) : Nat → Nat → Int32 := u2 (cpJ4 I a b) b 4 (cpJ4 I a b a 4)
def cpJ6 (I : Nat → Nat → Int32) (a b : Nat) : Nat → Nat → Int32 := u2 (cpJ5 I a b) b 5 (cpJ5 I a b a 5)
theorem cpJ_O {a b : Nat} (hd : a + 4 < b ∨ b + 4 < a) : cpO a b I (cpJ6 I a b) := by
  have e : ∀ (f g : Nat → Int32) (n i : Nat), i < n → va_cpy f g 0 0 n i = f i := fun f g n i h => (pk_cpy_in (Nat.zero_le _) (by omega)).trans (by rw [Nat.sub_zero, Nat.zero_add])
  have o1 : ∀ c, c ≠ b + 1 → cpJ1 I a b c = I c := fun c h => u1_o h
  have o2 : ∀ c, c ≠ b + 2 → cpJ2 I a b c = cpJ1 I a b c := fun c h => u1_o h
  have o3 : ∀ c, c ≠ b + 3 → cpJ3 I a b c = cpJ2 I a b c := fun c h => u1_o h
  have o4 : ∀ c, c ≠ b + 4 → cpJ4 I a b c = cpJ3 I a b c := fun c h => u1_o h
  have o5 : ∀ c i, c ≠ b → cpJ5 I a b c i = cpJ4 I a b c i := fun c i h => u2_o (fun z => h z.1)
  have o6 : ∀ c i, c ≠ b → cpJ6 I a b c i = cpJ5 I a b c i := fun c i h => u2_o (fun z => h z.1)
  have s1 : cpJ1 I a b (b + 1) = va_cpy (I (a + 1)) (I (b + 1)) 0 0 6 := u1_s
  have s2 : cpJ2 I a b (b + 2) = va_cpy (cpJ1 I a b (a + 2)) (cpJ1 I a b (b + 2)) 0 0 6 := u1_s
  have s3 : cpJ3 I a b (b + 3) = va_cpy (cpJ2 I a b (a + 3)) (cpJ2 I a b (b + 3)) 0 0 6 := u1_s
  have s4 : cpJ4 I a b (b + 4) = va_cpy (cpJ3 I a b (a + 4)) (cpJ3 I a b (b + 4)) 0 0 5 := u1_s
  have g : ∀ c, ¬ (b < c ∧ c ≤ b + 4) → cpJ4 I a b c = I c := fun c h => by
    rw [o4 c (by omega), o3 c (by omega), o2 c (by omega), o1 c (by omega)]
  refine ⟨fun c i h => ?_, fun f hf => ⟨?_, ?_, ?_⟩, fun c hc => ?_, ?_, ?_⟩
  · rw [o6 c i (by omega), o5 c i (by omega), g c (by omega)]
  · rw [o6 _ _ (by omega), o5 _ _ (by omega), o4 _ (by omega), o3 _ (by omega), o2 _ (by omega), s1]
    exact e _ _ _ _ hf
  · rw [o6 _ _ (by omega), o5 _ _ (by omega), o4 _ (by omega), o3 _ (by omega), s2, e _ _ _ _ hf, o1 _ (by omega)]
  · rw [o6 _ _ (by omega), o5 _ _ (by omega), o4 _ (by omega), s3, e _ _ _ _ hf, o2 _ (by omega), o1 _ (by omega)]
  · rw [o6 _ _ (by omega), o5 _ _ (by omega), s4, e _ _ _ _ hc, o3 _ (by omega), o2 _ (by omega), o1 _ (by omega)]
  · show cpJ6 I a b b 4 = I a 4
    have q : cpJ6 I a b b 4 = cpJ5 I a b b 4 := u2_o (fun z => absurd z.2 (by decide))
    have q2 : cpJ5 I a b b 4 = cpJ4 I a b a 4 := u2_s
    rw [q, q2, g a (by omega)]
  · show cpJ6 I a b b 5 = I a 5
    have q : cpJ6 I a b b 5 = cpJ5 I a b a 5 := u2_s
    rw [q, o5 _ _ (by omega), g a (by omega)]
/-- name a is a moment -/
def isM (p r a : Nat) : Prop := (0 < a ∧ a + 4 ≤ 167 ∧ (K0 a).1 = 2) ∧ (K0 (a + 1) = (9, 6) ∧ K0 (a + 2) = (9, 6) ∧ K0 (a + 3) = (9, 6) ∧ K0 (a + 4) = (9, 5)) ∧ R0 p r a 0 = a + 1 ∧ R0 p r a 1 = a + 2 ∧ R0 p r a 2 = a + 3 ∧ R0 p r a 3 = a + 4
theorem isM_33 : isM p r 33 := ⟨⟨by decide, by decide, rfl⟩, ⟨rfl, rfl, rfl, rfl⟩, rfl, rfl, rfl, rfl⟩
set_option maxRecDepth 20000 in
theorem isM_k {i : Nat} (hi : i < 19) : isM p r (55 + 5 * i) := by
  rcases (show i = 0 ∨ i = 1 ∨ i = 2 ∨ i = 3 ∨ i = 4 ∨ i = 5 ∨ i = 6 ∨ i = 7 ∨ i = 8 ∨ i = 9 ∨ i = 10 ∨ i = 11 ∨ i = 12 ∨ i = 13 ∨ i = 14 ∨ i = 15 ∨ i = 16 ∨ i = 17 ∨ i = 18 by omega) with rfl | rfl | rfl | rfl | rfl | rfl | rfl | rfl | rfl | rfl | rfl | rfl | rfl | rfl | rfl | rfl | rfl | rfl | rfl <;> exact ⟨⟨by decide, by decide, rfl⟩, ⟨rfl, rfl, rfl, rfl⟩, rfl, rfl, rfl, rfl⟩
theorem kk_mk {a c : Nat} (h0 : 0 < a) (h1 : a ≤ 167) (h2 : (K0 a).1 = c) : kk (mk w p r I L) a c = true := by
  unfold kk
  rw [show Nat.blt 0 a = true from Nat.ble_eq_true_of_le h0, show Nat.ble a (mN (mk w p r I L)) = true from Nat.ble_eq_true_of_le h1]
  show (true && (true && Nat.beq (K0 a).1 c)) = true
  rw [h2, Nat.beq_refl]
  rfl
theorem Wf.sAcm {q : Md} {d : Nat} {na : Bool} {b : Nat × Nat} {pc : Nat} {ls : Ls} {st : List Value} {tb : List (Nat × OP)} {a0 a1 n : Nat} {s0 d0 n0 : Int32} (ht : ∀ x ∈ tb, OK l X q d na b x.1 x.2) (ho : lo tb pc = oAc pc) (e1 : s0 = nI 0) (e2 : d0 = nI 0) (e3 : n0 = nI n) (hn : n < 1000) (h0 : 0 < a0 ∧ a0 ≤ 167 ∧ K0 a0 = (9, n)) (h1 : 0 < a1 ∧ a1 ≤ 167 ∧ K0 a1 = (9, n)) (hc : Nat.ble (cs st) 8 = true) (k : Wf l X q d na b (pc + 3) ls st (mk w p r (u1 I a1 (va_cpy (I a0) (I a1) 0 0 n)) L) kr) : Wf l X q d na b pc ls (.int n0 :: .int d0 :: .ref a1 :: .int s0 :: .ref a0 :: st) (mk w p r I L) kr := by
  refine Wf.stp1 ht ho ?_
  show cond (kk (mk w p r I L) a0 9 && (kk (mk w p r I L) a1 9 && Nat.ble (cs st) 8)) _ _
  rw [kk_mk h0.1 h0.2.1 (by rw [h0.2.2]), kk_mk h1.1 h1.2.1 (by rw [h1.2.2]), hc]
  refine ⟨0, 0, n, ⟨e1, e2, e3, by decide, by decide, hn, ?_, ?_⟩, k⟩
  · show 0 + n ≤ (K0 a0).2
    rw [h0.2.2]
    exact Nat.le_of_eq (Nat.zero_add n)
  · show 0 + n ≤ (K0 a1).2
    rw [h1.2.2]
    exact Nat.le_of_eq (Nat.zero_add n)
set_option maxHeartbeats 20000000 in
set_option maxRecDepth 20000 in
theorem x_cpG {a b : Nat} (ha : isM p r a) (hb : isM p r b) (hd : a + 4 < b ∨ b + 4 < a) (h : ∀ I', cpO a b I I' → kr none (mk w p r I' L)) : Ev l X uX2_copy (d + 1) true 0 0 [.ref b, .ref a] (mk w p r I L) kr := by
  have h := h _ (cpJ_O hd)
  obtain ⟨⟨a0, a1, a2⟩, ⟨ka1, ka2, ka3, ka4⟩, ra0, ra1, ra2, ra3⟩ := ha
  obtain ⟨⟨b0, b1, b2⟩, ⟨kb1, kb2, kb3, kb4⟩, rb0, rb1, rb2, rb3⟩ := hb
  have la : Nat.blt 0 a = true := Nat.ble_eq_true_of_le a0
  have lb : Nat.blt 0 b = true := Nat.ble_eq_true_of_le b0
  have kA : ∀ J, kk (mk w p r J L) a 2 = true := fun J => kk_mk a0 (by omega) a2
  have kB : ∀ J, kk (mk w p r J L) b 2 = true := fun J => kk_mk b0 (by omega) b2
  refine Ev.of (by decide) (Nat.le_of_ble_eq_true rfl) ?_
  refine Wf.sAl tkX2_copy rfl rfl la ?_
  refine Wf.sG tkX2_copy rfl (kA _) ?_
  show Wf l X uX2_copy (d + 1) true _ 4 _ [.ref (R0 p r a 0)] (mk w p r I L) kr
  rw [ra0]
  refine Wf.sIc tkX2_copy rfl ?_
  refine Wf.sAl tkX2_copy rfl rfl lb ?_
  refine Wf.sG tkX2_copy rfl (kB _) ?_
  show Wf l X uX2_copy (d + 1) true _ 9 _ [.ref (R0 p r b 0), .int 0, .ref (a + 1)] (mk w p r I L) kr
  rw [rb0]
  refine Wf.sIc tkX2_copy rfl ?_
  refine Wf.sIc tkX2_copy rfl ?_
  refine Wf.sAcm (n := 6) tkX2_copy rfl rfl rfl rfl (by decide) ⟨by omega, by omega, ka1⟩ ⟨by omega, by omega, kb1⟩ rfl ?_
  show Wf l X uX2_copy (d + 1) true _ 15 _ [] (mk w p r (cpJ1 I a b) L) kr
  refine Wf.sAl tkX2_copy rfl rfl la ?_
  refine Wf.sG tkX2_copy rfl (kA _) ?_
  show Wf l X uX2_copy (d + 1) true _ 19 _ [.ref (R0 p r a 1)] (mk w p r (cpJ1 I a b) L) kr
  rw [ra1]
  refine Wf.sIc tkX2_copy rfl ?_
  refine Wf.sAl tkX2_copy rfl rfl lb ?_
  refine Wf.sG tkX2_copy rfl (kB _) ?_
  show Wf l X uX2_copy (d + 1) true _ 24 _ [.ref (R0 p r b 1), .int 0, .ref (a + 2)] (mk w p r (cpJ1 I a b) L) kr
  rw [rb1]
  refine Wf.sIc tkX2_copy rfl ?_
  refine Wf.sIc tkX2_copy rfl ?_
  refine Wf.sAcm (n := 6) tkX2_copy rfl rfl rfl rfl (by decide) ⟨by omega, by omega, ka2⟩ ⟨by omega, by omega, kb2⟩ rfl ?_
  show Wf l X uX2_copy (d + 1) true _ 30 _ [] (mk w p r (cpJ2 I a b) L) kr
  refine Wf.sAl tkX2_copy rfl rfl la ?_
  refine Wf.sG tkX2_copy rfl (kA _) ?_
  show Wf l X uX2_copy (d + 1) true _ 34 _ [.ref (R0 p r a 2)] (mk w p r (cpJ2 I a b) L) kr
  rw [ra2]
  refine Wf.sIc tkX2_copy rfl ?_
  refine Wf.sAl tkX2_copy rfl rfl lb ?_
  refine Wf.sG tkX2_copy rfl (kB _) ?_
  show Wf l X uX2_copy (d + 1) true _ 39 _ [.ref (R0 p r b 2), .int 0, .ref (a + 3)] (mk w p r (cpJ2 I a b) L) kr
  rw [rb2]
  refine Wf.sIc tkX2_copy rfl ?_
  refine Wf.sIc tkX2_copy rfl ?_
  refine Wf.sAcm (n := 6) tkX2_copy rfl rfl rfl rfl (by decide) ⟨by omega, by omega, ka3⟩ ⟨by omega, by omega, kb3⟩ rfl ?_
  show Wf l X uX2_copy (d + 1) true _ 45 _ [] (mk w p r (cpJ3 I a b) L) kr
  refine Wf.sAl tkX2_copy rfl rfl la ?_
  refine Wf.sG tkX2_copy rfl (kA _) ?_
  show Wf l X uX2_copy (d + 1) true _ 49 _ [.ref (R0 p r a 3)] (mk w p r (cpJ3 I a b) L) kr
  rw [ra3]
  refine Wf.sIc tkX2_copy rfl ?_
  refine Wf.sAl tkX2_copy rfl rfl lb ?_
  refine Wf.sG tkX2_copy rfl (kB _) ?_
  show Wf l X uX2_copy (d + 1) true _ 54 _ [.ref (R0 p r b 3), .int 0, .ref (a + 4)] (mk w p r (cpJ3 I a b) L) kr
  rw [rb3]
  refine Wf.sIc tkX2_copy rfl ?_
  refine Wf.sIc tkX2_copy rfl ?_
  refine Wf.sAcm (n := 5) tkX2_copy rfl rfl rfl rfl (by decide) ⟨by omega, by omega, ka4⟩ ⟨by omega, by omega, kb4⟩ rfl ?_
  show Wf l X uX2_copy (d + 1) true _ 59 _ [] (mk w p r (cpJ4 I a b) L) kr
  refine Wf.sAl tkX2_copy rfl rfl lb ?_
  refine Wf.sAl tkX2_copy rfl rfl la ?_
  refine Wf.sG tkX2_copy rfl (kA _) ?_
  refine Wf.sPI (v := cpJ4 I a b a 4) tkX2_copy rfl (kB _) ?_
  show Wf l X uX2_copy (d + 1) true _ 67 _ [] (mk w p r (cpJ5 I a b) L) kr
  refine Wf.sAl tkX2_copy rfl rfl lb ?_
  refine Wf.sAl tkX2_copy rfl rfl la ?_
  refine Wf.sG tkX2_copy rfl (kA _) ?_
  refine Wf.sPI (v := cpJ5 I a b a 5) tkX2_copy rfl (kB _) ?_
  show Wf l X uX2_copy (d + 1) true _ 75 _ [] (mk w p r (cpJ6 I a b) L) kr
  exact Wf.sVr tkX2_copy rfl h
theorem x_cp1 {i : Nat} (hi : i < 19) (h : ∀ I', cpO 33 (55 + 5 * i) I I' → kr none (mk w p r I' L)) : Ev l X uX2_copy (d + 1) true 0 0 [.ref (55 + 5 * i), .ref 33] (mk w p r I L) kr := x_cpG isM_33 (isM_k hi) (Or.inl (by omega)) h
theorem x_cp2 {i : Nat} (hi : i < 19) (h : ∀ I', cpO (55 + 5 * i) 33 I I' → kr none (mk w p r I' L)) : Ev l X uX2_copy (d + 1) true 0 0 [.ref 33, .ref (55 + 5 * i)] (mk w p r I L) kr := x_cpG (isM_k hi) isM_33 (Or.inr (by omega)) h
end MOM
