section
/-! the class's moments: copies -/
section MOM
variable {l : Launch} {X : Nat × (Nat → Int32)} {d : Nat} {w : Nat × Nat} {p r : Nat} {I : Nat → Nat → Int32} {L : Nat → Nat → Int64} {kr : KR}
/-- the moment b becomes as a is -/
noncomputable def cpO (a b : Nat) (I I' : Nat → Nat → Int32) : Prop := (∀ c i, ¬ (b ≤ c ∧ c ≤ b + 4) → I' c i = I c i) ∧ (∀ f, f < 6 → I' (b + 1) f = I (a + 1) f ∧ I' (b + 2) f = I (a + 2) f ∧ I' (b + 3) f = I (a + 3) f) ∧ (∀ c, c < 5 → I' (b + 4) c = I (a + 4) c) ∧ I' b 4 = I a 4 ∧ I' b 5 = I a 5
noncomputable def cpJ1 (I : Nat → Nat → Int32) (a b : Nat) : Nat → Nat → Int32 := u1 I (b + 1) (va_cpy (I (a + 1)) (I (b + 1)) 0 0 6)
noncomputable def cpJ2 (I : Nat → Nat → Int32) (a b : Nat) : Nat → Nat → Int32 := u1 (cpJ1 I a b) (b + 2) (va_cpy (cpJ1 I a b (a + 2)) (cpJ1 I a b (b + 2)) 0 0 6)
noncomputable def cpJ3 (I : Nat → Nat → Int32) (a b : Nat) : Nat → Nat → Int32 := u1 (cpJ2 I a b) (b + 3) (va_cpy (cpJ2 I a b (a + 3)) (cpJ2 I a b (b + 3)) 0 0 6)
noncomputable def cpJ4 (I : Nat → Nat → Int32) (a b : Nat) : Nat → Nat → Int32 := u1 (cpJ3 I a b) (b + 4) (va_cpy (cpJ3 I a b (a + 4)) (cpJ3 I a b (b + 4)) 0 0 5)
noncomputable def cpJ5 (I : Nat → Nat → Int32) (a b : Nat) : Nat → Nat → Int32 := u2 (cpJ4 I a b) b 4 (cpJ4 I a b a 4)
noncomputable def cpJ6 (I : Nat → Nat → Int32) (a b : Nat) : Nat → Nat → Int32 := u2 (cpJ5 I a b) b 5 (cpJ5 I a b a 5)
theorem cpJ_O {a b : Nat} (hd : a + 4 < b ∨ b + 4 < a) : cpO a b I (cpJ6 I a b) := by
  have e : ∀ (f g : Nat → Int32) (n i : Nat), i < n → va_cpy f g 0 0 n i = f i := fun f g n i h => (pk_cpy_in (Nat.zero_le _) (by omega)).trans (by rw [Nat.sub_zero, Nat.zero_add])
  have o1 : ∀ c, c ≠ b + 1 → cpJ1 I a b c = I c := fun c h => u1_o h
  have o2 : ∀ c, c ≠ b + 2 → cpJ2 I a b c = cpJ1 I a b c := fun c h => u1_o h
  have o3 : ∀ c, c ≠ b + 3 → cpJ3 I a b c = cpJ2 I a b c := fun c h => u1_o h
  have o4 : ∀ c, c ≠ b + 4 → cpJ4 I a b c = cpJ3 I a b c := fun c h => u1_o h
  have o5 : ∀ c i, c ≠ b → cpJ5 I a b c i = cpJ4 I a b c i := fun c i h => u2_o (fun z => h z.1)
  have o6 : ∀ c i, c ≠ b → cpJ6 I a b c i = cpJ5 I a b c i := fun c i h => u2_o (fun z => h z.1)
  have s1 : cpJ1 I a b (b + 1) = va_cpy (I (a + 1)) (I (b + 1)) 0 0 6 := u1_s
  have s2 : cpJ2 I a b (b + 2) = va_cpy (cpJ1 I a b (a + 2)) (cpJ1 I a b (b + 2)) 0 0 6 := u1_s
  have s3 : cpJ3 I a b (b + 3) = va_cpy (cpJ2 I a b (a + 3)) (cpJ2 I a b (b + 3)) 0 0 6 := u1_s
  have s4 : cpJ4 I a b (b + 4) = va_cpy (cpJ3 I a b (a + 4)) (cpJ3 I a b (b + 4)) 0 0 5 := u1_s
  have g : ∀ c, ¬ (b < c ∧ c ≤ b + 4) → cpJ4 I a b c = I c := fun c h => by
    rw [o4 c (by omega), o3 c (by omega), o2 c (by omega), o1 c (by omega)]
  refine ⟨fun c i h => ?_, fun f hf => ⟨?_, ?_, ?_⟩, fun c hc => ?_, ?_, ?_⟩
  · rw [o6 c i (by omega), o5 c i (by omega), g c (by omega)]
  · rw [o6 _ _ (by omega), o5 _ _ (by omega), o4 _ (by omega), o3 _ (by omega), o2 _ (by omega), s1]
    exact e _ _ _ _ hf
  · rw [o6 _ _ (by omega), o5 _ _ (by omega), o4 _ (by omega), o3 _ (by omega), s2, e _ _ _ _ hf, o1 _ (by omega)]
  · rw [o6 _ _ (by omega), o5 _ _ (by omega), o4 _ (by omega), s3, e _ _ _ _ hf, o2 _ (by omega), o1 _ (by omega)]
  · rw [o6 _ _ (by omega), o5 _ _ (by omega), s4, e _ _ _ _ hc, o3 _ (by omega), o2 _ (by omega), o1 _ (by omega)]
  · show cpJ6 I a b b 4 = I a 4
    have q : cpJ6 I a b b 4 = cpJ5 I a b b 4 := u2_o (fun z => absurd z.2 (by decide))
    have q2 : cpJ5 I a b b 4 = cpJ4 I a b a 4 := u2_s
    rw [q, q2, g a (by omega)]
  · show cpJ6 I a b b 5 = I a 5
    have q : cpJ6 I a b b 5 = cpJ5 I a b a 5 := u2_s
    rw [q, o5 _ _ (by omega), g a (by omega)]
/-- name a is a moment -/
noncomputable def isM (p r a : Nat) : Prop := (0 < a ∧ a + 4 ≤ 167 ∧ (K0 a).1 = 2) ∧ (K0 (a + 1) = (9, 6) ∧ K0 (a + 2) = (9, 6) ∧ K0 (a + 3) = (9, 6) ∧ K0 (a + 4) = (9, 5)) ∧ R0 p r a 0 = a + 1 ∧ R0 p r a 1 = a + 2 ∧ R0 p r a 2 = a + 3 ∧ R0 p r a 3 = a + 4
theorem isM_33 : isM p r 33 := ⟨⟨by decide, by decide, rfl⟩, ⟨rfl, rfl, rfl, rfl⟩, rfl, rfl, rfl, rfl⟩
set_option maxRecDepth 20000 in
theorem isM_k {i : Nat} (hi : i < 19) : isM p r (55 + 5 * i) := by
  rcases (show i = 0 ∨ i = 1 ∨ i = 2 ∨ i = 3 ∨ i = 4 ∨ i = 5 ∨ i = 6 ∨ i = 7 ∨ i = 8 ∨ i = 9 ∨ i = 10 ∨ i = 11 ∨ i = 12 ∨ i = 13 ∨ i = 14 ∨ i = 15 ∨ i = 16 ∨ i = 17 ∨ i = 18 by omega) with rfl | rfl | rfl | rfl | rfl | rfl | rfl | rfl | rfl | rfl | rfl | rfl | rfl | rfl | rfl | rfl | rfl | rfl | rfl <;> exact ⟨⟨by decide, by decide, rfl⟩, ⟨rfl, rfl, rfl, rfl⟩, rfl, rfl, rfl, rfl⟩
theorem kk_mk {a c : Nat} (h0 : 0 < a) (h1 : a ≤ 167) (h2 : (K0 a).1 = c) : kk (mk w p r I L) a c = true := by
  unfold kk
  rw [show Nat.blt 0 a = true from Nat.ble_eq_true_of_le h0, show Nat.ble a (mN (mk w p r I L)) = true from Nat.ble_eq_true_of_le h1]
  show (true && (true && Nat.beq (K0 a).1 c)) = true
  rw [h2, Nat.beq_refl]
  rfl
theorem Wf.sAcm {q : Md} {d : Nat} {na : Bool} {b : Nat × Nat} {pc : Nat} {ls : Ls} {st : List Value} {tb : List (Nat × OP)} {a0 a1 n : Nat} {s0 d0 n0 : Int32} (ht : ∀ x ∈ tb, OK l X q d na b x.1 x.2) (ho : lo tb pc = oAc pc) (e1 : s0 = nI 0) (e2 : d0 = nI 0) (e3 : n0 = nI n) (hn : n < 1000) (h0 : 0 < a0 ∧ a0 ≤ 167 ∧ K0 a0 = (9, n)) (h1 : 0 < a1 ∧ a1 ≤ 167 ∧ K0 a1 = (9, n)) (hc : Nat.ble (cs st) 8 = true) (k : Wf l X q d na b (pc + 3) ls st (mk w p r (u1 I a1 (va_cpy (I a0) (I a1) 0 0 n)) L) kr) : Wf l X q d na b pc ls (.int n0 :: .int d0 :: .ref a1 :: .int s0 :: .ref a0 :: st) (mk w p r I L) kr := by
  refine Wf.stp1 ht ho ?_
  show cond (kk (mk w p r I L) a0 9 && (kk (mk w p r I L) a1 9 && Nat.ble (cs st) 8)) _ _
  rw [kk_mk h0.1 h0.2.1 (by rw [h0.2.2]), kk_mk h1.1 h1.2.1 (by rw [h1.2.2]), hc]
  refine ⟨0, 0, n, ⟨e1, e2, e3, by decide, by decide, hn, ?_, ?_⟩, k⟩
  · show 0 + n ≤ (K0 a0).2
    rw [h0.2.2]
    exact Nat.le_of_eq (Nat.zero_add n)
  · show 0 + n ≤ (K0 a1).2
    rw [h1.2.2]
    exact Nat.le_of_eq (Nat.zero_add n)
set_option maxHeartbeats 20000000 in
set_option maxRecDepth 20000 in
theorem x_cpG {a b : Nat} (ha : isM p r a) (hb : isM p r b) (hd : a + 4 < b ∨ b + 4 < a) (h : ∀ I', cpO a b I I' → kr none (mk w p r I' L)) : Ev l X uX2_copy (d + 1) true 0 0 [.ref b, .ref a] (mk w p r I L) kr := by
  have h := h _ (cpJ_O hd)
  obtain ⟨⟨a0, a1, a2⟩, ⟨ka1, ka2, ka3, ka4⟩, ra0, ra1, ra2, ra3⟩ := ha
  obtain ⟨⟨b0, b1, b2⟩, ⟨kb1, kb2, kb3, kb4⟩, rb0, rb1, rb2, rb3⟩ := hb
  have la : Nat.blt 0 a = true := Nat.ble_eq_true_of_le a0
  have lb : Nat.blt 0 b = true := Nat.ble_eq_true_of_le b0
  have kA : ∀ J, kk (mk w p r J L) a 2 = true := fun J => kk_mk a0 (by omega) a2
  have kB : ∀ J, kk (mk w p r J L) b 2 = true := fun J => kk_mk b0 (by omega) b2
  refine Ev.of (by decide) (Nat.le_of_ble_eq_true rfl) ?_
  refine Wf.sAl tkX2_copy rfl rfl la ?_
  refine Wf.sG tkX2_copy rfl (kA _) ?_
  show Wf l X uX2_copy (d + 1) true _ 4 _ [.ref (R0 p r a 0)] (mk w p r I L) kr
  rw [ra0]
  refine Wf.sIc tkX2_copy rfl ?_
  refine Wf.sAl tkX2_copy rfl rfl lb ?_
  refine Wf.sG tkX2_copy rfl (kB _) ?_
  show Wf l X uX2_copy (d + 1) true _ 9 _ [.ref (R0 p r b 0), .int 0, .ref (a + 1)] (mk w p r I L) kr
  rw [rb0]
  refine Wf.sIc tkX2_copy rfl ?_
  refine Wf.sIc tkX2_copy rfl ?_
  refine Wf.sAcm (n := 6) tkX2_copy rfl rfl rfl rfl (by decide) ⟨by omega, by omega, ka1⟩ ⟨by omega, by omega, kb1⟩ rfl ?_
  show Wf l X uX2_copy (d + 1) true _ 15 _ [] (mk w p r (cpJ1 I a b) L) kr
  refine Wf.sAl tkX2_copy rfl rfl la ?_
  refine Wf.sG tkX2_copy rfl (kA _) ?_
  show Wf l X uX2_copy (d + 1) true _ 19 _ [.ref (R0 p r a 1)] (mk w p r (cpJ1 I a b) L) kr
  rw [ra1]
  refine Wf.sIc tkX2_copy rfl ?_
  refine Wf.sAl tkX2_copy rfl rfl lb ?_
  refine Wf.sG tkX2_copy rfl (kB _) ?_
  show Wf l X uX2_copy (d + 1) true _ 24 _ [.ref (R0 p r b 1), .int 0, .ref (a + 2)] (mk w p r (cpJ1 I a b) L) kr
  rw [rb1]
  refine Wf.sIc tkX2_copy rfl ?_
  refine Wf.sIc tkX2_copy rfl ?_
  refine Wf.sAcm (n := 6) tkX2_copy rfl rfl rfl rfl (by decide) ⟨by omega, by omega, ka2⟩ ⟨by omega, by omega, kb2⟩ rfl ?_
  show Wf l X uX2_copy (d + 1) true _ 30 _ [] (mk w p r (cpJ2 I a b) L) kr
  refine Wf.sAl tkX2_copy rfl rfl la ?_
  refine Wf.sG tkX2_copy rfl (kA _) ?_
  show Wf l X uX2_copy (d + 1) true _ 34 _ [.ref (R0 p r a 2)] (mk w p r (cpJ2 I a b) L) kr
  rw [ra2]
  refine Wf.sIc tkX2_copy rfl ?_
  refine Wf.sAl tkX2_copy rfl rfl lb ?_
  refine Wf.sG tkX2_copy rfl (kB _) ?_
  show Wf l X uX2_copy (d + 1) true _ 39 _ [.ref (R0 p r b 2), .int 0, .ref (a + 3)] (mk w p r (cpJ2 I a b) L) kr
  rw [rb2]
  refine Wf.sIc tkX2_copy rfl ?_
  refine Wf.sIc tkX2_copy rfl ?_
  refine Wf.sAcm (n := 6) tkX2_copy rfl rfl rfl rfl (by decide) ⟨by omega, by omega, ka3⟩ ⟨by omega, by omega, kb3⟩ rfl ?_
  show Wf l X uX2_copy (d + 1) true _ 45 _ [] (mk w p r (cpJ3 I a b) L) kr
  refine Wf.sAl tkX2_copy rfl rfl la ?_
  refine Wf.sG tkX2_copy rfl (kA _) ?_
  show Wf l X uX2_copy (d + 1) true _ 49 _ [.ref (R0 p r a 3)] (mk w p r (cpJ3 I a b) L) kr
  rw [ra3]
  refine Wf.sIc tkX2_copy rfl ?_
  refine Wf.sAl tkX2_copy rfl rfl lb ?_
  refine Wf.sG tkX2_copy rfl (kB _) ?_
  show Wf l X uX2_copy (d + 1) true _ 54 _ [.ref (R0 p r b 3), .int 0, .ref (a + 4)] (mk w p r (cpJ3 I a b) L) kr
  rw [rb3]
  refine Wf.sIc tkX2_copy rfl ?_
  refine Wf.sIc tkX2_copy rfl ?_
  refine Wf.sAcm (n := 5) tkX2_copy rfl rfl rfl rfl (by decide) ⟨by omega, by omega, ka4⟩ ⟨by omega, by omega, kb4⟩ rfl ?_
  show Wf l X uX2_copy (d + 1) true _ 59 _ [] (mk w p r (cpJ4 I a b) L) kr
  refine Wf.sAl tkX2_copy rfl rfl lb ?_
  refine Wf.sAl tkX2_copy rfl rfl la ?_
  refine Wf.sG tkX2_copy rfl (kA _) ?_
  refine Wf.sPI (v := cpJ4 I a b a 4) tkX2_copy rfl (kB _) ?_
  show Wf l X uX2_copy (d + 1) true _ 67 _ [] (mk w p r (cpJ5 I a b) L) kr
  refine Wf.sAl tkX2_copy rfl rfl lb ?_
  refine Wf.sAl tkX2_copy rfl rfl la ?_
  refine Wf.sG tkX2_copy rfl (kA _) ?_
  refine Wf.sPI (v := cpJ5 I a b a 5) tkX2_copy rfl (kB _) ?_
  show Wf l X uX2_copy (d + 1) true _ 75 _ [] (mk w p r (cpJ6 I a b) L) kr
  exact Wf.sVr tkX2_copy rfl h
theorem x_cp1 {i : Nat} (hi : i < 19) (h : ∀ I', cpO 33 (55 + 5 * i) I I' → kr none (mk w p r I' L)) : Ev l X uX2_copy (d + 1) true 0 0 [.ref (55 + 5 * i), .ref 33] (mk w p r I L) kr := x_cpG isM_33 (isM_k hi) (Or.inl (by omega)) h
theorem x_cp2 {i : Nat} (hi : i < 19) (h : ∀ I', cpO (55 + 5 * i) 33 I I' → kr none (mk w p r I' L)) : Ev l X uX2_copy (d + 1) true 0 0 [.ref 33, .ref (55 + 5 * i)] (mk w p r I L) kr := x_cpG (isM_k hi) isM_33 (Or.inr (by omega)) h
end MOM
end
section
/-! the class keeps how it is now -/
section KEE
variable {l : Launch} {X : Nat × (Nat → Int32)} {d : Nat} {w : Nat × Nat} {p r : Nat} {I : Nat → Nat → Int32} {L : Nat → Nat → Int64} {kr : KR} {x k : Nat}
theorem R38 (hx : x < 16) : R0 p r 38 x = 55 + 5 * x := by
  show cond (Nat.blt x 16) (55 + 5 * x) 0 = _
  rw [show Nat.blt x 16 = true from Nat.ble_eq_true_of_le hx]
  rfl
theorem R39 (hx : x < 3) : R0 p r 39 x = 55 + 5 * (16 + x) := by
  show cond (Nat.blt x 3) (135 + 5 * x) 0 = _
  rw [show Nat.blt x 3 = true from Nat.ble_eq_true_of_le hx]
  show 135 + 5 * x = _
  omega
theorem K0m : ∀ i, i < 19 → K0 (55 + 5 * i) = (2, 0) := by decide
theorem kkM {i : Nat} (hi : i < 19) : kk (mk w p r I L) (55 + 5 * i) 2 = true := by
  unfold kk
  show (Nat.blt 0 (55 + 5 * i) && (Nat.ble (55 + 5 * i) 167 && Nat.beq (K0 (55 + 5 * i)).1 2)) = true
  rw [K0m i hi, show Nat.blt 0 (55 + 5 * i) = true from Nat.ble_eq_true_of_le (by omega), Nat.ble_eq_true_of_le (by omega)]
  rfl
theorem ring_1 : ∀ x, x < 16 → (nI x + 1 - (nI x + 1) / 16 * 16 : Int32) = nI ((x + 1) % 16) := by decide
theorem min_16 : ∀ k, k < 17 → (if (16 : Int32) < nI k + 1 then (16 : Int32) else nI k + 1) = nI (if k < 16 then k + 1 else 16) := by decide
noncomputable def keO (x k : Nat) (I I' : Nat → Nat → Int32) : Prop := (∀ c i, ¬ (55 + 5 * x ≤ c ∧ c ≤ 59 + 5 * x) → ¬ (c = 1 ∧ (i = 5 ∨ i = 6)) → I' c i = I c i) ∧ (∀ f, f < 6 → I' (55 + 5 * x + 1) f = I 34 f ∧ I' (55 + 5 * x + 2) f = I 35 f ∧ I' (55 + 5 * x + 3) f = I 36 f) ∧ (∀ c, c < 5 → I' (55 + 5 * x + 4) c = I 37 c) ∧ I' (55 + 5 * x) 4 = I 33 4 ∧ I' (55 + 5 * x) 5 = I 33 5 ∧ I' 1 5 = nI ((x + 1) % 16) ∧ I' 1 6 = nI (if k < 16 then k + 1 else 16)
set_option maxRecDepth 20000 in
theorem x_keep (hx : x < 16) (hk : k ≤ 16) (h5 : I 1 5 = nI x) (h6 : I 1 6 = nI k) (h : ∀ I', keO x k I I' → kr none (mk w p r I' L)) : Ev l X uX6_keep (d + 2) true 0 0 [.ref 1] (mk w p r I L) kr := by
  refine Ev.of (by decide) (Nat.le_of_ble_eq_true rfl) ?_
  refine Wf.gc tkX6_keep [] ?_
  conv => whnf
  refine ⟨x, ⟨h5, by omega, show x < 16 from hx⟩, ?_⟩
  conv => whnf
  rw [show mR (mk w p r I L) (mR (mk w p r I L) 1 4) x = 55 + 5 * x from R38 (p := p) (r := r) hx, kkM (i := x) (by omega)]
  conv => whnf
  refine x_cp1 (i := x) (by omega) (fun J hJ => ?_)
  obtain ⟨j1, j2, j3, j4, j5⟩ := hJ
  conv => whnf
  refine ⟨by decide, ?_⟩
  conv => whnf
  refine x_min ?_
  conv => whnf
  have e5 : J 1 5 = nI x := (j1 1 5 (by omega)).trans h5
  have e6 : J 1 6 = nI k := (j1 1 6 (by omega)).trans h6
  show kr none (mk w p r (u2 (u2 J 1 5 (J 1 5 + 1 - (J 1 5 + 1) / 16 * 16)) 1 6 (if (16 : Int32) < u2 J 1 5 (J 1 5 + 1 - (J 1 5 + 1) / 16 * 16) 1 6 + 1 then (16 : Int32) else u2 J 1 5 (J 1 5 + 1 - (J 1 5 + 1) / 16 * 16) 1 6 + 1)) L)
  rw [u2_o (b := 1) (j := 6) (by decide), e5, e6, ring_1 x hx, min_16 k (by omega)]
  refine h _ ⟨fun c i z1 z2 => ?_, fun f hf => ?_, fun c hc => ?_, ?_, ?_, ?_, ?_⟩
  · rw [u2_o (by omega), u2_o (by omega)]; exact j1 c i (by omega)
  · rw [u2_o (by omega), u2_o (by omega), u2_o (by omega), u2_o (by omega), u2_o (by omega), u2_o (by omega)]; exact j2 f hf
  · rw [u2_o (by omega), u2_o (by omega)]; exact j3 c hc
  · rw [u2_o (by omega), u2_o (by omega)]; exact j4
  · rw [u2_o (by omega), u2_o (by omega)]; exact j5
  · rw [u2_o (by decide), u2_s]
  · rw [u2_s]
end KEE
end
section
/-! the plain state of a close: plan, how it is now, what was kept, images; what each act does to it -/
section AST
noncomputable abbrev Rw : Type := Nat → Int32
noncomputable abbrev Ast : Type := Ps × Rw × List Rw × List Rw
noncomputable def rD (U : List Rw) (j : Nat) : Rw := U.getD j (fun _ => 0)
/-- the moment a of the class says the row S (for F faces, C canons) -/
noncomputable def MR (F C a : Nat) (S : Rw) (I : Nat → Nat → Int32) : Prop := (∀ f, f < F → I (a + 1) f = S f ∧ I (a + 2) f = S (6 + f) ∧ I (a + 3) f = S (12 + f)) ∧ (∀ c, c < C → I (a + 4) c = S (18 + c)) ∧ I a 4 = S 23 ∧ I a 5 = S 24
noncomputable def kSl (x k j : Nat) : Nat := (x + 16 - k + j) % 16
noncomputable def AS6 (A : Ast) (p : Nat) (I : Nat → Nat → Int32) : Prop := PC p A.1.1 A.1.2.1 I ∧ MR (A.1.1 4) (A.1.1 5) 33 A.2.1 I ∧ (∃ x, x < 16 ∧ I 1 5 = nI x ∧ ∀ j, j < A.2.2.1.length → MR (A.1.1 4) (A.1.1 5) (55 + 5 * kSl x A.2.2.1.length j) (rD A.2.2.1 j) I) ∧ I 1 6 = nI A.2.2.1.length ∧ I 1 8 = nI A.2.2.2.length ∧ ∀ j, j < A.2.2.2.length → MR (A.1.1 4) (A.1.1 5) (55 + 5 * (16 + j)) (rD A.2.2.2 j) I
noncomputable def AS7 (A : Ast) (I : Nat → Nat → Int32) : Prop := I 150 14 = 1 ∧ FS A.1.1 A.1.2.1 I ∧ FH 155 A.1.1 I ∧ (∀ i, i < 25 → I 157 i = A.2.1 i) ∧ I 150 22 = nI A.2.2.1.length ∧ (∀ j, j < A.2.2.1.length → ∀ i, i < 25 → I 158 (25 * j + i) = rD A.2.2.1 j i) ∧ I 150 23 = nI A.2.2.2.length ∧ ∀ j, j < A.2.2.2.length → ∀ i, i < 25 → I 159 (25 * j + i) = rD A.2.2.2 j i
noncomputable def RI (P : Ps) (S : Rw) : Prop := (∀ f, f < P.1 4 → ∃ h, h ≤ 99 ∧ S f = nI h) ∧ (∀ c, c < P.1 5 → ∃ j, j < P.1 4 ∧ S (18 + c) = nI j) ∧ (∀ c c', c < c' → c' < P.1 5 → S (18 + c) ≠ S (18 + c')) ∧ ∃ n, n ≤ 999 ∧ S 23 = nI n ∧ ∀ f, f < P.1 4 → ∃ k, k ≤ n ∧ S (12 + f) = nI k
noncomputable def RA (A : Ast) : Prop := (B3 A.1 ∧ PI A.1.1 ∧ 0 < A.1.1 4) ∧ (A.2.2.1.length ≤ 16 ∧ A.2.2.2.length ≤ 3) ∧ RI A.1 A.2.1 ∧ (∀ j, j < A.2.2.1.length → RI A.1 (rD A.2.2.1 j)) ∧ ∀ j, j < A.2.2.2.length → RI A.1 (rD A.2.2.2 j)
noncomputable def psh (U : List Rw) (S : Rw) : List Rw := if U.length < 16 then U ++ [S] else U.drop 1 ++ [S]
theorem psh_len {U : List Rw} {S : Rw} (h : U.length ≤ 16) : (psh U S).length = if U.length < 16 then U.length + 1 else 16 := by
  unfold psh
  split
  · rw [List.length_append]; rfl
  · rw [List.length_append, List.length_drop]
    show U.length - 1 + 1 = 16
    omega
theorem rD_a {U : List Rw} {S : Rw} {j : Nat} (h : j < U.length) : rD (U ++ [S]) j = rD U j := by
  unfold rD
  rw [List.getD_eq_getElem?_getD, List.getD_eq_getElem?_getD, List.getElem?_append_left h]
theorem rD_l {U : List Rw} {S : Rw} {j : Nat} (h : j = U.length) : rD (U ++ [S]) j = S := by
  unfold rD
  rw [List.getD_eq_getElem?_getD, List.getElem?_append_right (by omega), h, Nat.sub_self]
  rfl
theorem rD_d {U : List Rw} {j : Nat} : rD (U.drop 1) j = rD U (j + 1) := by
  unfold rD
  rw [List.getD_eq_getElem?_getD, List.getD_eq_getElem?_getD, List.getElem?_drop, Nat.add_comm]
/-- the rows that stand behind a push -/
theorem psh_D {U : List Rw} {S : Rw} {j : Nat} (h : U.length ≤ 16) (hj : j < (psh U S).length) : (j = (psh U S).length - 1 ∧ rD (psh U S) j = S) ∨ (j < (psh U S).length - 1 ∧ rD (psh U S) j = rD U (if U.length < 16 then j else j + 1) ∧ (if U.length < 16 then j else j + 1) < U.length) := by
  rw [psh_len h] at hj ⊢
  unfold psh
  by_cases c : U.length < 16
  · rw [if_pos c] at hj
    rw [if_pos c, if_pos c, if_pos c]
    by_cases e : j = U.length
    · exact Or.inl ⟨by omega, rD_l e⟩
    · exact Or.inr ⟨by omega, rD_a (by omega), by omega⟩
  · rw [if_neg c] at hj
    rw [if_neg c, if_neg c, if_neg c]
    by_cases e : j = 15
    · refine Or.inl ⟨by omega, rD_l ?_⟩
      rw [List.length_drop]
      omega
    · refine Or.inr ⟨by omega, ?_, by omega⟩
      rw [rD_a (by rw [List.length_drop]; omega), rD_d]
variable {F C a b p x : Nat} {S : Rw} {I I' : Nat → Nat → Int32} {A : Ast}
theorem MR_o (h : MR F C a S I) (he : ∀ c i, a ≤ c → c ≤ a + 4 → I' c i = I c i) : MR F C a S I' := by
  obtain ⟨h1, h2, h3, h4⟩ := h
  refine ⟨fun f hf => ?_, fun c hc => ?_, ?_, ?_⟩
  · rw [he (a + 1) f (by omega) (by omega), he (a + 2) f (by omega) (by omega), he (a + 3) f (by omega) (by omega)]; exact h1 f hf
  · rw [he (a + 4) c (by omega) (by omega)]; exact h2 c hc
  · rw [he a 4 (by omega) (by omega)]; exact h3
  · rw [he a 5 (by omega) (by omega)]; exact h4
theorem MR_cp (hF : F ≤ 6) (hC : C ≤ 5) (h : MR F C a S I) (h2 : ∀ f, f < 6 → I' (b + 1) f = I (a + 1) f ∧ I' (b + 2) f = I (a + 2) f ∧ I' (b + 3) f = I (a + 3) f) (h3 : ∀ c, c < 5 → I' (b + 4) c = I (a + 4) c) (h4 : I' b 4 = I a 4) (h5 : I' b 5 = I a 5) : MR F C b S I' := by
  refine ⟨fun f hf => ?_, fun c hc => ?_, h4.trans h.2.2.1, h5.trans h.2.2.2⟩
  · obtain ⟨x1, x2, x3⟩ := h2 f (by omega)
    rw [x1, x2, x3]
    exact h.1 f hf
  · rw [h3 c (by omega)]; exact h.2.1 c hc
theorem ra_FC (h : RA A) : A.1.1 4 ≤ 6 ∧ A.1.1 5 ≤ 5 := ⟨h.1.1.1.1.1.2.2.2.1, h.1.1.1.1.1.2.2.2.2.1⟩
theorem AS6_keep {k : Nat} (hp : p = 7 ∨ p = 20) (hR : RA A) (h : AS6 A p I) (hx : x < 16) (e5 : I 1 5 = nI x) (hk : A.2.2.1.length = k) (hke : keO x k I I') : AS6 (A.1, A.2.1, psh A.2.2.1 A.2.1, A.2.2.2) p I' := by
  obtain ⟨P, S, U, G⟩ := A
  obtain ⟨h1, h2, ⟨x', hx', e5', h3⟩, h4, h5, h6⟩ := h
  obtain ⟨hF, hC⟩ := ra_FC hR
  have hU : U.length ≤ 16 := hR.2.1.1
  have hG : G.length ≤ 3 := hR.2.1.2
  have ex : x' = x := (nI_eq (by omega) (by omega)).mp (e5'.symm.trans e5)
  subst ex
  obtain ⟨j1, j2, j3, j4, j5, j6, j7⟩ := hke
  have hk : U.length = k := hk
  subst hk
  have o : ∀ c i, ¬ (55 + 5 * x' ≤ c ∧ c ≤ 59 + 5 * x') → c ≠ 1 → I' c i = I c i := fun c i z1 z2 => j1 c i z1 (by omega)
  refine ⟨PC_cq hp hR.1.1 h1 (fun a k z1 z2 _ => o a k (by omega) (by omega)), MR_o h2 (fun c i z1 z2 => o c i (by omega) (by omega)), ⟨(x' + 1) % 16, by omega, j6, fun j hj => ?_⟩, ?_, ?_, fun j hj => ?_⟩
  · have hj : j < (psh U S).length := hj
    show MR (P.1 4) (P.1 5) (55 + 5 * kSl ((x' + 1) % 16) (psh U S).length j) (rD (psh U S) j) I'
    have hl := psh_len (S := S) hU
    rcases psh_D hU hj with ⟨z1, z2⟩ | ⟨z1, z2, z3⟩
    · rw [z2]
      have es : kSl ((x' + 1) % 16) (psh U S).length j = x' := by
        unfold kSl
        rw [z1, hl]
        split <;> omega
      rw [es]
      exact MR_cp hF hC h2 j2 j3 j4 j5
    · rw [z2]
      have es : kSl ((x' + 1) % 16) (psh U S).length j = kSl x' U.length (if U.length < 16 then j else j + 1) := by
        unfold kSl
        rw [hl] at z1 ⊢
        split at z1 <;> rename_i c
        · rw [if_pos c, if_pos c]; omega
        · rw [if_neg c, if_neg c]; omega
      have ns : kSl x' U.length (if U.length < 16 then j else j + 1) ≠ x' := by
        unfold kSl
        rw [hl] at z1
        split at z1 <;> rename_i c
        · rw [if_pos c]; omega
        · rw [if_neg c]; omega
      rw [es]
      exact MR_o (h3 _ z3) (fun c i y1 y2 => o c i (by omega) (by omega))
  · show I' 1 6 = nI (psh U S).length
    rw [j7, psh_len hU]
  · show I' 1 8 = nI G.length
    rw [j1 1 8 (by omega) (by omega)]; exact h5
  · have hj : j < G.length := hj
    exact MR_o (h6 j hj) (fun c i y1 y2 => o c i (by omega) (by omega))
end AST
end
section
/-! the class's acts: what each does to the plain state -/
section ACT
variable {l : Launch} {X : Nat × (Nat → Int32)} {d : Nat} {w : Nat × Nat} {p r : Nat} {I I' : Nat → Nat → Int32} {L : Nat → Nat → Int64} {kr : KR} {A : Ast}
noncomputable def uR (S : Rw) (i : Nat) (v : Int32) : Rw := fun j => if j = i then v else S j
theorem uR_s {S : Rw} {i : Nat} {v : Int32} : uR S i v i = v := if_pos rfl
theorem uR_o {S : Rw} {i j : Nat} {v : Int32} (h : j ≠ i) : uR S i v j = S j := if_neg h
noncomputable def cnS (C : Nat) (S : Rw) (f : Int32) : Option Nat := ff (fun c => decide (S (18 + c) = f)) C 0
noncomputable def aGive (A : Ast) (c f : Int32) : Int32 × Ast := match ixO (A.1.1 5) c, ixO (A.1.1 4) f with
  | some j, some g => if cnS (A.1.1 5) A.2.1 f = none ∧ ¬ A.2.1 g = 0 then (A.2.1 (18 + j), (A.1, uR A.2.1 (18 + j) f, psh A.2.2.1 A.2.1, A.2.2.2)) else (-1, A)
  | _, _ => (-1, A)
noncomputable def aMend (A : Ast) (f : Int32) : Int32 × Ast := match ixO (A.1.1 4) f with
  | none => (0, A)
  | some g => if A.2.1 g = 0 ∨ (A.2.1 g = nI (A.1.1 (12 + 4 * g)) ∧ A.2.1 (6 + g) = 0) then (0, A) else (1, (A.1, uR (uR A.2.1 g (nI (A.1.1 (12 + 4 * g)))) (6 + g) 0, psh A.2.2.1 A.2.1, A.2.2.2))
noncomputable def aVex (A : Ast) (f m : Int32) : Int32 × Ast := match ixO (A.1.1 4) f with
  | none => (-1, A)
  | some g => if (1 ≤ m ∧ m ≤ 99) ∧ ¬ A.2.1 g = 0 ∧ A.2.1 (6 + g) + m ≤ 999 then (A.2.1 (6 + g) + m, (A.1, uR A.2.1 (6 + g) (A.2.1 (6 + g) + m), psh A.2.2.1 A.2.1, A.2.2.2)) else (-1, A)
noncomputable def aUndo (A : Ast) : Int32 × Ast := if A.2.2.1.length = 0 then (0, A) else (1, (A.1, rD A.2.2.1 (A.2.2.1.length - 1), A.2.2.1.dropLast, A.2.2.2))
noncomputable def aImage (A : Ast) : Int32 × Ast := if A.2.2.2.length < 3 then (nI A.2.2.2.length, (A.1, A.2.1, A.2.2.1, A.2.2.2 ++ [A.2.1])) else (-1, A)
noncomputable def aBack (A : Ast) (i : Int32) : Int32 × Ast := match ixO A.2.2.2.length i with
  | none => (0, A)
  | some j => (1, (A.1, rD A.2.2.2 j, [], A.2.2.2))
theorem kSl_lt {x k j : Nat} : kSl x k j < 16 := Nat.mod_lt _ (by decide)
theorem AS6_o (hp : p = 7 ∨ p = 20) (hB : B3 A.1) (hG : A.2.2.2.length ≤ 3) (h : AS6 A p I) (he : ∀ c i, ¬ (c = 1 ∧ i = 13) → ¬ (40 ≤ c ∧ c ≤ 54) → I' c i = I c i) : AS6 A p I' := by
  obtain ⟨h1, h2, ⟨x, hx, e5, h3⟩, h4, h5, h6⟩ := h
  refine ⟨PC_cq hp hB h1 (fun a k z1 z2 _ => he a k (by omega) (by omega)), MR_o h2 (fun c i z1 z2 => he c i (by omega) (by omega)), ⟨x, hx, by rw [he 1 5 (by omega) (by omega)]; exact e5, fun j hj => MR_o (h3 j hj) (fun c i z1 z2 => he c i (by omega) (by omega))⟩, by rw [he 1 6 (by omega) (by omega)]; exact h4, by rw [he 1 8 (by omega) (by omega)]; exact h5, fun j hj => MR_o (h6 j hj) (fun c i z1 z2 => he c i (by omega) (by omega))⟩
theorem AS6_13 (hp : p = 7 ∨ p = 20) (hR : RA A) (h : AS6 A p I) (v : Int32) : AS6 A p (u2 I 1 13 v) := AS6_o hp hR.1.1 hR.2.1.2 h (fun c i z _ => u2_o z)
theorem AS6_now {P : Ps} {S S' : Rw} {U G : List Rw} (hp : p = 7 ∨ p = 20) (hB : B3 P) (h : AS6 (P, S, U, G) p I) (he : ∀ c i, ¬ (33 ≤ c ∧ c ≤ 37) → I' c i = I c i) (hm : MR (P.1 4) (P.1 5) 33 S' I') : AS6 (P, S', U, G) p I' := by
  obtain ⟨h1, h2, ⟨x, hx, e5, h3⟩, h4, h5, h6⟩ := h
  refine ⟨PC_cq hp hB h1 (fun a k z1 z2 _ => he a k (by omega)), hm, ⟨x, hx, by rw [he 1 5 (by omega)]; exact e5, fun j hj => MR_o (h3 j hj) (fun c i z1 z2 => he c i (by omega))⟩, by rw [he 1 6 (by omega)]; exact h4, by rw [he 1 8 (by omega)]; exact h5, fun j hj => MR_o (h6 j hj) (fun c i z1 z2 => he c i (by omega))⟩
theorem cOf_cn {F C : Nat} {S : Rw} {f : Int32} (h : MR F C 33 S I) : cOf I C f = cnS C S f := by
  unfold cOf cnS
  refine ff_cong (fun j _ hj => ?_)
  rw [show I 37 j = S (18 + j) from h.2.1 j (by omega)]
theorem oI_cn {C : Nat} {S : Rw} {f : Int32} (hC : C ≤ 5) : oI (cnS C S f) = -2 ↔ cnS C S f = none := by
  cases hq : cnS C S f with
  | none => exact ⟨fun _ => rfl, fun _ => rfl⟩
  | some c =>
    have hc := (ff_lt hq).2.1
    refine ⟨fun z => ?_, fun z => by cases z⟩
    have z : nI c = -2 := z
    exact absurd z (nI_m2 (by omega))
set_option maxRecDepth 20000 in
theorem x_give {c f : Int32} (hp : p = 7 ∨ p = 20) (hR : RA A) (hA : AS6 A p I) (h : ∀ I', AS6 (aGive A c f).2 p I' → kr (some (.int (aGive A c f).1)) (mk w p r I' L)) : Ev l X uX6_give (d + 4) true 0 0 [.ref 1, .int c, .int f] (mk w p r I L) kr := by
  obtain ⟨hF, hC⟩ := ra_FC hR
  have eF : I p 4 = nI (A.1.1 4) := hA.1.1.2.2.2.2.1
  have eC : I p 10 = nI (A.1.1 5) := hA.1.1.2.2.2.2.2.1
  obtain ⟨x, hx, e5, -⟩ := hA.2.2.1
  refine Ev.of (by decide) (Nat.le_of_ble_eq_true rfl) ?_
  refine Wf.gc tkX6_give [16, 43] ?_
  have no : aGive A c f = (-1, A) → Wf l X uX6_give (d + 4) true (mC (mk w p r I L) + 0, mS (mk w p r I L) + 0) 16 [(0, .ref 1), (1, .int c), (2, .int f)] [] (mk w p r I L) kr := by
    intro e
    rw [e] at h
    refine Wf.gc tkX6_give [] ?_
    conv => whnf
    refine sX6_refuse ?_
    conv => whnf
    exact h _ (AS6_13 hp hR hA 1)
  have no5 : aGive A c f = (-1, A) → Wf l X uX6_give (d + 4) true (mC (mk w p r I L) + 0, mS (mk w p r I L) + 0) 43 [(0, .ref 1), (1, .int c), (2, .int f)] [] (mk w p r I L) kr := by
    intro e
    rw [e] at h
    refine Wf.gc tkX6_give [] ?_
    conv => whnf
    refine sX6_refuse ?_
    conv => whnf
    exact h _ (AS6_13 hp hR hA 5)
  conv => whnf
  refine sX6_isCanon hp eC (by omega) (fun j hj ec => ?_) (fun z => ?_)
  · conv => whnf
    refine b2' (by decide) ?_
    conv => whnf
    refine sX6_isFace hp eF (by omega) (fun g hg ef => ?_) (fun z => ?_)
    · conv => whnf
      refine b1 (by decide) ?_
      conv => whnf
      refine sX6_canonOf hp eC hC ?_
      rw [cOf_cn hA.2.1]
      have e0 : aGive A c f = if cnS (A.1.1 5) A.2.1 f = none ∧ ¬ A.2.1 g = 0 then (A.2.1 (18 + j), (A.1, uR A.2.1 (18 + j) f, psh A.2.2.1 A.2.1, A.2.2.2)) else (-1, A) := by
        unfold aGive
        rw [show ixO (A.1.1 5) c = some j by rw [ec]; exact ixO_some hj (by omega), show ixO (A.1.1 4) f = some g by rw [ef]; exact ixO_some hg (by omega)]
      conv => whnf
      refine ⟨fun z => ?_, fun z => ?_⟩
      · have z : ¬ oI (cnS (A.1.1 5) A.2.1 f) = -2 := z
        rw [oI_cn hC] at z
        conv => whnf
        exact no5 (by rw [e0, if_neg (fun y => z y.1)])
      · have z : oI (cnS (A.1.1 5) A.2.1 f) = -2 := z
        rw [oI_cn hC] at z
        conv => whnf
        rw [ef]
        refine sX2_hasFallen (a := 33) (by omega) rfl (fun y => ?_) (fun y => ?_)
        · rw [(hA.2.1.1 g hg).1] at y
          conv => whnf
          refine b2' (by decide) ?_
          conv => whnf
          have q := no5 (by rw [e0, if_neg (fun y' => y'.2 y)])
          rw [ef] at q
          exact q
        · rw [(hA.2.1.1 g hg).1] at y
          rw [e0, if_pos ⟨z, y⟩] at h
          conv => whnf
          refine b1' rfl ?_
          conv => whnf
          refine x_keep (d := d + 1) hx hR.2.1.1 e5 hA.2.2.2.1 (fun J hJ => ?_)
          have hJ6 := AS6_keep hp hR hA hx e5 rfl hJ
          have j37 : J 37 j = A.2.1 (18 + j) := hJ6.2.1.2.1 j hj
          conv => whnf
          rw [ec]
          refine ⟨j, ix (N := 5) (by omega) (by decide), ?_⟩
          conv => whnf
          refine ⟨j, ix (N := 5) (by omega) (by decide), ?_⟩
          conv => whnf
          refine sX6_answer ?_
          conv => whnf
          show kr (some (.int (J 37 j))) (mk w p r (u2 (u2 J 37 j (nI g)) 1 13 0) L)
          rw [j37]
          refine h _ ?_
          refine AS6_o hp (A := (A.1, uR A.2.1 (18 + j) f, psh A.2.2.1 A.2.1, A.2.2.2)) hR.1.1 hR.2.1.2 (I := u2 J 37 j (nI g)) ?_ (fun c i z _ => u2_o z)
          · refine AS6_now hp hR.1.1 hJ6 (fun c i z => u2_o (by omega)) ⟨fun f hf => ?_, fun c' hc' => ?_, ?_, ?_⟩
            · rw [u2_o (by omega), u2_o (by omega), u2_o (by omega), uR_o (by omega), uR_o (by omega), uR_o (by omega)]
              exact hJ6.2.1.1 f hf
            · by_cases e : c' = j
              · subst e
                show u2 J 37 c' (nI g) 37 c' = uR A.2.1 (18 + c') f (18 + c')
                rw [u2_s, uR_s, ef]
              · show u2 J 37 j (nI g) 37 c' = uR A.2.1 (18 + j) f (18 + c')
                rw [u2_o (by omega), uR_o (by omega)]
                exact hJ6.2.1.2.1 c' hc'
            · rw [u2_o (by omega), uR_o (by omega)]; exact hJ6.2.1.2.2.1
            · rw [u2_o (by omega), uR_o (by omega)]; exact hJ6.2.1.2.2.2
    · conv => whnf
      refine b2 (fun z => z rfl) ?_
      conv => whnf
      refine no ?_
      unfold aGive
      rw [show ixO (A.1.1 4) f = none from ixO_none (by omega) z]
      split <;> simp_all
  · conv => whnf
    refine b1' rfl ?_
    conv => whnf
    refine no ?_
    unfold aGive
    rw [show ixO (A.1.1 5) c = none from ixO_none (by omega) z]
set_option maxRecDepth 20000 in
theorem x_vex {f m : Int32} (hp : p = 7 ∨ p = 20) (hR : RA A) (hA : AS6 A p I) (h : ∀ I', AS6 (aVex A f m).2 p I' → kr (some (.int (aVex A f m).1)) (mk w p r I' L)) : Ev l X uX6_vex (d + 4) true 0 0 [.ref 1, .int f, .int m] (mk w p r I L) kr := by
  obtain ⟨hF, hC⟩ := ra_FC hR
  have eF : I p 4 = nI (A.1.1 4) := hA.1.1.2.2.2.2.1
  obtain ⟨x, hx, e5, -⟩ := hA.2.2.1
  refine Ev.of (by decide) (Nat.le_of_ble_eq_true rfl) ?_
  refine Wf.gc tkX6_vex [] ?_
  conv => whnf
  refine sX6_isFace hp eF (by omega) (fun g hg ef => ?_) (fun z => ?_)
  · have e0 : aVex A f m = if (1 ≤ m ∧ m ≤ 99) ∧ ¬ A.2.1 g = 0 ∧ A.2.1 (6 + g) + m ≤ 999 then (A.2.1 (6 + g) + m, (A.1, uR A.2.1 (6 + g) (A.2.1 (6 + g) + m), psh A.2.2.1 A.2.1, A.2.2.2)) else (-1, A) := by
      unfold aVex
      rw [show ixO (A.1.1 4) f = some g by rw [ef]; exact ixO_some hg (by omega)]
    conv => whnf
    refine b1 (by decide) ?_
    conv => whnf
    refine sX6_within (fun c1 c2 => ?_) (fun c1 => ?_)
    · conv => whnf
      refine b1 (by decide) ?_
      conv => whnf
      rw [ef]
      refine sX2_hasFallen (a := 33) (by omega) rfl (fun y => ?_) (fun y => ?_)
      · rw [(hA.2.1.1 g hg).1] at y
        rw [e0, if_neg (fun z => z.2.1 y)] at h
        conv => whnf
        refine b2' (by decide) ?_
        conv => whnf
        refine sX6_refuse ?_
        conv => whnf
        exact h _ (AS6_13 hp hR hA 5)
      · rw [(hA.2.1.1 g hg).1] at y
        conv => whnf
        refine b1' rfl ?_
        conv => whnf
        refine ⟨g, ix (N := 6) (by omega) (by decide), ?_⟩
        conv => whnf
        refine ⟨fun c3 => ?_, fun c3 => ?_⟩
        · have c3 : I 35 g + m ≤ 999 := c3
          rw [(hA.2.1.1 g hg).2.1] at c3
          rw [e0, if_pos ⟨⟨c1, c2⟩, y, c3⟩] at h
          conv => whnf
          refine x_keep (d := d + 1) hx hR.2.1.1 e5 hA.2.2.2.1 (fun J hJ => ?_)
          have hJ6 := AS6_keep hp hR hA hx e5 rfl hJ
          have j35 : J 35 g = A.2.1 (6 + g) := (hJ6.2.1.1 g hg).2.1
          conv => whnf
          refine ⟨g, ix (N := 6) (by omega) (by decide), ?_⟩
          conv => whnf
          refine ⟨g, ix (N := 6) (by omega) (by decide), ?_⟩
          conv => whnf
          refine ⟨g, ix (N := 6) (by omega) (by decide), ?_⟩
          conv => whnf
          refine sX6_answer ?_
          conv => whnf
          show kr (some (.int (u2 J 35 g (J 35 g + m) 35 g))) (mk w p r (u2 (u2 J 35 g (J 35 g + m)) 1 13 0) L)
          rw [u2_s, j35]
          refine h _ ?_
          refine AS6_o hp (A := (A.1, uR A.2.1 (6 + g) (A.2.1 (6 + g) + m), psh A.2.2.1 A.2.1, A.2.2.2)) hR.1.1 hR.2.1.2 (I := u2 J 35 g (A.2.1 (6 + g) + m)) ?_ (fun c i z _ => u2_o z)
          refine AS6_now hp hR.1.1 hJ6 (fun c i z => u2_o (by omega)) ⟨fun f' hf => ?_, fun c' hc' => ?_, ?_, ?_⟩
          · rw [u2_o (by omega), u2_o (a := 35) (b := 33 + 3) (by omega), uR_o (by omega), uR_o (j := 12 + f') (by omega)]
            refine ⟨(hJ6.2.1.1 f' hf).1, ?_, (hJ6.2.1.1 f' hf).2.2⟩
            by_cases e : f' = g
            · subst e
              show u2 J 35 f' (A.2.1 (6 + f') + m) 35 f' = _
              rw [u2_s, uR_s]
            · show u2 J 35 g (A.2.1 (6 + g) + m) 35 f' = _
              rw [u2_o (by omega), uR_o (by omega)]
              exact (hJ6.2.1.1 f' hf).2.1
          · rw [u2_o (by omega), uR_o (by omega)]; exact hJ6.2.1.2.1 c' hc'
          · rw [u2_o (by omega), uR_o (by omega)]; exact hJ6.2.1.2.2.1
          · rw [u2_o (by omega), uR_o (by omega)]; exact hJ6.2.1.2.2.2
        · have c3 : ¬ I 35 g + m ≤ 999 := c3
          rw [(hA.2.1.1 g hg).2.1] at c3
          rw [e0, if_neg (fun z => c3 z.2.2)] at h
          conv => whnf
          refine sX6_refuse ?_
          conv => whnf
          exact h _ (AS6_13 hp hR hA 3)
    · rw [e0, if_neg (fun z => c1 z.1)] at h
      conv => whnf
      refine b2 (fun z => z rfl) ?_
      conv => whnf
      refine sX6_refuse ?_
      conv => whnf
      exact h _ (AS6_13 hp hR hA 2)
  · have e0 : aVex A f m = (-1, A) := by
      unfold aVex
      rw [show ixO (A.1.1 4) f = none from ixO_none (by omega) z]
    rw [e0] at h
    conv => whnf
    refine b2 (fun z => z rfl) ?_
    conv => whnf
    refine sX6_refuse ?_
    conv => whnf
    exact h _ (AS6_13 hp hR hA 1)
set_option maxRecDepth 20000 in
theorem x_mend {f : Int32} (hp : p = 7 ∨ p = 20) (hR : RA A) (hA : AS6 A p I) (h : ∀ I', AS6 (aMend A f).2 p I' → kr (some (.int (aMend A f).1)) (mk w p r I' L)) : Ev l X uX6_mend (d + 4) true 0 0 [.ref 1, .int f] (mk w p r I L) kr := by
  obtain ⟨hF, hC⟩ := ra_FC hR
  have eF : I p 4 = nI (A.1.1 4) := hA.1.1.2.2.2.2.1
  obtain ⟨x, hx, e5, -⟩ := hA.2.2.1
  refine Ev.of (by decide) (Nat.le_of_ble_eq_true rfl) ?_
  refine Wf.gc tkX6_mend [54] ?_
  conv => whnf
  refine sX6_isFace hp eF (by omega) (fun g hg ef => ?_) (fun z => ?_)
  · have e0 : aMend A f = if A.2.1 g = 0 ∨ (A.2.1 g = nI (A.1.1 (12 + 4 * g)) ∧ A.2.1 (6 + g) = 0) then (0, A) else (1, (A.1, uR (uR A.2.1 g (nI (A.1.1 (12 + 4 * g)))) (6 + g) 0, psh A.2.2.1 A.2.1, A.2.2.2)) := by
      unfold aMend
      rw [show ixO (A.1.1 4) f = some g by rw [ef]; exact ixO_some hg (by omega)]
    have s34 := (hA.2.1.1 g hg).1
    have s35 := (hA.2.1.1 g hg).2.1
    have hpl : I (p + 2) g = nI (A.1.1 (12 + 4 * g)) := (hA.1.2.1 g hg).2.1
    have c54 : ∀ wh : Bool, (wh = true ↔ (A.2.1 g = nI (A.1.1 (12 + 4 * g)) ∧ A.2.1 (6 + g) = 0)) → Wf l X uX6_mend (d + 4) true (mC (mk w p r I L) + 0, mS (mk w p r I L) + 0) 54 [(0, .ref 1), (1, .int f)] [.int (bI wh)] (mk w p r I L) kr := by
      intro wh hwh
      have no : aMend A f = (0, A) → Wf l X uX6_mend (d + 4) true (mC (mk w p r I L) + 0, mS (mk w p r I L) + 0) 70 [(0, .ref 1), (1, .int f), (2, .int (bI wh))] [] (mk w p r I L) kr := by
        intro e
        rw [e] at h
        refine Wf.gc tkX6_mend [] ?_
        conv => whnf
        refine sX6_refuse ?_
        conv => whnf
        exact ⟨Or.inl rfl, h _ (AS6_13 hp hR hA 5)⟩
      refine Wf.gc tkX6_mend [70] ?_
      conv => whnf
      rw [ef]
      refine sX2_hasFallen (a := 33) (by omega) rfl (fun y => ?_) (fun y => ?_)
      · rw [s34] at y
        conv => whnf
        refine b1 (by decide) ?_
        conv => whnf
        have q := no (by rw [e0, if_pos (Or.inl y)])
        rw [ef] at q
        exact q
      · rw [s34] at y
        conv => whnf
        refine b2 (fun z => z rfl) ?_
        conv => whnf
        cases wh with
        | true =>
          refine b2' (by decide) ?_
          conv => whnf
          have q := no (by rw [e0, if_pos (Or.inr (hwh.mp rfl))])
          rw [ef] at q
          exact q
        | false =>
          have nw : ¬ (A.2.1 g = nI (A.1.1 (12 + 4 * g)) ∧ A.2.1 (6 + g) = 0) := fun z => by have := hwh.mpr z; cases this
          rw [e0, if_neg (fun z => z.elim y nw)] at h
          refine b1' rfl ?_
          conv => whnf
          refine x_keep (d := d + 1) hx hR.2.1.1 e5 hA.2.2.2.1 (fun J hJ => ?_)
          have hJ6 := AS6_keep hp hR hA hx e5 rfl hJ
          have jpl : J (p + 2) g = nI (A.1.1 (12 + 4 * g)) := (hJ6.1.2.1 g hg).2.1
          have fin : AS6 (A.1, uR (uR A.2.1 g (nI (A.1.1 (12 + 4 * g)))) (6 + g) 0, psh A.2.2.1 A.2.1, A.2.2.2) p (u2 (u2 (u2 J 34 g (nI (A.1.1 (12 + 4 * g)))) 35 g 0) 1 13 0) := by
            refine AS6_o hp (A := (A.1, uR (uR A.2.1 g (nI (A.1.1 (12 + 4 * g)))) (6 + g) 0, psh A.2.2.1 A.2.1, A.2.2.2)) hR.1.1 hR.2.1.2 (I := u2 (u2 J 34 g (nI (A.1.1 (12 + 4 * g)))) 35 g 0) ?_ (fun c i z _ => u2_o z)
            refine AS6_now hp hR.1.1 hJ6 (fun c i z => by rw [u2_o (by omega), u2_o (by omega)]) ⟨fun f' hf => ?_, fun c' hc' => ?_, ?_, ?_⟩
            · by_cases e : f' = g
              · subst e
                refine ⟨?_, ?_, ?_⟩
                · show u2 (u2 J 34 f' (nI (A.1.1 (12 + 4 * f')))) 35 f' 0 34 f' = _
                  rw [u2_o (by omega), u2_s, uR_o (by omega), uR_s]
                · show u2 (u2 J 34 f' (nI (A.1.1 (12 + 4 * f')))) 35 f' 0 35 f' = _
                  rw [u2_s, uR_s]
                · show u2 (u2 J 34 f' (nI (A.1.1 (12 + 4 * f')))) 35 f' 0 36 f' = _
                  rw [u2_o (by omega), u2_o (by omega), uR_o (by omega), uR_o (by omega)]
                  exact (hJ6.2.1.1 f' hf).2.2
              · rw [u2_o (by omega), u2_o (by omega), u2_o (by omega), u2_o (by omega), u2_o (by omega), u2_o (by omega), uR_o (by omega), uR_o (by omega), uR_o (by omega), uR_o (by omega), uR_o (by omega), uR_o (by omega)]
                exact hJ6.2.1.1 f' hf
            · rw [u2_o (by omega), u2_o (by omega), uR_o (by omega), uR_o (by omega)]; exact hJ6.2.1.2.1 c' hc'
            · rw [u2_o (by omega), u2_o (by omega), uR_o (by omega), uR_o (by omega)]; exact hJ6.2.1.2.2.1
            · rw [u2_o (by omega), u2_o (by omega), uR_o (by omega), uR_o (by omega)]; exact hJ6.2.1.2.2.2
          rcases hp with rfl | rfl
          · conv => whnf
            refine ⟨g, ix (N := 6) (by omega) (by decide), ?_⟩
            conv => whnf
            refine ⟨g, ix (N := 6) (by omega) (by decide), ?_⟩
            conv => whnf
            refine ⟨g, ix (N := 6) (by omega) (by decide), ?_⟩
            conv => whnf
            refine sX6_answer ?_
            conv => whnf
            refine ⟨Or.inr rfl, ?_⟩
            show kr (some (.int 1)) (mk w 7 r (u2 (u2 (u2 J 34 g (J 9 g)) 35 g 0) 1 13 0) L)
            rw [show J 9 g = _ from jpl]
            exact h _ fin
          · conv => whnf
            refine ⟨g, ix (N := 6) (by omega) (by decide), ?_⟩
            conv => whnf
            refine ⟨g, ix (N := 6) (by omega) (by decide), ?_⟩
            conv => whnf
            refine ⟨g, ix (N := 6) (by omega) (by decide), ?_⟩
            conv => whnf
            refine sX6_answer ?_
            conv => whnf
            refine ⟨Or.inr rfl, ?_⟩
            show kr (some (.int 1)) (mk w 20 r (u2 (u2 (u2 J 34 g (J 22 g)) 35 g 0) 1 13 0) L)
            rw [show J 22 g = _ from jpl]
            exact h _ fin
    conv => whnf
    refine b1 (by decide) ?_
    rcases hp with rfl | rfl
    all_goals
      conv => whnf
      rw [ef]
      refine ⟨g, ix (N := 6) (by omega) (by decide), ?_⟩
      conv => whnf
      refine ⟨g, ix (N := 6) (by omega) (by decide), ?_⟩
      conv => whnf
      refine ⟨fun c => ?_, fun c => ?_⟩
      · have c : ¬ I 34 g = nI (A.1.1 (12 + 4 * g)) := fun z => c (z.trans hpl.symm)
        rw [show I 34 g = A.2.1 g from s34] at c
        conv => whnf
        have q := c54 false ⟨(fun z => by cases z), fun z => absurd z.1 c⟩
        rw [ef] at q
        exact q
      · have c : I 34 g = nI (A.1.1 (12 + 4 * g)) := Eq.trans c hpl
        rw [show I 34 g = A.2.1 g from s34] at c
        conv => whnf
        refine ⟨g, ix (N := 6) (by omega) (by decide), ?_⟩
        conv => whnf
        refine ⟨fun c2 => ?_, fun c2 => ?_⟩
        · have c2 : ¬ I 35 g = 0 := c2
          rw [show I 35 g = A.2.1 (6 + g) from s35] at c2
          conv => whnf
          have q := c54 false ⟨(fun z => by cases z), fun z => absurd z.2 c2⟩
          rw [ef] at q
          exact q
        · have c2 : I 35 g = 0 := c2
          rw [show I 35 g = A.2.1 (6 + g) from s35] at c2
          conv => whnf
          have q := c54 true ⟨fun _ => ⟨c, c2⟩, fun _ => rfl⟩
          rw [ef] at q
          exact q
  · have e0 : aMend A f = (0, A) := by
      unfold aMend
      rw [show ixO (A.1.1 4) f = none from ixO_none (by omega) z]
    rw [e0] at h
    conv => whnf
    refine b2 (fun z => z rfl) ?_
    conv => whnf
    refine sX6_refuse ?_
    conv => whnf
    exact ⟨Or.inl rfl, h _ (AS6_13 hp hR hA 1)⟩
theorem ring_b : ∀ x, x < 16 → (nI x + 16 - 1 - (nI x + 16 - 1) / 16 * 16 : Int32) = nI ((x + 15) % 16) := by decide
theorem nI_p1 {k : Nat} (h : 0 < k) : (nI k - 1 : Int32) = nI (k - 1) := by
  have := nI_sub (x := k) (y := 1) (by omega)
  exact this
theorem rD_dl {U : List Rw} {j : Nat} (h : j < U.length - 1) : rD U.dropLast j = rD U j := by
  unfold rD
  rw [List.getD_eq_getElem?_getD, List.getD_eq_getElem?_getD, List.getElem?_dropLast, if_pos h]
set_option maxRecDepth 20000 in
theorem x_undo (hp : p = 7 ∨ p = 20) (hR : RA A) (hA : AS6 A p I) (h : ∀ I', AS6 (aUndo A).2 p I' → kr (some (.int (aUndo A).1)) (mk w p r I' L)) : Ev l X uX6_undo (d + 2) true 0 0 [.ref 1] (mk w p r I L) kr := by
  obtain ⟨hF, hC⟩ := ra_FC hR
  obtain ⟨x, hx, e5, hU⟩ := hA.2.2.1
  have e6 := hA.2.2.2.1
  have h16 := hR.2.1.1
  have h3 := hR.2.1.2
  refine Ev.of (by decide) (Nat.le_of_ble_eq_true rfl) ?_
  refine Wf.gc tkX6_undo [] ?_
  conv => whnf
  unfold aUndo at h
  refine ⟨fun z => ?_, fun z => ?_⟩
  · have z : ¬ I 1 6 = 0 := z
    have hk : 0 < A.2.2.1.length := by
      rcases Nat.eq_zero_or_pos A.2.2.1.length with y | y
      · rw [e6, y] at z; exact absurd rfl z
      · exact y
    rw [if_neg (by omega)] at h
    conv => whnf
    refine ⟨by decide, ?_⟩
    conv => whnf
    have em : (u2 (u2 I 1 5 (I 1 5 + 16 - 1 - (I 1 5 + 16 - 1) / 16 * 16)) 1 6 (u2 I 1 5 (I 1 5 + 16 - 1 - (I 1 5 + 16 - 1) / 16 * 16) 1 6 - 1)) = u2 (u2 I 1 5 (nI ((x + 15) % 16))) 1 6 (nI (A.2.2.1.length - 1)) := by
      rw [u2_o (b := 1) (j := 6) (by decide), e5, e6, ring_b x hx, nI_p1 hk]
    refine ⟨(x + 15) % 16, ⟨?_, by omega, show (x + 15) % 16 < 16 by omega⟩, ?_⟩
    · show u2 (u2 I 1 5 (I 1 5 + 16 - 1 - (I 1 5 + 16 - 1) / 16 * 16)) 1 6 (u2 I 1 5 (I 1 5 + 16 - 1 - (I 1 5 + 16 - 1) / 16 * 16) 1 6 - 1) 1 5 = _
      rw [em, u2_o (by decide), u2_s]
    conv => whnf
    have eR : mR (mk w p r (u2 (u2 I 1 5 (I 1 5 + 16 - 1 - (I 1 5 + 16 - 1) / 16 * 16)) 1 6 (u2 I 1 5 (I 1 5 + 16 - 1 - (I 1 5 + 16 - 1) / 16 * 16) 1 6 - 1)) L) 38 ((x + 15) % 16) = 55 + 5 * ((x + 15) % 16) := R38 (p := p) (r := r) (by omega)
    show Ev l X uX2_copy (d + 1) true 0 0 [.ref 33, .ref (mR (mk w p r (u2 (u2 I 1 5 (I 1 5 + 16 - 1 - (I 1 5 + 16 - 1) / 16 * 16)) 1 6 (u2 I 1 5 (I 1 5 + 16 - 1 - (I 1 5 + 16 - 1) / 16 * 16) 1 6 - 1)) L) 38 ((x + 15) % 16))] (mk w p r (u2 (u2 I 1 5 (I 1 5 + 16 - 1 - (I 1 5 + 16 - 1) / 16 * 16)) 1 6 (u2 I 1 5 (I 1 5 + 16 - 1 - (I 1 5 + 16 - 1) / 16 * 16) 1 6 - 1)) L) _
    rw [eR, em]
    refine x_cp2 (i := (x + 15) % 16) (by omega) (fun J hJ => ?_)
    obtain ⟨j1, j2, j3, j4, j5⟩ := hJ
    conv => whnf
    refine sX6_answer ?_
    conv => whnf
    refine ⟨Or.inr rfl, ?_⟩
    have o : ∀ c i, ¬ (33 ≤ c ∧ c ≤ 37) → c ≠ 1 → J c i = I c i := fun c i z1 z2 => by rw [j1 c i (by omega), u2_o (by omega), u2_o (by omega)]
    refine h _ (AS6_o hp hR.1.1 h3 (I := J) (A := (A.1, rD A.2.2.1 (A.2.2.1.length - 1), A.2.2.1.dropLast, A.2.2.2)) ?_ (fun c i z _ => u2_o z))
    have hlast := hU (A.2.2.1.length - 1) (by omega)
    have es : kSl x A.2.2.1.length (A.2.2.1.length - 1) = (x + 15) % 16 := by unfold kSl; omega
    rw [es] at hlast
    have hlast : MR (A.1.1 4) (A.1.1 5) (55 + 5 * ((x + 15) % 16)) (rD A.2.2.1 (A.2.2.1.length - 1)) (u2 (u2 I 1 5 (nI ((x + 15) % 16))) 1 6 (nI (A.2.2.1.length - 1))) := MR_o hlast (fun c i z1 z2 => by rw [u2_o (by omega), u2_o (by omega)])
    have ld : A.2.2.1.dropLast.length = A.2.2.1.length - 1 := List.length_dropLast
    refine ⟨PC_cq hp hR.1.1 hA.1 (fun a k z1 z2 _ => o a k (by omega) (by omega)), MR_cp hF hC hlast j2 j3 j4 j5, ⟨(x + 15) % 16, by omega, ?_, fun j hj => ?_⟩, ?_, ?_, fun j hj => ?_⟩
    · rw [j1 1 5 (by omega), u2_o (by decide), u2_s]
    · have hj : j < A.2.2.1.dropLast.length := hj
      show MR (A.1.1 4) (A.1.1 5) (55 + 5 * kSl ((x + 15) % 16) A.2.2.1.dropLast.length j) (rD A.2.2.1.dropLast j) J
      rw [ld] at hj ⊢
      rw [rD_dl hj]
      have e2 : kSl ((x + 15) % 16) (A.2.2.1.length - 1) j = kSl x A.2.2.1.length j := by unfold kSl; omega
      rw [e2]
      exact MR_o (hU j (by omega)) (fun c i z1 z2 => o c i (by omega) (by omega))
    · show J 1 6 = nI A.2.2.1.dropLast.length
      rw [ld, j1 1 6 (by omega), u2_s]
    · show J 1 8 = nI A.2.2.2.length
      rw [j1 1 8 (by omega), u2_o (by decide), u2_o (by decide)]; exact hA.2.2.2.2.1
    · exact MR_o (hA.2.2.2.2.2 j hj) (fun c i z1 z2 => o c i (by have : j < A.2.2.2.length := hj; omega) (by omega))
  · have z : I 1 6 = 0 := z
    have hk : A.2.2.1.length = 0 := by
      rw [e6] at z
      exact (nI_eq (by omega) (by decide)).mp (z.trans (show (0 : Int32) = nI 0 from rfl))
    rw [if_pos hk] at h
    conv => whnf
    refine sX6_refuse ?_
    conv => whnf
    exact ⟨Or.inl rfl, h _ (AS6_13 hp hR hA 6)⟩
end ACT
end
section
section ACT2
variable {l : Launch} {X : Nat × (Nat → Int32)} {d : Nat} {w : Nat × Nat} {p r : Nat} {I I' : Nat → Nat → Int32} {L : Nat → Nat → Int64} {kr : KR} {A : Ast}
set_option maxRecDepth 20000 in
theorem x_image (hp : p = 7 ∨ p = 20) (hR : RA A) (hA : AS6 A p I) (h : ∀ I', AS6 (aImage A).2 p I' → kr (some (.int (aImage A).1)) (mk w p r I' L)) : Ev l X uX6_image (d + 2) true 0 0 [.ref 1] (mk w p r I L) kr := by
  obtain ⟨hF, hC⟩ := ra_FC hR
  obtain ⟨x, hx, e5, hU⟩ := hA.2.2.1
  have e8 := hA.2.2.2.2.1
  have h3 := hR.2.1.2
  have eF : I p 4 = nI (A.1.1 4) := hA.1.1.2.2.2.2.1
  refine Ev.of (by decide) (Nat.le_of_ble_eq_true rfl) ?_
  refine Wf.gc tkX6_image [] ?_
  conv => whnf
  unfold aImage at h
  refine sX6_hasClose hp (fun z => ?_) (fun z => ?_)
  · conv => whnf
    refine b1 (by decide) ?_
    conv => whnf
    refine ⟨fun z => ?_, fun z => ?_⟩
    · have z : I 1 8 < 3 := z
      have hk : A.2.2.2.length < 3 := by
        rw [e8, show (3 : Int32) = nI 3 from rfl, nI_ltI (by omega) (by decide)] at z
        exact z
      rw [if_pos hk] at h
      conv => whnf
      refine ⟨A.2.2.2.length, ⟨e8, by omega, show A.2.2.2.length < 3 from hk⟩, ?_⟩
      conv => whnf
      rw [show mR (mk w p r I L) (mR (mk w p r I L) 1 7) A.2.2.2.length = 55 + 5 * (16 + A.2.2.2.length) from R39 (p := p) (r := r) hk, kkM (i := 16 + A.2.2.2.length) (by omega)]
      conv => whnf
      refine x_cp1 (i := 16 + A.2.2.2.length) (by omega) (fun J hJ => ?_)
      obtain ⟨j1, j2, j3, j4, j5⟩ := hJ
      have o : ∀ c i, ¬ (55 + 5 * (16 + A.2.2.2.length) ≤ c ∧ c ≤ 55 + 5 * (16 + A.2.2.2.length) + 4) → J c i = I c i := j1
      have e8' : J 1 8 = nI A.2.2.2.length := (o 1 8 (by omega)).trans e8
      conv => whnf
      refine sX6_answer ?_
      conv => whnf
      show kr (some (.int (u2 J 1 8 (J 1 8 + 1) 1 8 - 1))) (mk w p r (u2 (u2 J 1 8 (J 1 8 + 1)) 1 13 0) L)
      rw [u2_s, e8', nI_s, nI_p1 (by omega), Nat.add_sub_cancel]
      refine h _ (AS6_o hp (A := (A.1, A.2.1, A.2.2.1, A.2.2.2 ++ [A.2.1])) hR.1.1 (by rw [List.length_append]; exact hk) (I := u2 J 1 8 (nI (A.2.2.2.length + 1))) ?_ (fun c i z _ => u2_o z))
      have lg : (A.2.2.2 ++ [A.2.1]).length = A.2.2.2.length + 1 := List.length_append
      have o2 : ∀ c i, ¬ (55 + 5 * (16 + A.2.2.2.length) ≤ c ∧ c ≤ 55 + 5 * (16 + A.2.2.2.length) + 4) → ¬ (c = 1 ∧ i = 8) → u2 J 1 8 (nI (A.2.2.2.length + 1)) c i = I c i := fun c i z1 z2 => by rw [u2_o z2]; exact o c i z1
      refine ⟨PC_cq hp hR.1.1 hA.1 (fun a k z1 z2 _ => o2 a k (by omega) (by omega)), MR_o hA.2.1 (fun c i z1 z2 => o2 c i (by omega) (by omega)), ⟨x, hx, by rw [o2 1 5 (by omega) (by omega)]; exact e5, fun j hj => by
        have kl := kSl_lt (x := x) (k := A.2.2.1.length) (j := j)
        show MR (A.1.1 4) (A.1.1 5) (55 + 5 * kSl x A.2.2.1.length j) (rD A.2.2.1 j) _
        exact MR_o (hU j hj) (fun c i z1 z2 => o2 c i (by omega) (by omega))⟩, by rw [o2 1 6 (by omega) (by omega)]; exact hA.2.2.2.1, by rw [u2_s]; show _ = nI (A.2.2.2 ++ [A.2.1]).length; rw [lg], fun j hj => ?_⟩
      have hj : j < (A.2.2.2 ++ [A.2.1]).length := hj
      rw [lg] at hj
      show MR (A.1.1 4) (A.1.1 5) (55 + 5 * (16 + j)) (rD (A.2.2.2 ++ [A.2.1]) j) _
      by_cases e : j = A.2.2.2.length
      · rw [rD_l e, e]
        have hm : MR (A.1.1 4) (A.1.1 5) (55 + 5 * (16 + A.2.2.2.length)) A.2.1 J := MR_cp hF hC hA.2.1 j2 j3 j4 j5
        exact MR_o hm (fun c i z1 z2 => u2_o (by omega))
      · rw [rD_a (by omega)]
        exact MR_o (hA.2.2.2.2.2 j (by omega)) (fun c i z1 z2 => o2 c i (by omega) (by omega))
    · have z : ¬ I 1 8 < 3 := z
      have hk : ¬ A.2.2.2.length < 3 := by
        rw [e8, show (3 : Int32) = nI 3 from rfl, nI_ltI (by omega) (by decide)] at z
        exact z
      rw [if_neg hk] at h
      conv => whnf
      refine sX6_refuse ?_
      conv => whnf
      exact h _ (AS6_13 hp hR hA 3)
  · exact absurd (by rw [eF, show (0 : Int32) = nI 0 from rfl, nI_ltI (by decide) (by omega)]; exact hR.1.2.2) z
set_option maxRecDepth 20000 in
theorem x_back {i : Int32} (hp : p = 7 ∨ p = 20) (hR : RA A) (hA : AS6 A p I) (h : ∀ I', AS6 (aBack A i).2 p I' → kr (some (.int (aBack A i).1)) (mk w p r I' L)) : Ev l X uX6_back (d + 2) true 0 0 [.ref 1, .int i] (mk w p r I L) kr := by
  obtain ⟨hF, hC⟩ := ra_FC hR
  obtain ⟨x, hx, e5, hU⟩ := hA.2.2.1
  have e8 := hA.2.2.2.2.1
  have h3 := hR.2.1.2
  refine Ev.of (by decide) (Nat.le_of_ble_eq_true rfl) ?_
  refine Wf.gc tkX6_back [12] ?_
  have no : (¬ ∃ j, j < A.2.2.2.length ∧ i = nI j) → Wf l X uX6_back (d + 2) true (mC (mk w p r I L) + 0, mS (mk w p r I L) + 0) 12 [(0, .ref 1), (1, .int i)] [] (mk w p r I L) kr := by
    intro z
    have e0 : aBack A i = (0, A) := by
      unfold aBack
      rw [show ixO A.2.2.2.length i = none from ixO_none (by omega) z]
    rw [e0] at h
    refine Wf.gc tkX6_back [] ?_
    conv => whnf
    refine sX6_refuse ?_
    conv => whnf
    exact ⟨Or.inl rfl, h _ (AS6_13 hp hR hA 1)⟩
  conv => whnf
  refine ⟨fun z => ?_, fun z => ?_⟩
  · have z : i < 0 := z
    conv => whnf
    exact no (not_ix (by omega) (Or.inl z))
  · have z : ¬ i < 0 := z
    conv => whnf
    refine ⟨fun z2 => ?_, fun z2 => ?_⟩
    · have z2 : i < I 1 8 := z2
      rw [e8] at z2
      obtain ⟨j, hj, e⟩ := le_nI (n := A.2.2.2.length) (by omega) z (fun y => absurd z2 (Int32.not_lt.mpr y))
      subst e
      have e0 : aBack A (nI j) = (1, (A.1, rD A.2.2.2 j, [], A.2.2.2)) := by
        unfold aBack
        rw [ixO_some hj (by omega)]
      rw [e0] at h
      conv => whnf
      refine ⟨j, ⟨rfl, by omega, show j < 3 by omega⟩, ?_⟩
      conv => whnf
      show Ev l X uX2_copy (d + 1) true 0 0 [.ref 33, .ref (mR (mk w p r I L) 39 j)] (mk w p r I L) _
      rw [show mR (mk w p r I L) 39 j = 55 + 5 * (16 + j) from R39 (p := p) (r := r) (by omega)]
      refine x_cp2 (i := 16 + j) (by omega) (fun J hJ => ?_)
      obtain ⟨j1, j2, j3, j4, j5⟩ := hJ
      conv => whnf
      refine sX6_answer ?_
      conv => whnf
      refine ⟨Or.inr rfl, ?_⟩
      have o : ∀ c i, ¬ (33 ≤ c ∧ c ≤ 37) → ¬ (c = 1 ∧ i = 6) → u2 J 1 6 0 c i = I c i := fun c i z1 z2 => by rw [u2_o z2]; exact j1 c i (by omega)
      refine h _ (AS6_o hp hR.1.1 h3 (I := u2 J 1 6 0) (A := (A.1, rD A.2.2.2 j, [], A.2.2.2)) ?_ (fun c i z _ => u2_o z))
      have hm : MR (A.1.1 4) (A.1.1 5) 33 (rD A.2.2.2 j) J := MR_cp hF hC (hA.2.2.2.2.2 j hj) j2 j3 j4 j5
      refine ⟨PC_cq hp hR.1.1 hA.1 (fun a k z1 z2 _ => o a k (by omega) (by omega)), MR_o hm (fun c i z1 z2 => u2_o (by omega)), ⟨x, hx, by rw [o 1 5 (by omega) (by omega)]; exact e5, fun k hk => absurd hk (Nat.not_lt_zero _)⟩, u2_s, by rw [o 1 8 (by omega) (by omega)]; exact e8, fun k hk => MR_o (hA.2.2.2.2.2 k hk) (fun c i z1 z2 => o c i (by have : k < A.2.2.2.length := hk; omega) (by omega))⟩
    · have z2 : ¬ i < I 1 8 := z2
      rw [e8] at z2
      conv => whnf
      exact no (not_ix (by omega) (Or.inr (Int32.not_lt.mp z2)))
end ACT2
end
section
/-! a day: the plain row of the next day; the class's day -/
section DAY
variable {l : Launch} {X : Nat × (Nat → Int32)} {d : Nat} {w : Nat × Nat} {p r : Nat} {I I' : Nat → Nat → Int32} {L : Nat → Nat → Int64} {kr : KR} {A : Ast}
noncomputable def vxP (P : Ps) : Option Nat → Int32
  | none => 0
  | some c => nI (P.1 (35 + 2 * c))
noncomputable def evP (P : Ps) : Option Nat → Int32
  | none => 0
  | some c => nI (P.1 (36 + 2 * c))
/-- face f through the day that comes -/
noncomputable def nxF (P : Ps) (S : Rw) (f : Nat) : Fc := cSt (nI (P.1 (11 + 4 * f))) (nI (P.1 (13 + 4 * f))) (vxP P (cnS (P.1 5) S (nI f))) (evP P (cnS (P.1 5) S (nI f))) false (S 23, S f, S (6 + f), 0)
noncomputable def ltF (P : Ps) (S : Rw) (f : Nat) : Bool := cLt (nI (P.1 (11 + 4 * f))) (vxP P (cnS (P.1 5) S (nI f))) (evP P (cnS (P.1 5) S (nI f))) false (S 23, S f, S (6 + f), 0)
noncomputable def wtS (P : Ps) (S : Rw) : Nat → Int32
  | 0 => 0
  | n + 1 => if ltF P S n = true then wtS P S n ||| ((1 : Int32) <<< (nI (P.1 (14 + 4 * n)) &&& 31)) else wtS P S n
noncomputable def nR (P : Ps) (S : Rw) : Rw := fun i => if i < P.1 4 then (nxF P S i).2.1 else if 6 ≤ i ∧ i < 6 + P.1 4 then (nxF P S (i - 6)).2.2.1 else if 12 ≤ i ∧ i < 12 + P.1 4 then S i + (nxF P S (i - 12)).2.2.2 else if i = 23 then S 23 + 1 else if i = 24 then wtS P S (P.1 4) else S i
noncomputable def aDay (A : Ast) : Int32 × Ast := if A.2.1 23 < 999 then (wtS A.1 A.2.1 (A.1.1 4), (A.1, nR A.1 A.2.1, psh A.2.2.1 A.2.1, A.2.2.2)) else (-1, A)
set_option maxHeartbeats 4000000 in
set_option maxRecDepth 20000 in
theorem x_day (hp : p = 7 ∨ p = 20) (hR : RA A) (hA : AS6 A p I) (h : ∀ I', AS6 (aDay A).2 p I' → kr (some (.int (aDay A).1)) (mk w p r I' L)) : Ev l X uX6_day (d + 4) true 0 0 [.ref 1] (mk w p r I L) kr := by
  obtain ⟨hF, hC⟩ := ra_FC hR
  obtain ⟨x, hx, e5, hU⟩ := hA.2.2.1
  have eF : I p 4 = nI (A.1.1 4) := hA.1.1.2.2.2.2.1
  refine Ev.of (by decide) (Nat.le_of_ble_eq_true rfl) ?_
  refine Wf.gc tkX6_day [40] ?_
  conv => whnf
  unfold aDay at h
  refine sX6_hasClose hp (fun z => ?_) (fun z => ?_)
  · conv => whnf
    refine b1 (by decide) ?_
    conv => whnf
    refine ⟨fun z => ?_, fun z => ?_⟩
    · have z : I 33 4 < 999 := z
      rw [hA.2.1.2.2.1] at z
      rw [if_pos z] at h
      conv => whnf
      refine x_keep (d := d + 1) hx hR.2.1.1 e5 hA.2.2.2.1 (fun J hJ => ?_)
      have hJ6 := AS6_keep hp hR hA hx e5 rfl hJ
      have pcJ : PC p A.1.1 A.1.2.1 J := hJ6.1
      have mrJ : MR (A.1.1 4) (A.1.1 5) 33 A.2.1 J := hJ6.2.1
      conv => whnf
      have loop : ∀ i, i ≤ A.1.1 4 → ∀ K : Nat → Nat → Int32, (∀ c j, ¬ (34 ≤ c ∧ c ≤ 36) → ¬ (40 ≤ c ∧ c ≤ 54) → K c j = J c j) → (∀ f, f < A.1.1 4 → (f < i → K 34 f = (nxF A.1 A.2.1 f).2.1 ∧ K 35 f = (nxF A.1 A.2.1 f).2.2.1 ∧ K 36 f = A.2.1 (12 + f) + (nxF A.1 A.2.1 f).2.2.2) ∧ (i ≤ f → K 34 f = A.2.1 f ∧ K 35 f = A.2.1 (6 + f) ∧ K 36 f = A.2.1 (12 + f))) → Wf l X uX6_day (d + 4) true (mC (mk w p r I L) + 0, mS (mk w p r I L) + 0) 40 [(0, .ref 1), (1, .int (wtS A.1 A.2.1 i)), (2, .int (nI i))] [] (mk w p r K L) kr := by
        refine down _ (A.1.1 4) ?_ ?_
        · intro K k1 k2
          refine Wf.gc tkX6_day [] ?_
          have kF : K p 4 = nI (A.1.1 4) := (k1 p 4 (by omega) (by omega)).trans pcJ.1.2.2.2.2.1
          have fin : kr (some (.int (wtS A.1 A.2.1 (A.1.1 4)))) (mk w p r (u2 (u2 (u2 K 33 4 (K 33 4 + 1)) 33 5 (wtS A.1 A.2.1 (A.1.1 4))) 1 13 0) L) := by
            refine h _ (AS6_o hp (A := (A.1, nR A.1 A.2.1, psh A.2.2.1 A.2.1, A.2.2.2)) hR.1.1 hR.2.1.2 (I := u2 (u2 K 33 4 (K 33 4 + 1)) 33 5 (wtS A.1 A.2.1 (A.1.1 4))) ?_ (fun c i z _ => u2_o z))
            have hJK : AS6 (A.1, A.2.1, psh A.2.2.1 A.2.1, A.2.2.2) p (fun c i => if 34 ≤ c ∧ c ≤ 36 then J c i else K c i) := AS6_o hp (A := (A.1, A.2.1, psh A.2.2.1 A.2.1, A.2.2.2)) hR.1.1 hR.2.1.2 hJ6 (fun c i z1 z2 => by
              show (if 34 ≤ c ∧ c ≤ 36 then J c i else K c i) = J c i
              split
              · rfl
              · rename_i z; exact k1 c i z z2)
            refine AS6_now hp hR.1.1 hJK (fun c i z => by rw [u2_o (by omega), u2_o (by omega), if_neg (by omega)]) ⟨fun f hf => ?_, fun c hc => ?_, ?_, ?_⟩
            · obtain ⟨y1, y2, y3⟩ := (k2 f hf).1 hf
              refine ⟨?_, ?_, ?_⟩
              · rw [u2_o (by omega), u2_o (by omega)]
                show K 34 f = if f < A.1.1 4 then _ else _
                rw [if_pos hf]; exact y1
              · rw [u2_o (by omega), u2_o (by omega)]
                show K 35 f = if 6 + f < A.1.1 4 then _ else if 6 ≤ 6 + f ∧ 6 + f < 6 + A.1.1 4 then _ else _
                rw [if_neg (by omega), if_pos (by omega), Nat.add_sub_cancel_left]; exact y2
              · rw [u2_o (by omega), u2_o (by omega)]
                show K 36 f = if 12 + f < A.1.1 4 then _ else if 6 ≤ 12 + f ∧ 12 + f < 6 + A.1.1 4 then _ else if 12 ≤ 12 + f ∧ 12 + f < 12 + A.1.1 4 then _ else _
                rw [if_neg (by omega), if_neg (by omega), if_pos (by omega), Nat.add_sub_cancel_left]; exact y3
            · rw [u2_o (by omega), u2_o (by omega)]
              show K 37 c = if 18 + c < A.1.1 4 then _ else if 6 ≤ 18 + c ∧ 18 + c < 6 + A.1.1 4 then _ else if 12 ≤ 18 + c ∧ 18 + c < 12 + A.1.1 4 then _ else if 18 + c = 23 then _ else if 18 + c = 24 then _ else _
              have hc : c < A.1.1 5 := hc
              rw [if_neg (by omega), if_neg (by omega), if_neg (by omega), if_neg (by omega), if_neg (by omega), k1 37 c (by omega) (by omega)]
              exact mrJ.2.1 c hc
            · rw [u2_o (by omega), u2_s, k1 33 4 (by omega) (by omega), mrJ.2.2.1]
              show _ = if 23 < A.1.1 4 then _ else if 6 ≤ 23 ∧ 23 < 6 + A.1.1 4 then _ else if 12 ≤ 23 ∧ 23 < 12 + A.1.1 4 then _ else if 23 = 23 then _ else _
              rw [if_neg (by omega), if_neg (by omega), if_neg (by omega), if_pos rfl]
            · rw [u2_s]
              show _ = if 24 < A.1.1 4 then _ else if 6 ≤ 24 ∧ 24 < 6 + A.1.1 4 then _ else if 12 ≤ 24 ∧ 24 < 12 + A.1.1 4 then _ else if 24 = 23 then _ else if 24 = 24 then _ else _
              rw [if_neg (by omega), if_neg (by omega), if_neg (by omega), if_neg (by decide), if_pos rfl]
          have kle : nI (A.1.1 4) ≤ nI (A.1.1 4) := Int32.le_refl _
          rcases hp with rfl | rfl
          all_goals
            conv => whnf
            refine b1' (show K _ 4 ≤ nI (A.1.1 4) from kF ▸ kle) ?_
            conv => whnf
            refine sX6_answer ?_
            conv => whnf
            exact fin
        · intro i hi ih K k1 k2
          have kF : K p 4 = nI (A.1.1 4) := (k1 p 4 (by omega) (by omega)).trans pcJ.1.2.2.2.2.1
          have kC : K p 10 = nI (A.1.1 5) := (k1 p 10 (by omega) (by omega)).trans pcJ.1.2.2.2.2.2.1
          have klt : ¬ K p 4 ≤ nI i := by rw [kF, nI_leI (by omega) (by omega)]; omega
          have mrK : ∀ c, c < A.1.1 5 → K 37 c = A.2.1 (18 + c) := fun c hc => (k1 37 c (by omega) (by omega)).trans (mrJ.2.1 c hc)
          have eo : cOf K (A.1.1 5) (nI i) = cnS (A.1.1 5) A.2.1 (nI i) := by
            unfold cOf cnS
            refine ff_cong (fun j _ hj => ?_)
            rw [mrK j (by omega)]
          have ho : ∀ c, cnS (A.1.1 5) A.2.1 (nI i) = some c → c < A.1.1 5 := fun c hc => by have := (ff_lt hc).2.1; omega
          obtain ⟨q1, q2, q3, q4⟩ := pcJ.2.1 i hi
          have a1 : K (p + 1) i = nI (A.1.1 (11 + 4 * i)) := (k1 (p + 1) i (by omega) (by omega)).trans q1
          have a3 : K (p + 3) i = nI (A.1.1 (13 + 4 * i)) := (k1 (p + 3) i (by omega) (by omega)).trans q3
          have a4 : K (p + 4) i = nI (A.1.1 (14 + 4 * i)) := (k1 (p + 4) i (by omega) (by omega)).trans q4
          have ev : vxO K p (cnS (A.1.1 5) A.2.1 (nI i)) = vxP A.1 (cnS (A.1.1 5) A.2.1 (nI i)) := by
            cases hq : cnS (A.1.1 5) A.2.1 (nI i) with
            | none => rfl
            | some c => exact (k1 (p + 7) c (by omega) (by omega)).trans (pcJ.2.2.2.1 c (ho c hq)).2.1
          have ee : evO K p (cnS (A.1.1 5) A.2.1 (nI i)) = evP A.1 (cnS (A.1.1 5) A.2.1 (nI i)) := by
            cases hq : cnS (A.1.1 5) A.2.1 (nI i) with
            | none => rfl
            | some c => exact (k1 (p + 8) c (by omega) (by omega)).trans (pcJ.2.2.2.1 c (ho c hq)).2.2
          obtain ⟨y1, y2, y3⟩ := (k2 i hi).2 (Nat.le_refl _)
          have en : nowF K i = (A.2.1 23, A.2.1 i, A.2.1 (6 + i), 0) := by
            unfold nowF
            rw [y1, y2, k1 33 4 (by omega) (by omega), mrJ.2.2.1]
          have ec : crs K p i (cnS (A.1.1 5) A.2.1 (nI i)) (nowF K i) = crf K (nI (A.1.1 (11 + 4 * i))) (nI (A.1.1 (13 + 4 * i))) (vxP A.1 (cnS (A.1.1 5) A.2.1 (nI i))) (evP A.1 (cnS (A.1.1 5) A.2.1 (nI i))) (A.2.1 23, A.2.1 i, A.2.1 (6 + i), 0) := by
            unfold crs
            rw [a1, a3, ev, ee, en]
          have c86 : ∀ bt : Int32, bt = wtS A.1 A.2.1 (i + 1) → Wf l X uX6_day (d + 4) true (mC (mk w p r I L) + 0, mS (mk w p r I L) + 0) 86 [(0, .ref 1), (1, .int bt), (2, .int (nI i))] [] (mk w p r (crf K (nI (A.1.1 (11 + 4 * i))) (nI (A.1.1 (13 + 4 * i))) (vxP A.1 (cnS (A.1.1 5) A.2.1 (nI i))) (evP A.1 (cnS (A.1.1 5) A.2.1 (nI i))) (nxF A.1 A.2.1 i)) L) kr := by
            intro bt hbt
            generalize hN : crf K (nI (A.1.1 (11 + 4 * i))) (nI (A.1.1 (13 + 4 * i))) (vxP A.1 (cnS (A.1.1 5) A.2.1 (nI i))) (evP A.1 (cnS (A.1.1 5) A.2.1 (nI i))) (nxF A.1 A.2.1 i) = N
            have n5 : N 40 5 = (nxF A.1 A.2.1 i).2.1 := by rw [← hN]; rfl
            have n6 : N 40 6 = (nxF A.1 A.2.1 i).2.2.1 := by rw [← hN]; rfl
            have n7 : N 40 7 = (nxF A.1 A.2.1 i).2.2.2 := by rw [← hN]; rfl
            have no : ∀ c j, c ≠ 40 → N c j = K c j := fun c j z => by rw [← hN]; exact congrFun (cr_o z) j
            refine Wf.gc tkX6_day [40] ?_
            conv => whnf
            refine ⟨i, ix (N := 6) (by omega) (by decide), ?_⟩
            conv => whnf
            refine ⟨i, ix (N := 6) (by omega) (by decide), ?_⟩
            conv => whnf
            refine ⟨i, ix (N := 6) (by omega) (by decide), ?_⟩
            conv => whnf
            refine ⟨i, ix (N := 6) (by omega) (by decide), ?_⟩
            conv => whnf
            show Wf l X uX6_day (d + 4) true (mC (mk w p r I L) + 0, mS (mk w p r I L) + 0) 40 [(0, .ref 1), (1, .int bt), (2, .int (nI i + 1))] [] (mk w p r (u2 (u2 (u2 N 34 i (N 40 5)) 35 i (u2 N 34 i (N 40 5) 40 6)) 36 i (u2 (u2 N 34 i (N 40 5)) 35 i (u2 N 34 i (N 40 5) 40 6) 36 i + u2 (u2 N 34 i (N 40 5)) 35 i (u2 N 34 i (N 40 5) 40 6) 40 7)) L) kr
            rw [nI_s, hbt]
            refine ih _ (fun c j z1 z2 => ?_) (fun f hf => ⟨fun z => ?_, fun z => ?_⟩)
            · rw [u2_o (by omega), u2_o (by omega), u2_o (by omega), no c j (by omega)]; exact k1 c j z1 z2
            · by_cases e : f = i
              · subst e
                refine ⟨?_, ?_, ?_⟩
                · rw [u2_o (by omega), u2_o (by omega), u2_s]; exact n5
                · rw [u2_o (by omega), u2_s, u2_o (by omega)]; exact n6
                · rw [u2_s, u2_o (by omega), u2_o (by omega), u2_o (by omega), u2_o (by omega), no 36 f (by decide), y3, n7]
              · rw [u2_o (by omega), u2_o (by omega), u2_o (by omega), no 34 f (by decide), u2_o (by omega), u2_o (by omega), u2_o (by omega), no 35 f (by decide), u2_o (by omega), u2_o (by omega), u2_o (by omega), no 36 f (by decide)]
                exact (k2 f hf).1 (by omega)
            · rw [u2_o (by omega), u2_o (by omega), u2_o (by omega), no 34 f (by decide), u2_o (by omega), u2_o (by omega), u2_o (by omega), no 35 f (by decide), u2_o (by omega), u2_o (by omega), u2_o (by omega), no 36 f (by decide)]
              exact (k2 f hf).2 (by omega)
          refine Wf.gc tkX6_day [86] ?_
          have hp' := hp
          rcases hp with rfl | rfl
          all_goals
            conv => whnf
            refine b2' (show ¬ K _ 4 ≤ nI i from klt) ?_
            conv => whnf
            refine sX6_canonOf hp' kC hC ?_
            rw [eo]
            conv => whnf
            refine sX6_startNow hp' (by omega) (fun c hc => Nat.lt_of_lt_of_le (ho c hc) hC) ?_
            rw [ec]
            conv => whnf
            refine sX0_pass (calm := false) ?_
            conv => whnf
            refine ⟨fun z => ?_, fun z => ?_⟩
            · have z : bI (ltF A.1 A.2.1 i) = 0 := z
              have zl : ltF A.1 A.2.1 i = false := by
                cases hq : ltF A.1 A.2.1 i with
                | false => rfl
                | true => rw [hq] at z; exact absurd z (by decide)
              conv => whnf
              exact c86 _ (by show _ = (if ltF A.1 A.2.1 i = true then _ else _); rw [zl]; rfl)
            · have z : ¬ bI (ltF A.1 A.2.1 i) = 0 := z
              have zl : ltF A.1 A.2.1 i = true := by
                cases hq : ltF A.1 A.2.1 i with
                | true => rfl
                | false => rw [hq] at z; exact absurd rfl z
              conv => whnf
              refine ⟨i, ix (N := 6) (by omega) (by decide), ?_⟩
              conv => whnf
              refine c86 _ ?_
              have e1 : wtS A.1 A.2.1 (i + 1) = wtS A.1 A.2.1 i ||| ((1 : Int32) <<< (nI (A.1.1 (14 + 4 * i)) &&& 31)) := by
                show (if ltF A.1 A.2.1 i = true then _ else _) = _
                rw [zl]
                rfl
              rw [e1]
              exact congrArg (fun t => wtS A.1 A.2.1 i ||| ((1 : Int32) <<< (t &&& 31))) a4
      exact loop 0 (Nat.zero_le _) J (fun _ _ _ _ => rfl) (fun f hf => ⟨fun z => absurd z (Nat.not_lt_zero _), fun _ => mrJ.1 f hf⟩)
    · have z : ¬ I 33 4 < 999 := z
      rw [hA.2.1.2.2.1] at z
      rw [if_neg z] at h
      conv => whnf
      refine sX6_refuse ?_
      conv => whnf
      exact h _ (AS6_13 hp hR hA 3)
  · exact absurd (by rw [eF, show (0 : Int32) = nI 0 from rfl, nI_ltI (by decide) (by omega)]; exact hR.1.2.2) z
end DAY
end
section
/-! the reference's copies of rows; what was kept -/
section CPR
variable {l : Launch} {X : Nat × (Nat → Int32)} {d : Nat} {w : Nat × Nat} {p r : Nat} {I : Nat → Nat → Int32} {L : Nat → Nat → Int64} {kr : KR} {s t : Nat}
set_option maxHeartbeats 2000000 in
set_option maxRecDepth 20000 in
theorem y_cp_157_158 (hs : s + 25 ≤ 25) (ht : t + 25 ≤ 400) (h : ∀ K : Nat → Nat → Int32, (∀ x i, ¬ (x = 158 ∧ t ≤ i ∧ i < t + 25) → K x i = I x i) → (∀ i, i < 25 → K 158 (t + i) = I 157 (s + i)) → kr none (mk w p r K L)) : Ev l X uX7_copy d true 0 0 [.ref 157, .int (nI s), .ref 158, .int (nI t), .int 25] (mk w p r I L) kr := by
  refine Ev.of (by decide) (Nat.le_of_ble_eq_true rfl) ?_
  refine Wf.gc tkX7_copy [3] ?_
  conv => whnf
  have loop := down (fun j => ∀ K : Nat → Nat → Int32, (∀ x i, ¬ (x = 158 ∧ t ≤ i ∧ i < t + 25) → K x i = I x i) → (∀ i, i < j → K 158 (t + i) = I 157 (s + i)) → Wf l X uX7_copy d true (mC (mk w p r I L) + 0, mS (mk w p r I L) + 0) 3 [(0, .ref 157), (1, .int (nI s)), (2, .ref 158), (3, .int (nI t)), (4, .int 25), (5, .int (nI j))] [] (mk w p r K L) kr) 25 ?_ ?_ 0 (Nat.zero_le _)
  · exact loop I (fun _ _ _ => rfl) (fun i hi => absurd hi (Nat.not_lt_zero _))
  · intro K k1 k2
    refine Wf.gc tkX7_copy [] ?_
    conv => whnf
    refine b1' (by decide) ?_
    conv => whnf
    exact h K k1 k2
  · intro j hj ih K k1 k2
    have ih := ih (u2 K 158 (t + j) (K 157 (s + j))) (fun x i z => by rw [u2_o (by omega)]; exact k1 x i z) (fun i hi => by
      rcases Nat.lt_or_ge i j with z | z
      · rw [u2_o (by omega)]; exact k2 i z
      · have : i = j := by omega
        subst this
        rw [u2_s]; exact k1 157 (s + i) (by omega))
    rw [← nI_1] at ih
    refine Wf.gc tkX7_copy [3] ?_
    conv => whnf
    refine b2' (by show ¬ (25 : Int32) ≤ nI j; rw [show (25 : Int32) = nI 25 from rfl]; exact nI_ge hj (by decide)) ?_
    conv => whnf
    refine ⟨s + j, ⟨by show (nI s + nI j : Int32) = nI (s + j); exact nI_add s j, by omega, show s + j < 25 by omega⟩, ?_⟩
    conv => whnf
    refine ⟨t + j, ⟨by show (nI t + nI j : Int32) = nI (t + j); exact nI_add t j, by omega, show t + j < 400 by omega⟩, ?_⟩
    conv => whnf
    exact ih
set_option maxHeartbeats 2000000 in
set_option maxRecDepth 20000 in
theorem y_cp_158_157 (hs : s + 25 ≤ 400) (ht : t + 25 ≤ 25) (h : ∀ K : Nat → Nat → Int32, (∀ x i, ¬ (x = 157 ∧ t ≤ i ∧ i < t + 25) → K x i = I x i) → (∀ i, i < 25 → K 157 (t + i) = I 158 (s + i)) → kr none (mk w p r K L)) : Ev l X uX7_copy d true 0 0 [.ref 158, .int (nI s), .ref 157, .int (nI t), .int 25] (mk w p r I L) kr := by
  refine Ev.of (by decide) (Nat.le_of_ble_eq_true rfl) ?_
  refine Wf.gc tkX7_copy [3] ?_
  conv => whnf
  have loop := down (fun j => ∀ K : Nat → Nat → Int32, (∀ x i, ¬ (x = 157 ∧ t ≤ i ∧ i < t + 25) → K x i = I x i) → (∀ i, i < j → K 157 (t + i) = I 158 (s + i)) → Wf l X uX7_copy d true (mC (mk w p r I L) + 0, mS (mk w p r I L) + 0) 3 [(0, .ref 158), (1, .int (nI s)), (2, .ref 157), (3, .int (nI t)), (4, .int 25), (5, .int (nI j))] [] (mk w p r K L) kr) 25 ?_ ?_ 0 (Nat.zero_le _)
  · exact loop I (fun _ _ _ => rfl) (fun i hi => absurd hi (Nat.not_lt_zero _))
  · intro K k1 k2
    refine Wf.gc tkX7_copy [] ?_
    conv => whnf
    refine b1' (by decide) ?_
    conv => whnf
    exact h K k1 k2
  · intro j hj ih K k1 k2
    have ih := ih (u2 K 157 (t + j) (K 158 (s + j))) (fun x i z => by rw [u2_o (by omega)]; exact k1 x i z) (fun i hi => by
      rcases Nat.lt_or_ge i j with z | z
      · rw [u2_o (by omega)]; exact k2 i z
      · have : i = j := by omega
        subst this
        rw [u2_s]; exact k1 158 (s + i) (by omega))
    rw [← nI_1] at ih
    refine Wf.gc tkX7_copy [3] ?_
    conv => whnf
    refine b2' (by show ¬ (25 : Int32) ≤ nI j; rw [show (25 : Int32) = nI 25 from rfl]; exact nI_ge hj (by decide)) ?_
    conv => whnf
    refine ⟨s + j, ⟨by show (nI s + nI j : Int32) = nI (s + j); exact nI_add s j, by omega, show s + j < 400 by omega⟩, ?_⟩
    conv => whnf
    refine ⟨t + j, ⟨by show (nI t + nI j : Int32) = nI (t + j); exact nI_add t j, by omega, show t + j < 25 by omega⟩, ?_⟩
    conv => whnf
    exact ih
set_option maxHeartbeats 2000000 in
set_option maxRecDepth 20000 in
theorem y_cp_157_159 (hs : s + 25 ≤ 25) (ht : t + 25 ≤ 75) (h : ∀ K : Nat → Nat → Int32, (∀ x i, ¬ (x = 159 ∧ t ≤ i ∧ i < t + 25) → K x i = I x i) → (∀ i, i < 25 → K 159 (t + i) = I 157 (s + i)) → kr none (mk w p r K L)) : Ev l X uX7_copy d true 0 0 [.ref 157, .int (nI s), .ref 159, .int (nI t), .int 25] (mk w p r I L) kr := by
  refine Ev.of (by decide) (Nat.le_of_ble_eq_true rfl) ?_
  refine Wf.gc tkX7_copy [3] ?_
  conv => whnf
  have loop := down (fun j => ∀ K : Nat → Nat → Int32, (∀ x i, ¬ (x = 159 ∧ t ≤ i ∧ i < t + 25) → K x i = I x i) → (∀ i, i < j → K 159 (t + i) = I 157 (s + i)) → Wf l X uX7_copy d true (mC (mk w p r I L) + 0, mS (mk w p r I L) + 0) 3 [(0, .ref 157), (1, .int (nI s)), (2, .ref 159), (3, .int (nI t)), (4, .int 25), (5, .int (nI j))] [] (mk w p r K L) kr) 25 ?_ ?_ 0 (Nat.zero_le _)
  · exact loop I (fun _ _ _ => rfl) (fun i hi => absurd hi (Nat.not_lt_zero _))
  · intro K k1 k2
    refine Wf.gc tkX7_copy [] ?_
    conv => whnf
    refine b1' (by decide) ?_
    conv => whnf
    exact h K k1 k2
  · intro j hj ih K k1 k2
    have ih := ih (u2 K 159 (t + j) (K 157 (s + j))) (fun x i z => by rw [u2_o (by omega)]; exact k1 x i z) (fun i hi => by
      rcases Nat.lt_or_ge i j with z | z
      · rw [u2_o (by omega)]; exact k2 i z
      · have : i = j := by omega
        subst this
        rw [u2_s]; exact k1 157 (s + i) (by omega))
    rw [← nI_1] at ih
    refine Wf.gc tkX7_copy [3] ?_
    conv => whnf
    refine b2' (by show ¬ (25 : Int32) ≤ nI j; rw [show (25 : Int32) = nI 25 from rfl]; exact nI_ge hj (by decide)) ?_
    conv => whnf
    refine ⟨s + j, ⟨by show (nI s + nI j : Int32) = nI (s + j); exact nI_add s j, by omega, show s + j < 25 by omega⟩, ?_⟩
    conv => whnf
    refine ⟨t + j, ⟨by show (nI t + nI j : Int32) = nI (t + j); exact nI_add t j, by omega, show t + j < 75 by omega⟩, ?_⟩
    conv => whnf
    exact ih
set_option maxHeartbeats 2000000 in
set_option maxRecDepth 20000 in
theorem y_cp_159_157 (hs : s + 25 ≤ 75) (ht : t + 25 ≤ 25) (h : ∀ K : Nat → Nat → Int32, (∀ x i, ¬ (x = 157 ∧ t ≤ i ∧ i < t + 25) → K x i = I x i) → (∀ i, i < 25 → K 157 (t + i) = I 159 (s + i)) → kr none (mk w p r K L)) : Ev l X uX7_copy d true 0 0 [.ref 159, .int (nI s), .ref 157, .int (nI t), .int 25] (mk w p r I L) kr := by
  refine Ev.of (by decide) (Nat.le_of_ble_eq_true rfl) ?_
  refine Wf.gc tkX7_copy [3] ?_
  conv => whnf
  have loop := down (fun j => ∀ K : Nat → Nat → Int32, (∀ x i, ¬ (x = 157 ∧ t ≤ i ∧ i < t + 25) → K x i = I x i) → (∀ i, i < j → K 157 (t + i) = I 159 (s + i)) → Wf l X uX7_copy d true (mC (mk w p r I L) + 0, mS (mk w p r I L) + 0) 3 [(0, .ref 159), (1, .int (nI s)), (2, .ref 157), (3, .int (nI t)), (4, .int 25), (5, .int (nI j))] [] (mk w p r K L) kr) 25 ?_ ?_ 0 (Nat.zero_le _)
  · exact loop I (fun _ _ _ => rfl) (fun i hi => absurd hi (Nat.not_lt_zero _))
  · intro K k1 k2
    refine Wf.gc tkX7_copy [] ?_
    conv => whnf
    refine b1' (by decide) ?_
    conv => whnf
    exact h K k1 k2
  · intro j hj ih K k1 k2
    have ih := ih (u2 K 157 (t + j) (K 159 (s + j))) (fun x i z => by rw [u2_o (by omega)]; exact k1 x i z) (fun i hi => by
      rcases Nat.lt_or_ge i j with z | z
      · rw [u2_o (by omega)]; exact k2 i z
      · have : i = j := by omega
        subst this
        rw [u2_s]; exact k1 159 (s + i) (by omega))
    rw [← nI_1] at ih
    refine Wf.gc tkX7_copy [3] ?_
    conv => whnf
    refine b2' (by show ¬ (25 : Int32) ≤ nI j; rw [show (25 : Int32) = nI 25 from rfl]; exact nI_ge hj (by decide)) ?_
    conv => whnf
    refine ⟨s + j, ⟨by show (nI s + nI j : Int32) = nI (s + j); exact nI_add s j, by omega, show s + j < 75 by omega⟩, ?_⟩
    conv => whnf
    refine ⟨t + j, ⟨by show (nI t + nI j : Int32) = nI (t + j); exact nI_add t j, by omega, show t + j < 25 by omega⟩, ?_⟩
    conv => whnf
    exact ih
set_option maxHeartbeats 2000000 in
set_option maxRecDepth 20000 in
theorem y_cp_155_161 (hs : s + 25 ≤ 25) (ht : t + 25 ≤ 25) (h : ∀ K : Nat → Nat → Int32, (∀ x i, ¬ (x = 161 ∧ t ≤ i ∧ i < t + 25) → K x i = I x i) → (∀ i, i < 25 → K 161 (t + i) = I 155 (s + i)) → kr none (mk w p r K L)) : Ev l X uX7_copy d true 0 0 [.ref 155, .int (nI s), .ref 161, .int (nI t), .int 25] (mk w p r I L) kr := by
  refine Ev.of (by decide) (Nat.le_of_ble_eq_true rfl) ?_
  refine Wf.gc tkX7_copy [3] ?_
  conv => whnf
  have loop := down (fun j => ∀ K : Nat → Nat → Int32, (∀ x i, ¬ (x = 161 ∧ t ≤ i ∧ i < t + 25) → K x i = I x i) → (∀ i, i < j → K 161 (t + i) = I 155 (s + i)) → Wf l X uX7_copy d true (mC (mk w p r I L) + 0, mS (mk w p r I L) + 0) 3 [(0, .ref 155), (1, .int (nI s)), (2, .ref 161), (3, .int (nI t)), (4, .int 25), (5, .int (nI j))] [] (mk w p r K L) kr) 25 ?_ ?_ 0 (Nat.zero_le _)
  · exact loop I (fun _ _ _ => rfl) (fun i hi => absurd hi (Nat.not_lt_zero _))
  · intro K k1 k2
    refine Wf.gc tkX7_copy [] ?_
    conv => whnf
    refine b1' (by decide) ?_
    conv => whnf
    exact h K k1 k2
  · intro j hj ih K k1 k2
    have ih := ih (u2 K 161 (t + j) (K 155 (s + j))) (fun x i z => by rw [u2_o (by omega)]; exact k1 x i z) (fun i hi => by
      rcases Nat.lt_or_ge i j with z | z
      · rw [u2_o (by omega)]; exact k2 i z
      · have : i = j := by omega
        subst this
        rw [u2_s]; exact k1 155 (s + i) (by omega))
    rw [← nI_1] at ih
    refine Wf.gc tkX7_copy [3] ?_
    conv => whnf
    refine b2' (by show ¬ (25 : Int32) ≤ nI j; rw [show (25 : Int32) = nI 25 from rfl]; exact nI_ge hj (by decide)) ?_
    conv => whnf
    refine ⟨s + j, ⟨by show (nI s + nI j : Int32) = nI (s + j); exact nI_add s j, by omega, show s + j < 25 by omega⟩, ?_⟩
    conv => whnf
    refine ⟨t + j, ⟨by show (nI t + nI j : Int32) = nI (t + j); exact nI_add t j, by omega, show t + j < 25 by omega⟩, ?_⟩
    conv => whnf
    exact ih
set_option maxHeartbeats 2000000 in
set_option maxRecDepth 20000 in
theorem y_note {A : Ast} (hR : RA A) (hA : AS7 A I) (h : ∀ I', (∀ x i, ¬ (x = 150 ∧ i = 22) → x ≠ 158 → I' x i = I x i) → AS7 (A.1, A.2.1, psh A.2.2.1 A.2.1, A.2.2.2) I' → kr none (mk w p r I' L)) : Ev l X uX7_note (d + 1) true 0 0 [.ref 150] (mk w p r I L) kr := by
  obtain ⟨a1, a2, a3, a4, a5, a6, a7, a8⟩ := hA
  have h16 := hR.2.1.1
  have lastP : ∀ (k : Nat) (J : Nat → Nat → Int32), k < 16 → k + 1 = (psh A.2.2.1 A.2.1).length → J 150 22 = nI k → (∀ x i, ¬ (x = 150 ∧ i = 22) → x ≠ 158 → J x i = I x i) → (∀ j, j < k → ∀ i, i < 25 → J 158 (25 * j + i) = rD (psh A.2.2.1 A.2.1) j i) → ∀ ls : Ls, (ls = [] ∨ ∃ z : Int32, ls = [(1, .int z)]) → Wf l X uX7_note (d + 1) true (mC (mk w p r I L) + 0, mS (mk w p r I L) + 0) 49 ((0, .ref 150) :: ls) [] (mk w p r J L) kr := by
    intro k J hk hl j22 jo jr ls hls
    have rest : Wf l X uX7_note (d + 1) true (mC (mk w p r I L) + 0, mS (mk w p r I L) + 0) 49 [(0, .ref 150)] [] (mk w p r J L) kr := by
      refine Wf.gc tkX7_note [] ?_
      conv => whnf
      show Ev l X uX7_copy d true 0 0 [.ref 157, .int 0, .ref 158, .int (25 * J 150 22), .int 25] (mk w p r J L) _
      rw [j22, show (25 : Int32) * nI k = nI (25 * k) from nI_mul 25 k]
      refine y_cp_157_158 (s := 0) (t := 25 * k) (by decide) (by omega) (fun K k1 k2 => ?_)
      conv => whnf
      have k22 : K 150 22 = nI k := (k1 150 22 (by omega)).trans j22
      show kr none (mk w p r (u2 K 150 22 (K 150 22 + 1)) L)
      rw [k22, nI_s]
      refine h _ (fun x i z1 z2 => ?_) ⟨?_, FS_cg a2 (fun i _ => ?_), FH_cg a3 (fun i _ => ?_), fun i hi => ?_, ?_, fun j hj i hi => ?_, ?_, fun j hj i hi => ?_⟩
      · rw [u2_o z1, k1 x i (by omega)]; exact jo x i z1 z2
      · rw [u2_o (by omega), k1 150 14 (by omega), jo 150 14 (by omega) (by decide)]; exact a1
      · rw [u2_o (by omega), k1 153 i (by omega), jo 153 i (by omega) (by decide)]
      · rw [u2_o (by omega), k1 155 i (by omega), jo 155 i (by omega) (by decide)]
      · rw [u2_o (by omega), k1 157 i (by omega), jo 157 i (by omega) (by decide)]; exact a4 i hi
      · rw [u2_s]; show nI (k + 1) = nI (psh A.2.2.1 A.2.1).length; rw [hl]
      · have hj : j < (psh A.2.2.1 A.2.1).length := hj
        show u2 K 150 22 (nI (k + 1)) 158 (25 * j + i) = rD (psh A.2.2.1 A.2.1) j i
        rw [u2_o (by omega)]
        by_cases e : j = k
        · subst e
          rw [k2 i hi, jo 157 (0 + i) (by omega) (by decide), Nat.zero_add, a4 i hi]
          rcases psh_D (S := A.2.1) h16 hj with ⟨-, z⟩ | ⟨z, -, -⟩
          · rw [z]
          · omega
        · rw [k1 158 (25 * j + i) (by omega)]
          exact jr j (by omega) i hi
      · rw [u2_o (by omega), k1 150 23 (by omega), jo 150 23 (by omega) (by decide)]; exact a7
      · rw [u2_o (by omega), k1 159 _ (by omega), jo 159 _ (by omega) (by decide)]; exact a8 j hj i hi
    rcases hls with rfl | ⟨z, rfl⟩
    · exact rest
    · exact Wf.keep [0] rest
  refine Ev.of (by decide) (Nat.le_of_ble_eq_true rfl) ?_
  refine Wf.gc tkX7_note [11, 49] ?_
  conv => whnf
  have hl := psh_len (S := A.2.1) h16
  refine ⟨fun z => ?_, fun z => ?_⟩
  · have z : ¬ I 150 22 = 16 := z
    have hk : A.2.2.1.length < 16 := by
      rcases Nat.lt_or_ge A.2.2.1.length 16 with y | y
      · exact y
      · exfalso
        apply z
        rw [a5, show A.2.2.1.length = 16 by omega]
        rfl
    conv => whnf
    refine lastP A.2.2.1.length I hk (by rw [hl, if_pos hk]) a5 (fun _ _ _ _ => rfl) (fun j hj i hi => ?_) [] (Or.inl rfl)
    rw [a6 j hj i hi]
    unfold psh
    rw [if_pos hk, rD_a hj]
  · have z : I 150 22 = 16 := z
    have hk : A.2.2.1.length = 16 := by
      rw [a5] at z
      exact (nI_eq (by omega) (by decide)).mp (z.trans (show (16 : Int32) = nI 16 from rfl))
    conv => whnf
    have loop := down (fun j => ∀ K : Nat → Nat → Int32, (∀ x i, x ≠ 158 → K x i = I x i) → (∀ i, i < j → K 158 i = I 158 (i + 25)) → (∀ i, j ≤ i → K 158 i = I 158 i) → Wf l X uX7_note (d + 1) true (mC (mk w p r I L) + 0, mS (mk w p r I L) + 0) 11 [(0, .ref 150), (1, .int (nI j))] [] (mk w p r K L) kr) 375 ?_ ?_ 0 (Nat.zero_le _)
    · exact loop I (fun _ _ _ => rfl) (fun i hi => absurd hi (Nat.not_lt_zero _)) (fun _ _ => rfl)
    · intro K k1 k2 k3
      refine Wf.gc tkX7_note [49] ?_
      conv => whnf
      refine b1' (by decide) ?_
      conv => whnf
      show Wf l X uX7_note (d + 1) true (mC (mk w p r I L) + 0, mS (mk w p r I L) + 0) 49 [(0, .ref 150), (1, .int (nI 375))] [] (mk w p r (u2 K 150 22 (K 150 22 - 1)) L) kr
      rw [k1 150 22 (by decide), z]
      refine lastP 15 (u2 K 150 22 (16 - 1)) (by decide) (by rw [hl, if_neg (by omega)]) u2_s (fun x i z1 z2 => by rw [u2_o z1]; exact k1 x i z2) (fun j hj i hi => ?_) [(1, .int (nI 375))] (Or.inr ⟨_, rfl⟩)
      rw [u2_o (by omega), k2 (25 * j + i) (by omega), show 25 * j + i + 25 = 25 * (j + 1) + i by omega, a6 (j + 1) (by omega) i hi]
      unfold psh
      rw [if_neg (by omega), rD_a (by rw [List.length_drop]; omega), rD_d]
    · intro j hj ih K k1 k2 k3
      refine Wf.gc tkX7_note [11] ?_
      conv => whnf
      refine b2' (by show ¬ (375 : Int32) ≤ nI j; rw [show (375 : Int32) = nI 375 from rfl, nI_leI (by decide) (by omega)]; omega) ?_
      conv => whnf
      refine ⟨j + 25, ⟨by show (nI j + 25 : Int32) = nI (j + 25); exact nI_add j 25, by omega, show j + 25 < 400 by omega⟩, ?_⟩
      conv => whnf
      refine ⟨j, ⟨rfl, by omega, show j < 400 by omega⟩, ?_⟩
      conv => whnf
      show Wf l X uX7_note (d + 1) true (mC (mk w p r I L) + 0, mS (mk w p r I L) + 0) 11 [(0, .ref 150), (1, .int (nI j + 1))] [] (mk w p r (u2 K 158 j (K 158 (j + 25))) L) kr
      rw [nI_s]
      refine ih _ (fun x i z => by rw [u2_o (by omega)]; exact k1 x i z) (fun i hi => ?_) (fun i hi => ?_)
      · by_cases e : i = j
        · subst e
          rw [u2_s]; exact k3 (i + 25) (by omega)
        · rw [u2_o (by omega)]; exact k2 i (by omega)
      · rw [u2_o (by omega)]; exact k3 i (by omega)
end CPR
end
section
/-! the reference's acts: what each does to the plain state -/
section RAC
variable {l : Launch} {X : Nat × (Nat → Int32)} {d : Nat} {w : Nat × Nat} {p r : Nat} {I I' : Nat → Nat → Int32} {L : Nat → Nat → Int64} {kr : KR} {A : Ast} {N : Nat}
theorem AS7_o (h : AS7 A I) (he : ∀ x i, ((x = 150 ∧ (i = 14 ∨ i = 22 ∨ i = 23)) ∨ x = 153 ∨ x = 155 ∨ x = 157 ∨ x = 158 ∨ x = 159) → I' x i = I x i) : AS7 A I' := by
  obtain ⟨a1, a2, a3, a4, a5, a6, a7, a8⟩ := h
  exact ⟨by rw [he 150 14 (by omega)]; exact a1, FS_cg a2 (fun i _ => he 153 i (by omega)), FH_cg a3 (fun i _ => he 155 i (by omega)), fun i hi => by rw [he 157 i (by omega)]; exact a4 i hi, by rw [he 150 22 (by omega)]; exact a5, fun j hj i hi => by rw [he 158 _ (by omega)]; exact a6 j hj i hi, by rw [he 150 23 (by omega)]; exact a7, fun j hj i hi => by rw [he 159 _ (by omega)]; exact a8 j hj i hi⟩
theorem AS7_st {P : Ps} {S S' : Rw} {U G : List Rw} (h : AS7 (P, S, U, G) I) (he : ∀ x i, x ≠ 157 → I' x i = I x i) (hs : ∀ i, i < 25 → I' 157 i = S' i) : AS7 (P, S', U, G) I' := by
  obtain ⟨a1, a2, a3, a4, a5, a6, a7, a8⟩ := h
  exact ⟨by rw [he 150 14 (by omega)]; exact a1, FS_cg a2 (fun i _ => he 153 i (by omega)), FH_cg a3 (fun i _ => he 155 i (by omega)), hs, by rw [he 150 22 (by omega)]; exact a5, fun j hj i hi => by rw [he 158 _ (by omega)]; exact a6 j hj i hi, by rw [he 150 23 (by omega)]; exact a7, fun j hj i hi => by rw [he 159 _ (by omega)]; exact a8 j hj i hi⟩
theorem in_ix {f : Int32} (hN : N < 1000) : (0 ≤ f ∧ f ≤ nI N - 1) ↔ ∃ j, j < N ∧ f = nI j := by
  rcases Nat.eq_zero_or_pos N with rfl | hp
  · constructor
    · rintro ⟨h1, h2⟩
      exfalso
      have h2 : f ≤ -1 := h2
      rw [Int32.le_iff_toInt_le] at h1 h2
      have e0 : (0 : Int32).toInt = 0 := rfl
      have e1 : (-1 : Int32).toInt = -1 := rfl
      omega
    · rintro ⟨j, hj, -⟩
      omega
  · rw [nI_p1 hp]
    constructor
    · rintro ⟨h1, h2⟩
      rw [Int32.le_iff_toInt_le] at h1 h2
      have e0 : (0 : Int32).toInt = 0 := rfl
      have e1 : (nI (N - 1)).toInt = ((N - 1 : Nat) : Int) := nI_toInt (by omega)
      exact ⟨f.toInt.toNat, by omega, nI_at (by omega) (by omega)⟩
    · rintro ⟨j, hj, rfl⟩
      rw [show (0 : Int32) = nI 0 from rfl, nI_leI (by decide) (by omega), nI_leI (by omega) (by omega)]
      omega
set_option maxRecDepth 20000 in
theorem y_isFace {f : Int32} (h14 : I 150 14 = 1) (hN : I 153 4 = nI N) (hb : N < 1000) (h1 : ∀ j, j < N → f = nI j → kr (some (.int 1)) (mk w p r I L)) (h0 : (¬ ∃ j, j < N ∧ f = nI j) → kr (some (.int 0)) (mk w p r I L)) : Ev l X uX7_isFace (d + 1) true 0 0 [.ref 150, .int f] (mk w p r I L) kr := by
  refine Ev.of (by decide) (Nat.le_of_ble_eq_true rfl) ?_
  refine Wf.gc tkX7_isFace [] ?_
  conv => whnf
  refine b2' (by show ¬ I 150 14 = 0; rw [h14]; decide) ?_
  conv => whnf
  refine ⟨4, ⟨rfl, by decide, show 4 < 202 by decide⟩, ?_⟩
  conv => whnf
  show Ev l X uX7_in d true 0 0 [.int f, .int 0, .int (I 153 4 - 1)] (mk w p r I L) _
  rw [hN]
  refine y_in (fun z1 z2 => ?_) (fun z => ?_)
  · obtain ⟨j, hj, e⟩ := (in_ix hb).mp ⟨z1, z2⟩
    conv => whnf
    refine b2' (by decide) ?_
    conv => whnf
    exact ⟨Or.inr rfl, h1 j hj e⟩
  · rw [in_ix hb] at z
    conv => whnf
    refine b1' rfl ?_
    conv => whnf
    exact ⟨Or.inl rfl, h0 z⟩
set_option maxRecDepth 20000 in
theorem y_isCanon {f : Int32} (h14 : I 150 14 = 1) (hN : I 153 5 = nI N) (hb : N < 1000) (h1 : ∀ j, j < N → f = nI j → kr (some (.int 1)) (mk w p r I L)) (h0 : (¬ ∃ j, j < N ∧ f = nI j) → kr (some (.int 0)) (mk w p r I L)) : Ev l X uX7_isCanon (d + 1) true 0 0 [.ref 150, .int f] (mk w p r I L) kr := by
  refine Ev.of (by decide) (Nat.le_of_ble_eq_true rfl) ?_
  refine Wf.gc tkX7_isCanon [] ?_
  conv => whnf
  refine b2' (by show ¬ I 150 14 = 0; rw [h14]; decide) ?_
  conv => whnf
  refine ⟨5, ⟨rfl, by decide, show 5 < 202 by decide⟩, ?_⟩
  conv => whnf
  show Ev l X uX7_in d true 0 0 [.int f, .int 0, .int (I 153 5 - 1)] (mk w p r I L) _
  rw [hN]
  refine y_in (fun z1 z2 => ?_) (fun z => ?_)
  · obtain ⟨j, hj, e⟩ := (in_ix hb).mp ⟨z1, z2⟩
    conv => whnf
    refine b2' (by decide) ?_
    conv => whnf
    exact ⟨Or.inr rfl, h1 j hj e⟩
  · rw [in_ix hb] at z
    conv => whnf
    refine b1' rfl ?_
    conv => whnf
    exact ⟨Or.inl rfl, h0 z⟩
set_option maxRecDepth 20000 in
theorem y_isNot {v : Int32} (h : kr (some (.int 0)) (mk w p r (u2 I 150 11 v) L)) : Ev l X uX7_isNot d true 0 0 [.ref 150, .int v] (mk w p r I L) kr := by
  refine Ev.of (by decide) (Nat.le_of_ble_eq_true rfl) ?_
  refine Wf.gc tkX7_isNot [] ?_
  conv => whnf
  exact ⟨Or.inl rfl, h⟩
set_option maxRecDepth 20000 in
theorem y_canonOf {S : Rw} {f : Int32} (hN : I 153 5 = nI N) (hb : N ≤ 5) (hS : ∀ i, i < 25 → I 157 i = S i) (h : kr (some (.int (oI (cnS N S f)))) (mk w p r I L)) : Ev l X uX7_canonOf d true 0 0 [.ref 150, .int f] (mk w p r I L) kr := by
  refine Ev.of (by decide) (Nat.le_of_ble_eq_true rfl) ?_
  refine Wf.gc tkX7_canonOf [2] ?_
  conv => whnf
  refine srch (e := N) (P := fun c => decide (S (18 + c) = f)) (Wi := fun k => Wf l X uX7_canonOf d true (mC (mk w p r I L) + 0, mS (mk w p r I L) + 0) 2 [(0, .ref 150), (1, .int f), (2, .int (nI k))] [] (mk w p r I L) kr) (K := fun o => o = cnS N S f) (fun ho => ?_) (fun k hk => ⟨fun hP ho => ?_, fun hP ih => ?_⟩) 0 (Nat.zero_le _) rfl
  · refine Wf.gc tkX7_canonOf [] ?_
    conv => whnf
    refine ⟨5, ⟨rfl, by decide, show 5 < 202 by decide⟩, ?_⟩
    conv => whnf
    refine b1' (by show I 153 5 ≤ nI N; rw [hN]; exact Int32.le_refl _) ?_
    conv => whnf
    rw [← ho] at h
    exact h
  · refine Wf.gc tkX7_canonOf [] ?_
    conv => whnf
    refine ⟨5, ⟨rfl, by decide, show 5 < 202 by decide⟩, ?_⟩
    conv => whnf
    refine b2' (by show ¬ I 153 5 ≤ nI k; rw [hN, nI_leI (by omega) (by omega)]; omega) ?_
    conv => whnf
    refine ⟨18 + k, ⟨nI_add 18 k, by omega, show 18 + k < 25 by omega⟩, ?_⟩
    conv => whnf
    have hP : S (18 + k) = f := of_decide_eq_true hP
    refine b2 (fun z => z (by show I 157 (18 + k) = f; rw [hS _ (by omega)]; exact hP)) ?_
    conv => whnf
    rw [← ho] at h
    exact h
  · refine Wf.gc tkX7_canonOf [2] ?_
    conv => whnf
    refine ⟨5, ⟨rfl, by decide, show 5 < 202 by decide⟩, ?_⟩
    conv => whnf
    refine b2' (by show ¬ I 153 5 ≤ nI k; rw [hN, nI_leI (by omega) (by omega)]; omega) ?_
    conv => whnf
    refine ⟨18 + k, ⟨nI_add 18 k, by omega, show 18 + k < 25 by omega⟩, ?_⟩
    conv => whnf
    have hP : ¬ S (18 + k) = f := of_decide_eq_false hP
    refine b1 (fun z => hP (by rw [← hS _ (by omega)]; exact z)) ?_
    conv => whnf
    show Wf l X uX7_canonOf d true (mC (mk w p r I L) + 0, mS (mk w p r I L) + 0) 2 [(0, .ref 150), (1, .int f), (2, .int (nI k + 1))] [] (mk w p r I L) kr
    rw [nI_s]
    exact ih
theorem oI_ge {C : Nat} {S : Rw} {f : Int32} (hC : C ≤ 5) : 0 ≤ oI (cnS C S f) ↔ ¬ cnS C S f = none := by
  cases hq : cnS C S f with
  | none => exact ⟨fun z => absurd z (by decide), fun z => absurd rfl z⟩
  | some c =>
    have hc := (ff_lt hq).2.1
    refine ⟨(fun _ z => by cases z), fun _ => ?_⟩
    show 0 ≤ nI c
    rw [show (0 : Int32) = nI 0 from rfl, nI_leI (by decide) (by omega)]
    exact Nat.zero_le _
theorem AS7_g (h : AS7 A I) : AS7 A (u2 (u2 I 150 0 0) 150 11 0) := AS7_o h (fun x i z => by rw [u2_o (by omega), u2_o (by omega)])
theorem AS7_11 (h : AS7 A I) (v : Int32) : AS7 A (u2 I 150 11 v) := AS7_o h (fun x i z => by rw [u2_o (by omega)])
set_option maxRecDepth 20000 in
theorem y_give {c f : Int32} (hR : RA A) (hA0 : AS7 A I) (h : ∀ I', AS7 (aGive A c f).2 I' → kr (some (.int (aGive A c f).1)) (mk w p r I' L)) : Ev l X uX7_give (d + 3) true 0 0 [.ref 150, .int c, .int f] (mk w p r I L) kr := by
  obtain ⟨hF, hC⟩ := ra_FC hR
  refine Ev.of (by decide) (Nat.le_of_ble_eq_true rfl) ?_
  refine Wf.gc tkX7_give [20, 43] ?_
  conv => whnf
  refine y_good ?_
  have hA := AS7_g hA0
  generalize hH : u2 (u2 I 150 0 0) 150 11 0 = H at hA
  have eF : H 153 4 = nI (A.1.1 4) := hA.2.1.1 4 (by decide) (by decide)
  have eC : H 153 5 = nI (A.1.1 5) := hA.2.1.1 5 (by decide) (by decide)
  have h14 : H 150 14 = 1 := hA.1
  have no : ∀ v : Int32, aGive A c f = (-1, A) → kr (some (.int (-1))) (mk w p r (u2 H 150 11 v) L) := by
    intro v e
    rw [e] at h
    exact h _ (AS7_11 hA v)
  have n20 : aGive A c f = (-1, A) → Wf l X uX7_give (d + 3) true (mC (mk w p r I L) + 0, mS (mk w p r I L) + 0) 20 [(0, .ref 150), (1, .int c), (2, .int f)] [] (mk w p r H L) kr := by
    intro e
    refine Wf.gc tkX7_give [] ?_
    conv => whnf
    refine y_no ?_
    conv => whnf
    exact no 1 e
  have n43 : aGive A c f = (-1, A) → Wf l X uX7_give (d + 3) true (mC (mk w p r I L) + 0, mS (mk w p r I L) + 0) 43 [(0, .ref 150), (1, .int c), (2, .int f)] [] (mk w p r H L) kr := by
    intro e
    refine Wf.gc tkX7_give [] ?_
    conv => whnf
    refine y_no ?_
    conv => whnf
    exact no 5 e
  conv => whnf
  refine y_isCanon (d := d + 1) h14 eC (by omega) (fun j hj ec => ?_) (fun z => ?_)
  · conv => whnf
    refine b2' (by decide) ?_
    conv => whnf
    refine y_isFace (d := d + 1) h14 eF (by omega) (fun g hg ef => ?_) (fun z => ?_)
    · have e0 : aGive A c f = if cnS (A.1.1 5) A.2.1 f = none ∧ ¬ A.2.1 g = 0 then (A.2.1 (18 + j), (A.1, uR A.2.1 (18 + j) f, psh A.2.2.1 A.2.1, A.2.2.2)) else (-1, A) := by
        unfold aGive
        rw [show ixO (A.1.1 5) c = some j by rw [ec]; exact ixO_some hj (by omega), show ixO (A.1.1 4) f = some g by rw [ef]; exact ixO_some hg (by omega)]
      conv => whnf
      refine b1 (by decide) ?_
      conv => whnf
      refine y_canonOf eC hC hA.2.2.2.1 ?_
      conv => whnf
      refine ⟨fun z => ?_, fun z => ?_⟩
      · have z : 0 ≤ oI (cnS (A.1.1 5) A.2.1 f) := z
        rw [oI_ge hC] at z
        conv => whnf
        exact n43 (by rw [e0, if_neg (fun y => z y.1)])
      · have z : ¬ 0 ≤ oI (cnS (A.1.1 5) A.2.1 f) := z
        rw [oI_ge hC, Decidable.not_not] at z
        have sg : H 157 g = A.2.1 g := hA.2.2.2.1 g (by omega)
        conv => whnf
        rw [ef]
        refine ⟨g, ⟨rfl, by omega, show g < 25 by omega⟩, ?_⟩
        conv => whnf
        refine ⟨fun y => ?_, fun y => ?_⟩
        · have y : ¬ H 157 g = 0 := y
          rw [sg] at y
          rw [e0, if_pos ⟨z, y⟩] at h
          conv => whnf
          refine y_note (d := d + 1) hR hA (fun J jo hJ => ?_)
          have j18 : J 157 (18 + j) = A.2.1 (18 + j) := hJ.2.2.2.1 _ (by omega)
          conv => whnf
          rw [ec]
          refine ⟨18 + j, ⟨nI_add 18 j, by omega, show 18 + j < 25 by omega⟩, ?_⟩
          conv => whnf
          refine ⟨18 + j, ⟨nI_add 18 j, by omega, show 18 + j < 25 by omega⟩, ?_⟩
          conv => whnf
          show kr (some (.int (J 157 (18 + j)))) (mk w p r (u2 J 157 (18 + j) (nI g)) L)
          rw [j18]
          refine h _ (AS7_st hJ (fun x i z => u2_o (by omega)) (fun i hi => ?_))
          by_cases e : i = 18 + j
          · subst e
            rw [u2_s, uR_s, ef]
          · rw [u2_o (by omega), uR_o e]
            exact hJ.2.2.2.1 i hi
        · have y : H 157 g = 0 := y
          rw [sg] at y
          conv => whnf
          have q := n43 (by rw [e0, if_neg (fun y' => y'.2 y)])
          rw [ef] at q
          exact q
    · conv => whnf
      refine b2 (fun z => z rfl) ?_
      conv => whnf
      refine n20 ?_
      unfold aGive
      rw [show ixO (A.1.1 4) f = none from ixO_none (by omega) z]
      split <;> simp_all
  · conv => whnf
    refine b1' rfl ?_
    conv => whnf
    refine n20 ?_
    unfold aGive
    rw [show ixO (A.1.1 5) c = none from ixO_none (by omega) z]
end RAC
end
section
section RAC2
variable {l : Launch} {X : Nat × (Nat → Int32)} {d : Nat} {w : Nat × Nat} {p r : Nat} {I I' : Nat → Nat → Int32} {L : Nat → Nat → Int64} {kr : KR} {A : Ast} {N : Nat}
theorem c11 (g : Nat) : (11 + 4 * nI g + 1 : Int32) = nI (12 + 4 * g) := by
  rw [show (4 : Int32) * nI g = nI (4 * g) from nI_mul 4 g, show (11 : Int32) + nI (4 * g) = nI (11 + 4 * g) from nI_add 11 (4 * g), nI_s]
  rw [show 11 + 4 * g + 1 = 12 + 4 * g by omega]
set_option maxRecDepth 20000 in
theorem y_mend {f : Int32} (hR : RA A) (hA0 : AS7 A I) (h : ∀ I', AS7 (aMend A f).2 I' → kr (some (.int (aMend A f).1)) (mk w p r I' L)) : Ev l X uX7_mend (d + 3) true 0 0 [.ref 150, .int f] (mk w p r I L) kr := by
  obtain ⟨hF, hC⟩ := ra_FC hR
  refine Ev.of (by decide) (Nat.le_of_ble_eq_true rfl) ?_
  refine Wf.gc tkX7_mend [63, 69] ?_
  conv => whnf
  refine y_good ?_
  have hA := AS7_g hA0
  generalize hH : u2 (u2 I 150 0 0) 150 11 0 = H at hA
  have eF : H 153 4 = nI (A.1.1 4) := hA.2.1.1 4 (by decide) (by decide)
  have h14 : H 150 14 = 1 := hA.1
  conv => whnf
  refine y_isFace (d := d + 1) h14 eF (by omega) (fun g hg ef => ?_) (fun z => ?_)
  · have e0 : aMend A f = if A.2.1 g = 0 ∨ (A.2.1 g = nI (A.1.1 (12 + 4 * g)) ∧ A.2.1 (6 + g) = 0) then (0, A) else (1, (A.1, uR (uR A.2.1 g (nI (A.1.1 (12 + 4 * g)))) (6 + g) 0, psh A.2.2.1 A.2.1, A.2.2.2)) := by
      unfold aMend
      rw [show ixO (A.1.1 4) f = some g by rw [ef]; exact ixO_some hg (by omega)]
    have sg : H 157 g = A.2.1 g := hA.2.2.2.1 g (by omega)
    have sb' : H 157 (6 + g) = A.2.1 (6 + g) := hA.2.2.2.1 (6 + g) (by omega)
    have hh : H 153 (12 + 4 * g) = nI (A.1.1 (12 + 4 * g)) := hA.2.1.1 _ (by omega) (by omega)
    have n63 : (A.2.1 g = 0 ∨ (A.2.1 g = nI (A.1.1 (12 + 4 * g)) ∧ A.2.1 (6 + g) = 0)) → Wf l X uX7_mend (d + 3) true (mC (mk w p r I L) + 0, mS (mk w p r I L) + 0) 63 [(0, .ref 150), (1, .int (nI g)), (2, .int (nI (A.1.1 (12 + 4 * g))))] [] (mk w p r H L) kr := by
      intro z
      rw [e0, if_pos z] at h
      refine Wf.gc tkX7_mend [] ?_
      conv => whnf
      refine y_isNot ?_
      conv => whnf
      exact ⟨Or.inl rfl, h _ (AS7_11 hA 5)⟩
    have n69 : ¬ (A.2.1 g = 0 ∨ (A.2.1 g = nI (A.1.1 (12 + 4 * g)) ∧ A.2.1 (6 + g) = 0)) → Wf l X uX7_mend (d + 3) true (mC (mk w p r I L) + 0, mS (mk w p r I L) + 0) 69 [(0, .ref 150), (1, .int (nI g)), (2, .int (nI (A.1.1 (12 + 4 * g))))] [] (mk w p r H L) kr := by
      intro z
      rw [e0, if_neg z] at h
      refine Wf.gc tkX7_mend [] ?_
      conv => whnf
      refine y_note (d := d + 1) hR hA (fun J jo hJ => ?_)
      conv => whnf
      refine ⟨g, ⟨rfl, by omega, show g < 25 by omega⟩, ?_⟩
      conv => whnf
      refine ⟨6 + g, ⟨nI_add 6 g, by omega, show 6 + g < 25 by omega⟩, ?_⟩
      conv => whnf
      refine ⟨Or.inr rfl, ?_⟩
      refine h _ (AS7_st hJ (I' := u2 (u2 J 157 g (nI (A.1.1 (12 + 4 * g)))) 157 (6 + g) 0) (fun x i z => by rw [u2_o (by omega), u2_o (by omega)]) (fun i hi => ?_))
      by_cases e : i = 6 + g
      · subst e
        rw [u2_s, uR_s]
      · rw [u2_o (by omega), uR_o e]
        by_cases e2 : i = g
        · subst e2
          rw [u2_s, uR_s]
        · rw [u2_o (by omega), uR_o e2]
          exact hJ.2.2.2.1 i hi
    rw [ef]
    conv => whnf
    refine b1 (by decide) ?_
    conv => whnf
    refine ⟨12 + 4 * g, ⟨c11 g, by omega, show 12 + 4 * g < 202 by omega⟩, ?_⟩
    conv => whnf
    refine ⟨g, ⟨rfl, by omega, show g < 25 by omega⟩, ?_⟩
    conv => whnf
    refine ⟨fun y => ?_, fun y => ?_⟩
    · have y : H 157 g = 0 := y
      rw [sg] at y
      conv => whnf
      have q := n63 (Or.inl y)
      rw [← hh] at q
      exact q
    · have y : ¬ H 157 g = 0 := y
      rw [sg] at y
      conv => whnf
      refine ⟨g, ⟨rfl, by omega, show g < 25 by omega⟩, ?_⟩
      conv => whnf
      refine ⟨fun y2 => ?_, fun y2 => ?_⟩
      · have y2 : ¬ H 157 g = H 153 (12 + 4 * g) := y2
        rw [sg, hh] at y2
        conv => whnf
        have q := n69 (fun z => z.elim y (fun z => y2 z.1))
        rw [← hh] at q
        exact q
      · have y2 : H 157 g = H 153 (12 + 4 * g) := y2
        rw [sg, hh] at y2
        conv => whnf
        refine ⟨6 + g, ⟨nI_add 6 g, by omega, show 6 + g < 25 by omega⟩, ?_⟩
        conv => whnf
        refine ⟨fun y3 => ?_, fun y3 => ?_⟩
        · have y3 : ¬ H 157 (6 + g) = 0 := y3
          rw [sb'] at y3
          conv => whnf
          have q := n69 (fun z => z.elim y (fun z => y3 z.2))
          rw [← hh] at q
          exact q
        · have y3 : H 157 (6 + g) = 0 := y3
          rw [sb'] at y3
          conv => whnf
          have q := n63 (Or.inr ⟨y2, y3⟩)
          rw [← hh] at q
          exact q
  · have e0 : aMend A f = (0, A) := by
      unfold aMend
      rw [show ixO (A.1.1 4) f = none from ixO_none (by omega) z]
    rw [e0] at h
    conv => whnf
    refine b2 (fun z => z rfl) ?_
    conv => whnf
    refine y_isNot ?_
    conv => whnf
    exact ⟨Or.inl rfl, h _ (AS7_11 hA 1)⟩
set_option maxRecDepth 20000 in
theorem y_undo (hR : RA A) (hA0 : AS7 A I) (h : ∀ I', AS7 (aUndo A).2 I' → kr (some (.int (aUndo A).1)) (mk w p r I' L)) : Ev l X uX7_undo (d + 1) true 0 0 [.ref 150] (mk w p r I L) kr := by
  have h16 := hR.2.1.1
  refine Ev.of (by decide) (Nat.le_of_ble_eq_true rfl) ?_
  refine Wf.gc tkX7_undo [] ?_
  conv => whnf
  refine y_good ?_
  have hA := AS7_g hA0
  generalize hH : u2 (u2 I 150 0 0) 150 11 0 = H at hA
  have e22 : H 150 22 = nI A.2.2.1.length := hA.2.2.2.2.1
  unfold aUndo at h
  conv => whnf
  refine ⟨fun z => ?_, fun z => ?_⟩
  · have z : ¬ H 150 22 = 0 := z
    have hk : 0 < A.2.2.1.length := by
      rcases Nat.eq_zero_or_pos A.2.2.1.length with y | y
      · rw [e22, y] at z; exact absurd rfl z
      · exact y
    rw [if_neg (by omega)] at h
    conv => whnf
    show Ev l X uX7_copy d true 0 0 [.ref 158, .int (25 * u2 H 150 22 (H 150 22 - 1) 150 22), .ref 157, .int (nI 0), .int 25] (mk w p r (u2 H 150 22 (H 150 22 - 1)) L) _
    rw [u2_s, e22, nI_p1 hk, show (25 : Int32) * nI (A.2.2.1.length - 1) = nI (25 * (A.2.2.1.length - 1)) from nI_mul 25 _]
    refine y_cp_158_157 (s := 25 * (A.2.2.1.length - 1)) (t := 0) (by omega) (by decide) (fun K k1 k2 => ?_)
    conv => whnf
    refine ⟨Or.inr rfl, ?_⟩
    have ld : A.2.2.1.dropLast.length = A.2.2.1.length - 1 := List.length_dropLast
    have o : ∀ x i, ¬ (x = 157 ∧ i < 25) → ¬ (x = 150 ∧ i = 22) → K x i = H x i := fun x i z1 z2 => by rw [k1 x i (by omega), u2_o z2]
    obtain ⟨a1, a2, a3, a4, a5, a6, a7, a8⟩ := hA
    refine h _ ⟨by rw [o 150 14 (by omega) (by omega)]; exact a1, FS_cg a2 (fun i _ => o 153 i (by omega) (by omega)), FH_cg a3 (fun i _ => o 155 i (by omega) (by omega)), fun i hi => ?_, ?_, fun j hj i hi => ?_, by rw [o 150 23 (by omega) (by omega)]; exact a7, fun j hj i hi => by rw [o 159 _ (by omega) (by omega)]; exact a8 j hj i hi⟩
    · have q := k2 i hi
      rw [Nat.zero_add] at q
      rw [q, u2_o (by omega)]
      exact a6 _ (by omega) i hi
    · rw [k1 150 22 (by omega), u2_s]
      show _ = nI A.2.2.1.dropLast.length
      rw [ld]
    · have hj : j < A.2.2.1.dropLast.length := hj
      show K 158 (25 * j + i) = rD A.2.2.1.dropLast j i
      rw [ld] at hj
      rw [rD_dl hj, o 158 _ (by omega) (by omega)]
      exact a6 j (by omega) i hi
  · have z : H 150 22 = 0 := z
    have hk : A.2.2.1.length = 0 := by
      rw [e22] at z
      exact (nI_eq (by omega) (by decide)).mp (z.trans (show (0 : Int32) = nI 0 from rfl))
    rw [if_pos hk] at h
    conv => whnf
    refine y_isNot ?_
    conv => whnf
    exact ⟨Or.inl rfl, h _ (AS7_11 hA 6)⟩
set_option maxRecDepth 20000 in
theorem y_image (hR : RA A) (hA0 : AS7 A I) (h : ∀ I', AS7 (aImage A).2 I' → kr (some (.int (aImage A).1)) (mk w p r I' L)) : Ev l X uX7_image (d + 1) true 0 0 [.ref 150] (mk w p r I L) kr := by
  have h3 := hR.2.1.2
  refine Ev.of (by decide) (Nat.le_of_ble_eq_true rfl) ?_
  refine Wf.gc tkX7_image [] ?_
  conv => whnf
  refine y_good ?_
  have hA := AS7_g hA0
  generalize hH : u2 (u2 I 150 0 0) 150 11 0 = H at hA
  have e23 : H 150 23 = nI A.2.2.2.length := hA.2.2.2.2.2.2.1
  have h14 : H 150 14 = 1 := hA.1
  unfold aImage at h
  conv => whnf
  refine b1 (by show ¬ H 150 14 = 0; rw [h14]; decide) ?_
  conv => whnf
  refine ⟨fun z => ?_, fun z => ?_⟩
  · have z : ¬ H 150 23 = 3 := z
    have hk : A.2.2.2.length < 3 := by
      rcases Nat.lt_or_ge A.2.2.2.length 3 with y | y
      · exact y
      · exfalso
        apply z
        rw [e23, show A.2.2.2.length = 3 by omega]
        rfl
    rw [if_pos hk] at h
    conv => whnf
    show Ev l X uX7_copy d true 0 0 [.ref 157, .int (nI 0), .ref 159, .int (25 * H 150 23), .int 25] (mk w p r H L) _
    rw [e23, show (25 : Int32) * nI A.2.2.2.length = nI (25 * A.2.2.2.length) from nI_mul 25 _]
    refine y_cp_157_159 (s := 0) (t := 25 * A.2.2.2.length) (by decide) (by omega) (fun K k1 k2 => ?_)
    have k23 : K 150 23 = nI A.2.2.2.length := (k1 150 23 (by omega)).trans e23
    conv => whnf
    show kr (some (.int (u2 K 150 23 (K 150 23 + 1) 150 23 - 1))) (mk w p r (u2 K 150 23 (K 150 23 + 1)) L)
    rw [u2_s, k23, nI_s, nI_p1 (by omega), Nat.add_sub_cancel]
    have lg : (A.2.2.2 ++ [A.2.1]).length = A.2.2.2.length + 1 := List.length_append
    have o : ∀ x i, x ≠ 159 → ¬ (x = 150 ∧ i = 23) → u2 K 150 23 (nI (A.2.2.2.length + 1)) x i = H x i := fun x i z1 z2 => by rw [u2_o z2]; exact k1 x i (by omega)
    obtain ⟨a1, a2, a3, a4, a5, a6, a7, a8⟩ := hA
    refine h _ ⟨by rw [o 150 14 (by omega) (by omega)]; exact a1, FS_cg a2 (fun i _ => o 153 i (by omega) (by omega)), FH_cg a3 (fun i _ => o 155 i (by omega) (by omega)), fun i hi => by rw [o 157 i (by omega) (by omega)]; exact a4 i hi, by rw [o 150 22 (by omega) (by omega)]; exact a5, fun j hj i hi => by rw [o 158 _ (by omega) (by omega)]; exact a6 j hj i hi, by rw [u2_s]; show _ = nI (A.2.2.2 ++ [A.2.1]).length; rw [lg], fun j hj i hi => ?_⟩
    have hj : j < (A.2.2.2 ++ [A.2.1]).length := hj
    rw [lg] at hj
    show u2 K 150 23 (nI (A.2.2.2.length + 1)) 159 (25 * j + i) = rD (A.2.2.2 ++ [A.2.1]) j i
    rw [u2_o (by omega)]
    by_cases e : j = A.2.2.2.length
    · rw [rD_l e, e, k2 i hi, Nat.zero_add]
      exact a4 i hi
    · rw [rD_a (by omega), k1 159 _ (by omega)]
      exact a8 j (by omega) i hi
  · have z : H 150 23 = 3 := z
    have hk : ¬ A.2.2.2.length < 3 := by
      rw [e23] at z
      have := (nI_eq (by omega) (by decide)).mp (z.trans (show (3 : Int32) = nI 3 from rfl))
      omega
    rw [if_neg hk] at h
    conv => whnf
    refine y_no ?_
    conv => whnf
    exact h _ (AS7_11 hA 3)
set_option maxRecDepth 20000 in
theorem y_back {i : Int32} (hR : RA A) (hA0 : AS7 A I) (h : ∀ I', AS7 (aBack A i).2 I' → kr (some (.int (aBack A i).1)) (mk w p r I' L)) : Ev l X uX7_back (d + 1) true 0 0 [.ref 150, .int i] (mk w p r I L) kr := by
  have h3 := hR.2.1.2
  refine Ev.of (by decide) (Nat.le_of_ble_eq_true rfl) ?_
  refine Wf.gc tkX7_back [] ?_
  conv => whnf
  refine y_good ?_
  have hA := AS7_g hA0
  generalize hH : u2 (u2 I 150 0 0) 150 11 0 = H at hA
  have e23 : H 150 23 = nI A.2.2.2.length := hA.2.2.2.2.2.2.1
  conv => whnf
  show Ev l X uX7_in d true 0 0 [.int i, .int 0, .int (H 150 23 - 1)] (mk w p r H L) _
  rw [e23]
  refine y_in (fun z1 z2 => ?_) (fun z => ?_)
  · obtain ⟨j, hj, e⟩ := (in_ix (by omega)).mp ⟨z1, z2⟩
    subst e
    have e0 : aBack A (nI j) = (1, (A.1, rD A.2.2.2 j, [], A.2.2.2)) := by
      unfold aBack
      rw [ixO_some hj (by omega)]
    rw [e0] at h
    conv => whnf
    refine b1 (by decide) ?_
    conv => whnf
    show Ev l X uX7_copy d true 0 0 [.ref 159, .int (25 * nI j), .ref 157, .int (nI 0), .int 25] (mk w p r H L) _
    rw [show (25 : Int32) * nI j = nI (25 * j) from nI_mul 25 j]
    refine y_cp_159_157 (s := 25 * j) (t := 0) (by omega) (by decide) (fun K k1 k2 => ?_)
    conv => whnf
    refine ⟨Or.inr rfl, ?_⟩
    show kr (some (.int 1)) (mk w p r (u2 K 150 22 0) L)
    have o : ∀ x i, x ≠ 157 → ¬ (x = 150 ∧ i = 22) → u2 K 150 22 0 x i = H x i := fun x i z1 z2 => by rw [u2_o z2]; exact k1 x i (by omega)
    obtain ⟨a1, a2, a3, a4, a5, a6, a7, a8⟩ := hA
    refine h _ ⟨by rw [o 150 14 (by omega) (by omega)]; exact a1, FS_cg a2 (fun i _ => o 153 i (by omega) (by omega)), FH_cg a3 (fun i _ => o 155 i (by omega) (by omega)), fun i hi => ?_, u2_s, fun k hk => absurd hk (Nat.not_lt_zero _), by rw [o 150 23 (by omega) (by omega)]; exact a7, fun k hk i hi => by rw [o 159 _ (by omega) (by omega)]; exact a8 k hk i hi⟩
    have q := k2 i hi
    rw [Nat.zero_add] at q
    rw [u2_o (by omega), q]
    exact a8 j hj i hi
  · rw [in_ix (by omega)] at z
    have e0 : aBack A i = (0, A) := by
      unfold aBack
      rw [show ixO A.2.2.2.length i = none from ixO_none (by omega) z]
    rw [e0] at h
    conv => whnf
    refine b2 (fun z => z rfl) ?_
    conv => whnf
    refine y_isNot ?_
    conv => whnf
    exact ⟨Or.inl rfl, h _ (AS7_11 hA 1)⟩
end RAC2
end
section
section RAC3
variable {l : Launch} {X : Nat × (Nat → Int32)} {d : Nat} {w : Nat × Nat} {p r : Nat} {I I' : Nat → Nat → Int32} {L : Nat → Nat → Int64} {kr : KR} {A : Ast} {N : Nat}
set_option maxRecDepth 20000 in
theorem y_vex {f m : Int32} (hR : RA A) (hA0 : AS7 A I) (h : ∀ I', AS7 (aVex A f m).2 I' → kr (some (.int (aVex A f m).1)) (mk w p r I' L)) : Ev l X uX7_vex (d + 3) true 0 0 [.ref 150, .int f, .int m] (mk w p r I L) kr := by
  obtain ⟨hF, hC⟩ := ra_FC hR
  refine Ev.of (by decide) (Nat.le_of_ble_eq_true rfl) ?_
  refine Wf.gc tkX7_vex [20, 61] ?_
  conv => whnf
  refine y_good ?_
  have hA := AS7_g hA0
  generalize hH : u2 (u2 I 150 0 0) 150 11 0 = H at hA
  have eF : H 153 4 = nI (A.1.1 4) := hA.2.1.1 4 (by decide) (by decide)
  have h14 : H 150 14 = 1 := hA.1
  have no61 : ∀ v : Int32, ¬ v = 0 → aVex A f m = (-1, A) → Wf l X uX7_vex (d + 3) true (mC (mk w p r I L) + 0, mS (mk w p r I L) + 0) 61 [(0, .ref 150), (1, .int f), (2, .int m), (3, .int v)] [] (mk w p r H L) kr := by
    intro v hv e
    rw [e] at h
    refine Wf.gc tkX7_vex [] ?_
    conv => whnf
    refine b2' hv ?_
    conv => whnf
    refine y_no ?_
    conv => whnf
    exact h _ (AS7_11 hA v)
  have n20 : ∀ v : Int32, ¬ v = 0 → aVex A f m = (-1, A) → Wf l X uX7_vex (d + 3) true (mC (mk w p r I L) + 0, mS (mk w p r I L) + 0) 20 [(0, .ref 150), (1, .int f), (2, .int m)] [.int v] (mk w p r H L) kr := by
    intro v hv e
    refine Wf.gc tkX7_vex [61] ?_
    conv => whnf
    refine ⟨fun _ => ?_, fun z => absurd z hv⟩
    conv => whnf
    exact no61 v hv e
  have whf : ∀ b : Bool, aVex A f m = (-1, A) → Ev l X uX7_why (d + 2) true 0 0 [.ref 150, .int (bI false), .int (bI b)] (mk w p r H L) (fun r_1 M' => Wf l X uX7_vex (d + 3) true (mC (mk w p r I L) + 0, mS (mk w p r I L) + 0) 20 [(0, .ref 150), (1, .int f), (2, .int m)] (r_1.toList ++ []) M' kr) := by
    intro b e
    refine y_why ?_
    exact n20 1 (by decide) e
  conv => whnf
  refine y_isFace (d := d + 1) h14 eF (by omega) (fun g hg ef => ?_) (fun z => ?_)
  · have e0 : aVex A f m = if (1 ≤ m ∧ m ≤ 99) ∧ ¬ A.2.1 g = 0 ∧ A.2.1 (6 + g) + m ≤ 999 then (A.2.1 (6 + g) + m, (A.1, uR A.2.1 (6 + g) (A.2.1 (6 + g) + m), psh A.2.2.1 A.2.1, A.2.2.2)) else (-1, A) := by
      unfold aVex
      rw [show ixO (A.1.1 4) f = some g by rw [ef]; exact ixO_some hg (by omega)]
    have sg : H 157 g = A.2.1 g := hA.2.2.2.1 g (by omega)
    have sb' : H 157 (6 + g) = A.2.1 (6 + g) := hA.2.2.2.1 (6 + g) (by omega)
    conv => whnf
    refine y_in (fun c1 c2 => ?_) (fun c1 => ?_)
    · conv => whnf
      refine y_why (a := true) (b := true) ?_
      show Wf l X uX7_vex (d + 3) true (mC (mk w p r I L) + 0, mS (mk w p r I L) + 0) 20 [(0, .ref 150), (1, .int f), (2, .int m)] [.int 0] (mk w p r H L) kr
      refine Wf.gc tkX7_vex [60] ?_
      have s60 : ∀ v : Int32, (v = 0 → ¬ A.2.1 g = 0 ∧ A.2.1 (6 + g) + m ≤ 999) → (¬ v = 0 → aVex A f m = (-1, A)) → Wf l X uX7_vex (d + 3) true (mC (mk w p r I L) + 0, mS (mk w p r I L) + 0) 60 [(0, .ref 150), (1, .int f), (2, .int m), (3, .int 0)] [.int v] (mk w p r H L) kr := by
        intro v hv1 hv2
        refine Wf.gc tkX7_vex [61] ?_
        conv => whnf
        by_cases hv : v = 0
        · subst hv
          obtain ⟨y1, y2⟩ := hv1 rfl
          rw [e0, if_pos ⟨⟨c1, c2⟩, y1, y2⟩] at h
          refine Wf.gc tkX7_vex [] ?_
          conv => whnf
          refine b1' rfl ?_
          conv => whnf
          refine y_note (d := d + 1) hR hA (fun J jo hJ => ?_)
          have j6 : J 157 (6 + g) = A.2.1 (6 + g) := hJ.2.2.2.1 _ (by omega)
          conv => whnf
          rw [ef]
          refine ⟨6 + g, ⟨nI_add 6 g, by omega, show 6 + g < 25 by omega⟩, ?_⟩
          conv => whnf
          refine ⟨6 + g, ⟨nI_add 6 g, by omega, show 6 + g < 25 by omega⟩, ?_⟩
          conv => whnf
          refine ⟨6 + g, ⟨nI_add 6 g, by omega, show 6 + g < 25 by omega⟩, ?_⟩
          conv => whnf
          show kr (some (.int (u2 J 157 (6 + g) (J 157 (6 + g) + m) 157 (6 + g)))) (mk w p r (u2 J 157 (6 + g) (J 157 (6 + g) + m)) L)
          rw [u2_s, j6]
          refine h _ (AS7_st hJ (fun x i z => u2_o (by omega)) (fun i hi => ?_))
          by_cases e : i = 6 + g
          · subst e
            rw [u2_s, uR_s]
          · rw [u2_o (by omega), uR_o e]
            exact hJ.2.2.2.1 i hi
        · exact no61 v hv (hv2 hv)
      conv => whnf
      refine b2 (fun z => z rfl) ?_
      conv => whnf
      rw [ef]
      refine ⟨g, ⟨rfl, by omega, show g < 25 by omega⟩, ?_⟩
      conv => whnf
      refine ⟨fun y => ?_, fun y => ?_⟩
      · have y : ¬ H 157 g = 0 := y
        rw [sg] at y
        conv => whnf
        refine ⟨6 + g, ⟨nI_add 6 g, by omega, show 6 + g < 25 by omega⟩, ?_⟩
        conv => whnf
        refine ⟨fun y2 => ?_, fun y2 => ?_⟩
        · have y2 : H 157 (6 + g) + m ≤ 999 := y2
          rw [sb'] at y2
          conv => whnf
          have q := s60 0 (fun _ => ⟨y, y2⟩) (fun z => absurd rfl z)
          rw [ef] at q
          exact q
        · have y2 : ¬ H 157 (6 + g) + m ≤ 999 := y2
          rw [sb'] at y2
          conv => whnf
          have q := s60 3 (fun z => absurd z (by decide)) (fun _ => by rw [e0, if_neg (fun z => y2 z.2.2)])
          rw [ef] at q
          exact q
      · have y : H 157 g = 0 := y
        rw [sg] at y
        conv => whnf
        have q := s60 5 (fun z => absurd z (by decide)) (fun _ => by rw [e0, if_neg (fun z => z.2.1 y)])
        rw [ef] at q
        exact q
    · conv => whnf
      refine y_why (a := true) (b := false) ?_
      exact n20 2 (by decide) (by rw [e0, if_neg (fun z => c1 z.1)])
  · have e0 : aVex A f m = (-1, A) := by
      unfold aVex
      rw [show ixO (A.1.1 4) f = none from ixO_none (by omega) z]
    conv => whnf
    refine y_in (fun c1 c2 => ?_) (fun c1 => ?_)
    · conv => whnf
      exact whf true e0
    · conv => whnf
      exact whf false e0
end RAC3
end
section
/-! the plain row of a day that comes, calm or not, so vexed -/
section GRW
/-- a row's bounds, whatever its day -/
noncomputable def RIg (P : Ps) (S : Rw) : Prop := (∀ f, f < P.1 4 → ∃ h, h ≤ 99 ∧ S f = nI h) ∧ (∀ c, c < P.1 5 → ∃ j, j < P.1 4 ∧ S (18 + c) = nI j) ∧ (∀ c c', c < c' → c' < P.1 5 → S (18 + c) ≠ S (18 + c')) ∧ True
theorem RI.g {P : Ps} {S : Rw} (h : RI P S) : RIg P S := ⟨h.1, h.2.1, h.2.2.1, trivial⟩
noncomputable def vxG (V : Nat → Int32) : Option Nat → Int32
  | none => 0
  | some c => V c
noncomputable def gK (P : Ps) (f : Nat) : Int32 := nI (P.1 (11 + 4 * f))
noncomputable def gWr (P : Ps) (f : Nat) : Int32 := nI (P.1 (13 + 4 * f))
noncomputable def gO (P : Ps) (S : Rw) (f : Nat) : Option Nat := cnS (P.1 5) S (nI f)
noncomputable def gF (P : Ps) (V : Nat → Int32) (calm : Bool) (S : Rw) (f : Nat) : Fc := cSt (gK P f) (gWr P f) (vxG V (gO P S f)) (evP P (gO P S f)) calm (S 23, S f, S (6 + f), S (12 + f))
noncomputable def gLt (P : Ps) (V : Nat → Int32) (calm : Bool) (S : Rw) (f : Nat) : Bool := cLt (gK P f) (vxG V (gO P S f)) (evP P (gO P S f)) calm (S 23, S f, S (6 + f), S (12 + f))
noncomputable def gWt (P : Ps) (V : Nat → Int32) (calm : Bool) (S : Rw) : Nat → Int32
  | 0 => 0
  | n + 1 => if gLt P V calm S n = true then gWt P V calm S n ||| ((1 : Int32) <<< (nI (P.1 (14 + 4 * n)) &&& 31)) else gWt P V calm S n
noncomputable def gR (P : Ps) (V : Nat → Int32) (calm : Bool) (S : Rw) : Rw := fun i => if i < P.1 4 then (gF P V calm S i).2.1 else if 6 ≤ i ∧ i < 6 + P.1 4 then (gF P V calm S (i - 6)).2.2.1 else if 12 ≤ i ∧ i < 12 + P.1 4 then (gF P V calm S (i - 12)).2.2.2 else if i = 23 then S 23 + 1 else if i = 24 then gWt P V calm S (P.1 4) else S i
noncomputable def vx0 (P : Ps) : Nat → Int32 := fun c => nI (P.1 (35 + 2 * c))
theorem cSt_d (k w v e : Int32) (calm : Bool) (n h b d : Int32) : cSt k w v e calm (n, h, b, d) = ((cSt k w v e calm (n, h, b, 0)).1, (cSt k w v e calm (n, h, b, 0)).2.1, (cSt k w v e calm (n, h, b, 0)).2.2.1, d + (cSt k w v e calm (n, h, b, 0)).2.2.2) := by
  unfold cSt
  dsimp only
  split
  · dsimp only; rw [Int32.add_zero]
  · split
    · dsimp only; rw [Int32.add_zero]
    · split
      · dsimp only; rw [Int32.zero_add]
      · dsimp only; rw [Int32.zero_add]
theorem vx_0 (P : Ps) (o : Option Nat) : vxG (vx0 P) o = vxP P o := by cases o <;> rfl
theorem gF_0 (P : Ps) (S : Rw) (f : Nat) : gF P (vx0 P) false S f = ((nxF P S f).1, (nxF P S f).2.1, (nxF P S f).2.2.1, S (12 + f) + (nxF P S f).2.2.2) := by
  unfold gF nxF
  rw [vx_0]
  exact cSt_d _ _ _ _ _ _ _ _ _
theorem gLt_0 (P : Ps) (S : Rw) (f : Nat) : gLt P (vx0 P) false S f = ltF P S f := by
  unfold gLt ltF
  rw [vx_0]
  rfl
theorem gWt_0 (P : Ps) (S : Rw) : ∀ n, gWt P (vx0 P) false S n = wtS P S n
  | 0 => rfl
  | n + 1 => by
    show (if gLt P (vx0 P) false S n = true then _ else _) = (if ltF P S n = true then _ else _)
    rw [gLt_0, gWt_0 P S n]
theorem nR_g (P : Ps) (S : Rw) : gR P (vx0 P) false S = nR P S := by
  funext i
  unfold gR nR
  rw [gF_0, gF_0, gF_0, gWt_0]
  split
  · rfl
  · split
    · rfl
    · split
      · rename_i _ _ z
        show S (12 + (i - 12)) + _ = S i + _
        rw [show 12 + (i - 12) = i by omega]
      · rfl
/-- what a face bears once canons were vexed -/
noncomputable def gB (P : Ps) (V : Nat → Int32) (calm : Bool) (S : Rw) (f : Nat) : Int32 := if S f = 0 then S (6 + f) else cVx (vxG V (gO P S f)) (evP P (gO P S f)) calm (S 23 + 1) (S (6 + f))
noncomputable def gM1 (P : Ps) (V : Nat → Int32) (calm : Bool) (S : Rw) (i f : Nat) : Int32 := match gO P S f with
  | none => S (6 + f)
  | some c => if c < i then gB P V calm S f else S (6 + f)
noncomputable def T1 (P : Ps) (V : Nat → Int32) (calm : Bool) (S : Rw) (i : Nat) : Rw := fun j => if j = 23 then S 23 + 1 else if j = 24 then 0 else if 6 ≤ j ∧ j < 6 + P.1 4 then gM1 P V calm S i (j - 6) else S j
variable {P : Ps} {V : Nat → Int32} {calm : Bool} {S : Rw} {i g f : Nat}
theorem gO_lt {c : Nat} (h : gO P S f = some c) : c < P.1 5 ∧ S (18 + c) = nI f := by
  have := ff_lt h
  exact ⟨by omega, of_decide_eq_true this.2.2⟩
theorem gO_of (hS : RIg P S) (hi : i < P.1 5) (hg : S (18 + i) = nI g) : gO P S g = some i := by
  cases hq : gO P S g with
  | none =>
    have := ff_none (P := fun c => decide (S (18 + c) = nI g)) hq i (Nat.zero_le _) (by omega)
    rw [decide_eq_true hg] at this
    cases this
  | some c =>
    obtain ⟨c1, c2⟩ := gO_lt hq
    rcases Nat.lt_trichotomy c i with z | z | z
    · exact absurd (c2.trans hg.symm) (hS.2.2.1 c i z hi)
    · rw [z]
    · exact absurd (hg.trans c2.symm) (hS.2.2.1 i c z c1)
theorem gM1_o (h : gO P S f ≠ some i) : gM1 P V calm S (i + 1) f = gM1 P V calm S i f := by
  unfold gM1
  cases hq : gO P S f with
  | none => rfl
  | some c =>
    have hc : c ≠ i := fun z => h (by rw [hq, z])
    by_cases z : c < i
    · show (if c < i + 1 then _ else _) = (if c < i then _ else _)
      rw [if_pos z, if_pos (by omega)]
    · show (if c < i + 1 then _ else _) = (if c < i then _ else _)
      rw [if_neg z, if_neg (by omega)]
theorem gM1_n (h : gO P S f = some i) : gM1 P V calm S i f = S (6 + f) := by
  unfold gM1
  rw [h]
  exact if_neg (Nat.lt_irrefl _)
theorem gM1_s (h : gO P S f = some i) : gM1 P V calm S (i + 1) f = gB P V calm S f := by
  unfold gM1
  rw [h]
  exact if_pos (Nat.lt_succ_self _)
theorem T1_s (hF : P.1 4 ≤ 6) (hS : RIg P S) (hi : i < P.1 5) (hgF : g < P.1 4) (hg : S (18 + i) = nI g) : T1 P V calm S (i + 1) = uR (T1 P V calm S i) (6 + g) (gB P V calm S g) := by
  have hO := gO_of hS hi hg
  funext j
  unfold uR
  by_cases e : j = 6 + g
  · subst e
    rw [if_pos rfl]
    unfold T1
    rw [if_neg (by omega), if_neg (by omega), if_pos (by omega), Nat.add_sub_cancel_left]
    exact gM1_s hO
  · rw [if_neg e]
    unfold T1
    split
    · rfl
    · split
      · rfl
      · split
        · refine gM1_o (fun z => e ?_)
          have := (nI_eq (by omega) (by omega)).mp ((gO_lt z).2.symm.trans hg)
          omega
        · rfl
theorem T1_g (hF : P.1 4 ≤ 6) (hS : RIg P S) (hi : i < P.1 5) (hgF : g < P.1 4) (hg : S (18 + i) = nI g) : T1 P V calm S i (6 + g) = S (6 + g) := by
  unfold T1
  rw [if_neg (by omega), if_neg (by omega), if_pos (by omega), Nat.add_sub_cancel_left]
  exact gM1_n (gO_of hS hi hg)
theorem uR_id {T : Rw} {i : Nat} {v : Int32} (h : T i = v) : uR T i v = T := by
  funext j
  unfold uR
  split
  · rename_i z; rw [z, h]
  · rfl
theorem T1_e (hF : P.1 4 ≤ 6) (hS : RIg P S) (hi : i < P.1 5) (hgF : g < P.1 4) (hg : S (18 + i) = nI g) (hB : gB P V calm S g = S (6 + g)) : T1 P V calm S (i + 1) = T1 P V calm S i := by
  rw [T1_s hF hS hi hgF hg, hB]
  exact uR_id (T1_g hF hS hi hgF hg)
noncomputable def T2 (P : Ps) (V : Nat → Int32) (calm : Bool) (S : Rw) (i : Nat) : Rw := fun j => if j < P.1 4 then (if j < i then (gF P V calm S j).2.1 else S j) else if 6 ≤ j ∧ j < 6 + P.1 4 then (if j - 6 < i then (gF P V calm S (j - 6)).2.2.1 else gB P V calm S (j - 6)) else if 12 ≤ j ∧ j < 12 + P.1 4 then (if j - 12 < i then (gF P V calm S (j - 12)).2.2.2 else S j) else if j = 23 then S 23 + 1 else if j = 24 then gWt P V calm S i else S j
theorem T12 (hF : P.1 4 ≤ 6) : T1 P V calm S (P.1 5) = T2 P V calm S 0 := by
  funext j
  unfold T1 T2
  by_cases z1 : j < P.1 4
  · rw [if_neg (by omega), if_neg (by omega), if_neg (by omega), if_pos z1, if_neg (by omega)]
  · by_cases z2 : 6 ≤ j ∧ j < 6 + P.1 4
    · rw [if_neg (by omega), if_neg (by omega), if_pos z2, if_neg z1, if_pos z2, if_neg (Nat.not_lt_zero _)]
      cases hq : gO P S (j - 6) with
      | none =>
        have e1 : gM1 P V calm S (P.1 5) (j - 6) = S (6 + (j - 6)) := by unfold gM1; rw [hq]
        rw [e1]
        unfold gB
        by_cases z : S (j - 6) = 0
        · rw [if_pos z]
        · rw [if_neg z, hq]
          unfold cVx
          exact (if_neg (fun z => absurd z.2.1 (show ¬ (0 : Int32) < 0 by decide))).symm
      | some c =>
        have e1 : gM1 P V calm S (P.1 5) (j - 6) = gB P V calm S (j - 6) := by
          unfold gM1
          rw [hq]
          exact if_pos (gO_lt hq).1
        rw [e1]
    · rw [if_neg z1, if_neg z2, if_neg z2]
      by_cases z3 : 12 ≤ j ∧ j < 12 + P.1 4
      · rw [if_neg (by omega), if_neg (by omega), if_pos z3, if_neg (Nat.not_lt_zero _)]
      · rw [if_neg z3]
        split
        · rfl
        · split
          · rfl
          · rfl
theorem T2_F : T2 P V calm S (P.1 4) = gR P V calm S := by
  funext j
  unfold T2 gR
  split
  · first | rfl | (rename_i z; rw [if_pos z])
  · split
    · rename_i _ z; rw [if_pos (by omega)]
    · split
      · rename_i _ _ z; rw [if_pos (by omega)]
      · rfl
/-- the row with face i's four places written -/
theorem T2_s (hF : P.1 4 ≤ 6) (hi : i < P.1 4) : T2 P V calm S (i + 1) = uR (uR (uR (uR (T2 P V calm S i) i (gF P V calm S i).2.1) (6 + i) (gF P V calm S i).2.2.1) (12 + i) (gF P V calm S i).2.2.2) 24 (gWt P V calm S (i + 1)) := by
  funext j
  unfold uR
  by_cases e4 : j = 24
  · subst e4
    rw [if_pos rfl]
    unfold T2
    rw [if_neg (by omega), if_neg (by omega), if_neg (by omega), if_neg (by decide), if_pos rfl]
  · rw [if_neg e4]
    by_cases e3 : j = 12 + i
    · subst e3
      rw [if_pos rfl]
      unfold T2
      rw [if_neg (by omega), if_neg (by omega), if_pos (by omega), Nat.add_sub_cancel_left, if_pos (by omega)]
    · rw [if_neg e3]
      by_cases e2 : j = 6 + i
      · subst e2
        rw [if_pos rfl]
        unfold T2
        rw [if_neg (by omega), if_pos (by omega), Nat.add_sub_cancel_left, if_pos (by omega)]
      · rw [if_neg e2]
        by_cases e1 : j = i
        · subst e1
          rw [if_pos rfl]
          unfold T2
          rw [if_pos hi, if_pos (by omega)]
        · rw [if_neg e1]
          unfold T2
          split
          · split
            · rw [if_pos (by omega)]
            · rw [if_neg (by omega)]
          · split
            · split
              · rw [if_pos (by omega)]
              · rw [if_neg (by omega)]
            · split
              · split
                · rw [if_pos (by omega)]
                · rw [if_neg (by omega)]
              · split
                · rfl
                · first | rfl | rw [if_neg e4]
theorem T2_i (hF : P.1 4 ≤ 6) (hi : i < P.1 4) : T2 P V calm S i i = S i ∧ T2 P V calm S i (6 + i) = gB P V calm S i ∧ T2 P V calm S i (12 + i) = S (12 + i) ∧ T2 P V calm S i 24 = gWt P V calm S i := by
  unfold T2
  refine ⟨?_, ?_, ?_, ?_⟩
  · rw [if_pos hi, if_neg (by omega)]
  · rw [if_neg (by omega), if_pos (by omega), Nat.add_sub_cancel_left, if_neg (by omega)]
  · rw [if_neg (by omega), if_neg (by omega), if_pos (by omega), Nat.add_sub_cancel_left, if_neg (by omega)]
  · rw [if_neg (by omega), if_neg (by omega), if_neg (by omega), if_neg (by decide), if_pos rfl]
/-- nothing is let go: the row stays -/
theorem T2_n (hF : P.1 4 ≤ 6) (hi : i < P.1 4) (hl : gLt P V calm S i = false) : T2 P V calm S (i + 1) = T2 P V calm S i := by
  obtain ⟨a1, a2, a3, a4⟩ := T2_i (V := V) (calm := calm) (S := S) hF hi
  have hl2 : S i = 0 ∨ cVx (vxG V (gO P S i)) (evP P (gO P S i)) calm (S 23 + 1) (S (6 + i)) < cLs (gK P i) (S i) := by
    by_cases z : S i = 0
    · exact Or.inl z
    · refine Or.inr ?_
      have q := of_decide_eq_false hl
      exact Decidable.not_not.mp (fun y => q ⟨z, y⟩)
  have eF : gF P V calm S i = (S 23 + 1, S i, gB P V calm S i, S (12 + i)) := by
    unfold gF cSt gB
    dsimp only
    by_cases z : S i = 0
    · rw [if_pos z, if_pos z]
    · rw [if_neg z, if_neg z, if_pos (hl2.resolve_left z)]
  have eW : gWt P V calm S (i + 1) = gWt P V calm S i := by
    show (if gLt P V calm S i = true then _ else _) = _
    rw [hl]
    rfl
  rw [T2_s hF hi, eF, eW, uR_id (i := i) a1, uR_id (i := 6 + i) a2, uR_id (i := 12 + i) a3, uR_id (i := 24) a4]
end GRW
end
section
/-! the reference's days on a row -/
section RDY
variable {l : Launch} {X : Nat × (Nat → Int32)} {d : Nat} {w : Nat × Nat} {p r : Nat} {I : Nat → Nat → Int32} {L : Nat → Nat → Int64} {kr : KR} {P : Ps} {S : Rw} {V : Nat → Int32} {calm : Bool}
noncomputable def lgo (k h b : Int32) : Int32 := if k = 0 then (if b < h then 0 else b) else if k = 1 then (if b < h then 0 else h) else (if b < 2 * h then 0 else b)
theorem i11 (f : Nat) : (11 + 4 * nI f : Int32) = nI (11 + 4 * f) := by
  rw [show (4 : Int32) * nI f = nI (4 * f) from nI_mul 4 f]
  exact nI_add 11 (4 * f)
theorem i13 (f : Nat) : (11 + 4 * nI f + 2 : Int32) = nI (13 + 4 * f) := by
  rw [i11, show (nI (11 + 4 * f) + 2 : Int32) = nI (11 + 4 * f + 2) from nI_add _ 2, show 11 + 4 * f + 2 = 13 + 4 * f by omega]
theorem i14 (f : Nat) : (11 + 4 * nI f + 3 : Int32) = nI (14 + 4 * f) := by
  rw [i11, show (nI (11 + 4 * f) + 3 : Int32) = nI (11 + 4 * f + 3) from nI_add _ 3, show 11 + 4 * f + 3 = 14 + 4 * f by omega]
theorem i35 (c : Nat) : (35 + 2 * nI c : Int32) = nI (35 + 2 * c) := by
  rw [show (2 : Int32) * nI c = nI (2 * c) from nI_mul 2 c]
  exact nI_add 35 (2 * c)
theorem i36 (c : Nat) : (35 + 2 * nI c + 1 : Int32) = nI (36 + 2 * c) := by
  rw [i35, nI_s, show 35 + 2 * c + 1 = 36 + 2 * c by omega]
set_option maxRecDepth 20000 in
/-- nobody's vexation is in doubt -/
theorem y_vexed0 {N U : Nat} {F : Nat → Nat} (hN : I 153 5 = nI N) (hb : N ≤ 5) (hU : I 153 7 = nI U) (hUb : U ≤ 4) (hF : ∀ c, c < N → I 153 (35 + 2 * c) = nI (F (35 + 2 * c))) (h : ∀ K : Nat → Nat → Int32, (∀ x i, ¬ (x = 160 ∧ i < 5) → K x i = I x i) → (∀ c, c < N → K 160 c = nI (F (35 + 2 * c))) → kr none (mk w p r K L)) : Ev l X uX7_vexedBy (d + 1) true 0 0 [.ref 150, .int 0] (mk w p r I L) kr := by
  refine Ev.of (by decide) (Nat.le_of_ble_eq_true rfl) ?_
  refine Wf.gc tkX7_vexedBy [2] ?_
  conv => whnf
  have sec : ∀ K : Nat → Nat → Int32, (∀ x i, ¬ (x = 160 ∧ i < 5) → K x i = I x i) → (∀ c, c < N → K 160 c = nI (F (35 + 2 * c))) → ∀ i, i ≤ U → Wf l X uX7_vexedBy (d + 1) true (mC (mk w p r I L) + 0, mS (mk w p r I L) + 0) 37 [(0, .ref 150), (1, .int 0), (2, .int (nI i))] [] (mk w p r K L) kr := by
    intro K k1 k2
    have kU : K 153 7 = nI U := (k1 153 7 (by omega)).trans hU
    refine down _ U ?_ ?_
    · refine Wf.gc tkX7_vexedBy [] ?_
      conv => whnf
      refine ⟨7, ⟨rfl, by decide, show 7 < 202 by decide⟩, ?_⟩
      conv => whnf
      refine b1' (by show K 153 7 ≤ nI U; rw [kU]; exact Int32.le_refl _) ?_
      conv => whnf
      exact h K k1 k2
    · intro i hi ih
      refine Wf.gc tkX7_vexedBy [37] ?_
      conv => whnf
      refine ⟨7, ⟨rfl, by decide, show 7 < 202 by decide⟩, ?_⟩
      conv => whnf
      refine b2' (by show ¬ K 153 7 ≤ nI i; rw [kU, nI_leI (by omega) (by omega)]; omega) ?_
      conv => whnf
      refine y_hasBit ?_
      rw [show isWl (0 : Int32) i = false by rcases (show i = 0 ∨ i = 1 ∨ i = 2 ∨ i = 3 by omega) with rfl | rfl | rfl | rfl <;> decide]
      conv => whnf
      refine b1' rfl ?_
      conv => whnf
      show Wf l X uX7_vexedBy (d + 1) true (mC (mk w p r I L) + 0, mS (mk w p r I L) + 0) 37 [(0, .ref 150), (1, .int 0), (2, .int (nI i + 1))] [] (mk w p r K L) kr
      rw [nI_s]
      exact ih
  refine down (fun i => ∀ K : Nat → Nat → Int32, (∀ x j, ¬ (x = 160 ∧ j < 5) → K x j = I x j) → (∀ c, c < i → K 160 c = nI (F (35 + 2 * c))) → Wf l X uX7_vexedBy (d + 1) true (mC (mk w p r I L) + 0, mS (mk w p r I L) + 0) 2 [(0, .ref 150), (1, .int 0), (2, .int (nI i))] [] (mk w p r K L) kr) N ?_ ?_ 0 (Nat.zero_le _) I (fun _ _ _ => rfl) (fun c hc => absurd hc (Nat.not_lt_zero _))
  · intro K k1 k2
    have kN : K 153 5 = nI N := (k1 153 5 (by omega)).trans hN
    refine Wf.gc tkX7_vexedBy [37] ?_
    conv => whnf
    refine ⟨5, ⟨rfl, by decide, show 5 < 202 by decide⟩, ?_⟩
    conv => whnf
    refine b1' (by show K 153 5 ≤ nI N; rw [kN]; exact Int32.le_refl _) ?_
    conv => whnf
    exact sec K k1 k2 0 (Nat.zero_le _)
  · intro i hi ih K k1 k2
    have kN : K 153 5 = nI N := (k1 153 5 (by omega)).trans hN
    refine Wf.gc tkX7_vexedBy [2] ?_
    conv => whnf
    refine ⟨5, ⟨rfl, by decide, show 5 < 202 by decide⟩, ?_⟩
    conv => whnf
    refine b2' (by show ¬ K 153 5 ≤ nI i; rw [kN, nI_leI (by omega) (by omega)]; omega) ?_
    conv => whnf
    refine ⟨35 + 2 * i, ⟨i35 i, by omega, show 35 + 2 * i < 202 by omega⟩, ?_⟩
    conv => whnf
    refine ⟨i, ⟨rfl, by omega, show i < 5 by omega⟩, ?_⟩
    conv => whnf
    show Wf l X uX7_vexedBy (d + 1) true (mC (mk w p r I L) + 0, mS (mk w p r I L) + 0) 2 [(0, .ref 150), (1, .int 0), (2, .int (nI i + 1))] [] (mk w p r (u2 K 160 i (K 153 (35 + 2 * i))) L) kr
    rw [nI_s]
    refine ih _ (fun x j z => by rw [u2_o (by omega)]; exact k1 x j z) (fun c hc => ?_)
    by_cases e : c = i
    · subst e
      rw [u2_s, k1 153 _ (by omega)]; exact hF c hi
    · rw [u2_o (by omega)]; exact k2 c (by omega)
set_option maxRecDepth 20000 in
theorem y_letsGo_157 {f : Nat} {k h b : Int32} (hf : f < 6) (ek : I 153 (11 + 4 * f) = k) (eh : I 157 f = h) (eb : I 157 (6 + f) = b) (hk : kr (some (.int (lgo k h b))) (mk w p r I L)) : Ev l X uX7_letsGo d true 0 0 [.ref 150, .ref 157, .int (nI f)] (mk w p r I L) kr := by
  refine Ev.of (by decide) (Nat.le_of_ble_eq_true rfl) ?_
  refine Wf.gc tkX7_letsGo [25] ?_
  have go : Wf l X uX7_letsGo d true (mC (mk w p r I L) + 0, mS (mk w p r I L) + 0) 25 [(0, .ref 150), (1, .ref 157), (2, .int (nI f)), (3, .int k), (4, .int h), (5, .int b)] [] (mk w p r I L) kr := by
    unfold lgo at hk
    refine Wf.gc tkX7_letsGo [] ?_
    conv => whnf
    refine ⟨fun z => ?_, fun z => ?_⟩
    · have z : ¬ k = 0 := z
      rw [if_neg z] at hk
      conv => whnf
      refine ⟨fun z2 => ?_, fun z2 => ?_⟩
      · have z2 : ¬ k = 1 := z2
        rw [if_neg z2] at hk
        conv => whnf
        refine ⟨fun y => ?_, fun y => ?_⟩
        · have y : b < 2 * h := y
          rw [if_pos y] at hk
          conv => whnf
          exact hk
        · have y : ¬ b < 2 * h := y
          rw [if_neg y] at hk
          conv => whnf
          exact hk
      · have z2 : k = 1 := z2
        rw [if_pos z2] at hk
        conv => whnf
        refine ⟨fun y => ?_, fun y => ?_⟩
        · have y : b < h := y
          rw [if_pos y] at hk
          conv => whnf
          exact hk
        · have y : ¬ b < h := y
          rw [if_neg y] at hk
          conv => whnf
          exact hk
    · have z : k = 0 := z
      rw [if_pos z] at hk
      conv => whnf
      refine ⟨fun y => ?_, fun y => ?_⟩
      · have y : b < h := y
        rw [if_pos y] at hk
        conv => whnf
        exact hk
      · have y : ¬ b < h := y
        rw [if_neg y] at hk
        conv => whnf
        exact hk
  conv => whnf
  refine ⟨11 + 4 * f, ⟨i11 f, by omega, show 11 + 4 * f < 202 by omega⟩, ?_⟩
  conv => whnf
  refine ⟨f, ⟨rfl, by omega, show f < 25 by omega⟩, ?_⟩
  conv => whnf
  refine ⟨6 + f, ⟨nI_add 6 f, by omega, show 6 + f < 25 by omega⟩, ?_⟩
  conv => whnf
  show Wf l X uX7_letsGo d true (mC (mk w p r I L) + 0, mS (mk w p r I L) + 0) 25 [(0, .ref 150), (1, .ref 157), (2, .int (nI f)), (3, .int (I 153 (11 + 4 * f))), (4, .int (I 157 f)), (5, .int (I 157 (6 + f)))] [] (mk w p r I L) kr
  rw [ek, eh, eb]
  exact go
set_option maxRecDepth 20000 in
theorem y_letsGo_161 {f : Nat} {k h b : Int32} (hf : f < 6) (ek : I 153 (11 + 4 * f) = k) (eh : I 161 f = h) (eb : I 161 (6 + f) = b) (hk : kr (some (.int (lgo k h b))) (mk w p r I L)) : Ev l X uX7_letsGo d true 0 0 [.ref 150, .ref 161, .int (nI f)] (mk w p r I L) kr := by
  refine Ev.of (by decide) (Nat.le_of_ble_eq_true rfl) ?_
  refine Wf.gc tkX7_letsGo [25] ?_
  have go : Wf l X uX7_letsGo d true (mC (mk w p r I L) + 0, mS (mk w p r I L) + 0) 25 [(0, .ref 150), (1, .ref 161), (2, .int (nI f)), (3, .int k), (4, .int h), (5, .int b)] [] (mk w p r I L) kr := by
    unfold lgo at hk
    refine Wf.gc tkX7_letsGo [] ?_
    conv => whnf
    refine ⟨fun z => ?_, fun z => ?_⟩
    · have z : ¬ k = 0 := z
      rw [if_neg z] at hk
      conv => whnf
      refine ⟨fun z2 => ?_, fun z2 => ?_⟩
      · have z2 : ¬ k = 1 := z2
        rw [if_neg z2] at hk
        conv => whnf
        refine ⟨fun y => ?_, fun y => ?_⟩
        · have y : b < 2 * h := y
          rw [if_pos y] at hk
          conv => whnf
          exact hk
        · have y : ¬ b < 2 * h := y
          rw [if_neg y] at hk
          conv => whnf
          exact hk
      · have z2 : k = 1 := z2
        rw [if_pos z2] at hk
        conv => whnf
        refine ⟨fun y => ?_, fun y => ?_⟩
        · have y : b < h := y
          rw [if_pos y] at hk
          conv => whnf
          exact hk
        · have y : ¬ b < h := y
          rw [if_neg y] at hk
          conv => whnf
          exact hk
    · have z : k = 0 := z
      rw [if_pos z] at hk
      conv => whnf
      refine ⟨fun y => ?_, fun y => ?_⟩
      · have y : b < h := y
        rw [if_pos y] at hk
        conv => whnf
        exact hk
      · have y : ¬ b < h := y
        rw [if_neg y] at hk
        conv => whnf
        exact hk
  conv => whnf
  refine ⟨11 + 4 * f, ⟨i11 f, by omega, show 11 + 4 * f < 202 by omega⟩, ?_⟩
  conv => whnf
  refine ⟨f, ⟨rfl, by omega, show f < 25 by omega⟩, ?_⟩
  conv => whnf
  refine ⟨6 + f, ⟨nI_add 6 f, by omega, show 6 + f < 25 by omega⟩, ?_⟩
  conv => whnf
  show Wf l X uX7_letsGo d true (mC (mk w p r I L) + 0, mS (mk w p r I L) + 0) 25 [(0, .ref 150), (1, .ref 161), (2, .int (nI f)), (3, .int (I 153 (11 + 4 * f))), (4, .int (I 161 f)), (5, .int (I 161 (6 + f)))] [] (mk w p r I L) kr
  rw [ek, eh, eb]
  exact go
end RDY
end
section
/-! the reference's day on a row: the plain row of the day that comes -/
section RDO
variable {l : Launch} {X : Nat × (Nat → Int32)} {d : Nat} {w : Nat × Nat} {p r : Nat} {I : Nat → Nat → Int32} {L : Nat → Nat → Int64} {kr : KR} {P : Ps} {S : Rw} {V : Nat → Int32} {calm : Bool} {i g : Nat}
theorem gB_c (hO : gO P S g = some i) (h : calm = true ∨ ¬ jr (S 23 + 1) (nI (P.1 (36 + 2 * i))) = 0 ∨ S g = 0) : gB P V calm S g = S (6 + g) := by
  unfold gB
  by_cases z : S g = 0
  · rw [if_pos z]
  · rw [if_neg z, hO]
    unfold cVx
    refine if_neg (fun y => ?_)
    rcases h with h | h | h
    · rw [h] at y; cases y.1
    · exact h y.2.2
    · exact z h
theorem gB_v (hO : gO P S g = some i) (hc : calm = false) (he : 0 < P.1 (36 + 2 * i)) (he2 : P.1 (36 + 2 * i) ≤ 9) (hj : jr (S 23 + 1) (nI (P.1 (36 + 2 * i))) = 0) (hz : ¬ S g = 0) : gB P V calm S g = S (6 + g) + V i := by
  unfold gB
  rw [if_neg hz, hO]
  unfold cVx
  exact if_pos ⟨hc, (by show (0 : Int32) < nI (P.1 (36 + 2 * i)); rw [show (0 : Int32) = nI 0 from rfl, nI_ltI (by decide) (by omega)]; exact he), hj⟩
theorem nI_le0 {h : Nat} (hh : h ≤ 99) : nI h ≤ 0 ↔ nI h = 0 := by
  rw [show (0 : Int32) = nI 0 from rfl, nI_leI (by omega) (by decide), nI_eq (by omega) (by decide)]
  omega
/-- lets go or not; what is left then -/
theorem lgo_0 {kd : Nat} (hk : kd ≤ 2) {b : Int32} {h : Nat} (h1 : 1 ≤ h) (h9 : h ≤ 99) : (b < cLs (nI kd) (nI h) → lgo (nI kd) (nI h) b = 0) ∧ (¬ b < cLs (nI kd) (nI h) → ¬ lgo (nI kd) (nI h) b = 0 ∧ b - lgo (nI kd) (nI h) b = if nI kd = 1 then b - nI h else 0) := by
  have e2 : (2 : Int32) * nI h = nI (2 * h) := nI_mul 2 h
  have bn : ∀ n : Nat, 1 ≤ n → n < 1000 → ¬ b < nI n → ¬ b = 0 := fun n z1 z2 y e => by
    rw [e] at y
    exact y (by rw [show (0 : Int32) = nI 0 from rfl, nI_ltI (by decide) (by omega)]; omega)
  rcases (show kd = 0 ∨ kd = 1 ∨ kd = 2 by omega) with rfl | rfl | rfl
  · have a1 : cLs (nI 0) (nI h) = nI h := rfl
    have a2 : lgo (nI 0) (nI h) b = if b < nI h then 0 else b := rfl
    rw [a1, a2]
    refine ⟨fun y => if_pos y, fun y => ?_⟩
    rw [if_neg y]
    exact ⟨bn h h1 (by omega) y, by rw [Int32.sub_self]; rfl⟩
  · have a1 : cLs (nI 1) (nI h) = nI h := rfl
    have a2 : lgo (nI 1) (nI h) b = if b < nI h then 0 else nI h := rfl
    rw [a1, a2]
    refine ⟨fun y => if_pos y, fun y => ?_⟩
    rw [if_neg y]
    refine ⟨fun z => ?_, rfl⟩
    have := (nI_eq (by omega) (by decide)).mp (z.trans (show (0 : Int32) = nI 0 from rfl))
    omega
  · have a1 : cLs (nI 2) (nI h) = 2 * nI h := rfl
    have a2 : lgo (nI 2) (nI h) b = if b < 2 * nI h then 0 else b := rfl
    rw [a1, a2, e2]
    refine ⟨fun y => if_pos y, fun y => ?_⟩
    rw [if_neg y]
    exact ⟨bn (2 * h) (by omega) (by omega) y, by rw [Int32.sub_self]; rfl⟩
set_option maxHeartbeats 4000000 in
set_option maxRecDepth 20000 in
theorem y_dayOn_157 (hB : B3 P) (hP : PI P.1) (hS : RIg P S) (hFS : FS P.1 P.2.1 I) (hV : ∀ c, c < P.1 5 → I 160 c = V c) (hI : ∀ j, j < 25 → I 157 j = S j) (h : ∀ K : Nat → Nat → Int32, (∀ x j, x ≠ 157 → K x j = I x j) → (∀ j, j < 25 → K 157 j = gR P V calm S j) → kr none (mk w p r K L)) : Ev l X uX7_dayOn (d + 1) true 0 0 [.ref 150, .ref 157, .int (bI calm)] (mk w p r I L) kr := by
  have hF : P.1 4 ≤ 6 := hB.1.1.1.2.2.2.1
  have hC : P.1 5 ≤ 5 := hB.1.1.1.2.2.2.2.1
  have rI : ∀ j, j < 67 → j ≠ 10 → ∀ K : Nat → Nat → Int32, (∀ x j, x ≠ 157 → K x j = I x j) → K 153 j = nI (P.1 j) := fun j z1 z2 K k1 => (k1 153 j (by decide)).trans (hFS.1 j z1 z2)
  refine Ev.of (by decide) (Nat.le_of_ble_eq_true rfl) ?_
  refine Wf.gc tkX7_dayOn [15] ?_
  conv => whnf
  refine ⟨23, ⟨rfl, by decide, show 23 < 25 by decide⟩, ?_⟩
  conv => whnf
  refine ⟨23, ⟨rfl, by decide, show 23 < 25 by decide⟩, ?_⟩
  conv => whnf
  refine ⟨24, ⟨rfl, by decide, show 24 < 25 by decide⟩, ?_⟩
  conv => whnf
  have faces : ∀ i, i ≤ P.1 4 → ∀ K : Nat → Nat → Int32, (∀ x j, x ≠ 157 → K x j = I x j) → (∀ j, j < 25 → K 157 j = T2 P V calm S i j) → Wf l X uX7_dayOn (d + 1) true (mC (mk w p r I L) + 0, mS (mk w p r I L) + 0) 89 [(0, .ref 150), (1, .ref 157), (2, .int (bI calm)), (3, .int (nI i))] [] (mk w p r K L) kr := by
    refine down _ (P.1 4) ?_ ?_
    · intro K k1 k2
      refine Wf.gc tkX7_dayOn [] ?_
      conv => whnf
      refine ⟨4, ⟨rfl, by decide, show 4 < 202 by decide⟩, ?_⟩
      conv => whnf
      refine b1' (by show K 153 4 ≤ nI (P.1 4); rw [rI 4 (by decide) (by decide) K k1]; exact Int32.le_refl _) ?_
      conv => whnf
      exact h K k1 (fun j hj => by rw [k2 j hj, T2_F])
    · intro i hi ih K k1 k2
      obtain ⟨hh, h99, eh⟩ := hS.1 i hi
      obtain ⟨t1, t2, t3, t4⟩ := T2_i (V := V) (calm := calm) (S := S) hF hi
      obtain ⟨⟨p1, p2⟩, p3, p4, p5⟩ := hP.1 i hi
      have r1 : K 157 i = S i := (k2 i (by omega)).trans t1
      have r2 : K 157 (6 + i) = gB P V calm S i := (k2 (6 + i) (by omega)).trans t2
      have r3 : K 157 (12 + i) = S (12 + i) := (k2 (12 + i) (by omega)).trans t3
      have r4 : K 157 24 = gWt P V calm S i := (k2 24 (by omega)).trans t4
      have m208 : ∀ (v : Int32) (K' : Nat → Nat → Int32), (∀ x j, x ≠ 157 → K' x j = I x j) → (∀ j, j < 25 → K' 157 j = T2 P V calm S (i + 1) j) → Wf l X uX7_dayOn (d + 1) true (mC (mk w p r I L) + 0, mS (mk w p r I L) + 0) 208 [(0, .ref 150), (1, .ref 157), (2, .int (bI calm)), (3, .int (nI i)), (4, .int v)] [] (mk w p r K' L) kr := by
        intro v K' q1 q2
        refine Wf.gc tkX7_dayOn [89] ?_
        conv => whnf
        refine Wf.keep [0, 1, 2, 3] ?_
        show Wf l X uX7_dayOn (d + 1) true (mC (mk w p r I L) + 0, mS (mk w p r I L) + 0) 89 [(0, .ref 150), (1, .ref 157), (2, .int (bI calm)), (3, .int (nI i + 1))] [] (mk w p r K' L) kr
        rw [nI_s]
        exact ih K' q1 q2
      have non : gLt P V calm S i = false → Wf l X uX7_dayOn (d + 1) true (mC (mk w p r I L) + 0, mS (mk w p r I L) + 0) 115 [(0, .ref 150), (1, .ref 157), (2, .int (bI calm)), (3, .int (nI i))] [.int 0] (mk w p r K L) kr := by
        intro hl
        refine Wf.gc tkX7_dayOn [208] ?_
        conv => whnf
        refine b2 (fun z => z rfl) ?_
        conv => whnf
        exact m208 _ K k1 (fun j hj => by rw [k2 j hj, T2_n hF hi hl])
      refine Wf.gc tkX7_dayOn [115] ?_
      conv => whnf
      refine ⟨4, ⟨rfl, by decide, show 4 < 202 by decide⟩, ?_⟩
      conv => whnf
      refine b2' (by show ¬ K 153 4 ≤ nI i; rw [rI 4 (by decide) (by decide) K k1, nI_leI (by omega) (by omega)]; omega) ?_
      conv => whnf
      refine ⟨i, ⟨rfl, by omega, show i < 25 by omega⟩, ?_⟩
      conv => whnf
      refine ⟨fun z => ?_, fun z => ?_⟩
      · have z : ¬ K 157 i = 0 := z
        rw [r1] at z
        have h1 : 1 ≤ hh := by
          rcases Nat.eq_zero_or_pos hh with y | y
          · rw [eh, y] at z; exact absurd rfl z
          · exact y
        have eB : gB P V calm S i = cVx (vxG V (gO P S i)) (evP P (gO P S i)) calm (S 23 + 1) (S (6 + i)) := if_neg z
        obtain ⟨l1, l2⟩ := lgo_0 (kd := P.1 (11 + 4 * i)) p4 (b := gB P V calm S i) h1 h99
        conv => whnf
        refine y_letsGo_157 (by omega) (rI (11 + 4 * i) (by omega) (by omega) K k1) (r1.trans eh) r2 ?_
        by_cases y : gB P V calm S i < cLs (nI (P.1 (11 + 4 * i))) (nI hh)
        · rw [l1 y]
          conv => whnf
          refine non (decide_eq_false (fun x => x.2 ?_))
          rw [← eB]
          show _ < cLs (gK P i) (S i)
          rw [eh]
          exact y
        · obtain ⟨n1, n2⟩ := l2 y
          have hl : gLt P V calm S i = true := by
            refine decide_eq_true ⟨z, fun x => y ?_⟩
            rw [← eB] at x
            have x : gB P V calm S i < cLs (gK P i) (S i) := x
            rw [eh] at x
            exact x
          have eW : gWt P V calm S (i + 1) = gWt P V calm S i ||| ((1 : Int32) <<< (nI (P.1 (14 + 4 * i)) &&& 31)) := by
            show (if gLt P V calm S i = true then _ else _) = _
            rw [hl]
            rfl
          have eF : gF P V calm S i = if S i - gWr P i < 1 then (S 23 + 1, 0, 0, S (12 + i) + 1) else (S 23 + 1, S i - gWr P i, (if gK P i = 1 then gB P V calm S i - S i else 0), S (12 + i) + 1) := by
            unfold gF cSt
            dsimp only
            rw [if_neg z, if_neg (fun x => y (by rw [← eB] at x; have x : gB P V calm S i < cLs (gK P i) (S i) := x; rw [eh] at x; exact x)), ← eB]
          generalize hm : lgo (nI (P.1 (11 + 4 * i))) (nI hh) (gB P V calm S i) = mu at n1 n2
          conv => whnf
          refine Wf.gc tkX7_dayOn [208] ?_
          conv => whnf
          refine b1 n1 ?_
          conv => whnf
          refine ⟨6 + i, ⟨nI_add 6 i, by omega, show 6 + i < 25 by omega⟩, ?_⟩
          conv => whnf
          refine ⟨6 + i, ⟨nI_add 6 i, by omega, show 6 + i < 25 by omega⟩, ?_⟩
          conv => whnf
          refine ⟨12 + i, ⟨nI_add 12 i, by omega, show 12 + i < 25 by omega⟩, ?_⟩
          conv => whnf
          refine ⟨12 + i, ⟨nI_add 12 i, by omega, show 12 + i < 25 by omega⟩, ?_⟩
          conv => whnf
          refine ⟨24, ⟨rfl, by decide, show 24 < 25 by decide⟩, ?_⟩
          conv => whnf
          refine ⟨14 + 4 * i, ⟨i14 i, by omega, show 14 + 4 * i < 202 by omega⟩, ?_⟩
          conv => whnf
          refine ⟨24, ⟨rfl, by decide, show 24 < 25 by decide⟩, ?_⟩
          conv => whnf
          refine ⟨i, ⟨rfl, by omega, show i < 25 by omega⟩, ?_⟩
          conv => whnf
          refine ⟨13 + 4 * i, ⟨i13 i, by omega, show 13 + 4 * i < 202 by omega⟩, ?_⟩
          conv => whnf
          refine ⟨i, ⟨rfl, by omega, show i < 25 by omega⟩, ?_⟩
          conv => whnf
          refine ⟨i, ⟨rfl, by omega, show i < 25 by omega⟩, ?_⟩
          have e13 : K 153 (13 + 4 * i) = gWr P i := rI (13 + 4 * i) (by omega) (by omega) K k1
          have e14 : K 153 (14 + 4 * i) = nI (P.1 (14 + 4 * i)) := rI (14 + 4 * i) (by omega) (by omega) K k1
          let K1 := u2 K 157 (6 + i) (K 157 (6 + i) - mu)
          let K2 := u2 K1 157 (12 + i) (K1 157 (12 + i) + 1)
          let K3 := u2 K2 157 24 (K2 157 24 ||| ((1 : Int32) <<< (K2 153 (14 + 4 * i) &&& 31)))
          let K4 := u2 K3 157 i (K3 157 i - K3 153 (13 + 4 * i))
          have o4 : ∀ x j, x ≠ 157 → K4 x j = I x j := fun x j z => by
            show u2 K3 157 i _ x j = _
            rw [u2_o (by omega)]
            show u2 K2 157 24 _ x j = _
            rw [u2_o (by omega)]
            show u2 K1 157 (12 + i) _ x j = _
            rw [u2_o (by omega)]
            show u2 K 157 (6 + i) _ x j = _
            rw [u2_o (by omega)]
            exact k1 x j z
          have k3i : K3 157 i = S i := by
            show u2 K2 157 24 _ 157 i = _
            rw [u2_o (by omega)]
            show u2 K1 157 (12 + i) _ 157 i = _
            rw [u2_o (by omega)]
            show u2 K 157 (6 + i) _ 157 i = _
            rw [u2_o (by omega)]
            exact r1
          have k313 : K3 153 (13 + 4 * i) = gWr P i := by
            show u2 K2 157 24 _ 153 _ = _
            rw [u2_o (by omega)]
            show u2 K1 157 (12 + i) _ 153 _ = _
            rw [u2_o (by omega)]
            show u2 K 157 (6 + i) _ 153 _ = _
            rw [u2_o (by omega)]
            exact e13
          have v0 : K4 157 i = S i - gWr P i := by
            show u2 K3 157 i _ 157 i = _
            rw [u2_s, k3i, k313]
          have v6 : K4 157 (6 + i) = gB P V calm S i - mu := by
            show u2 K3 157 i _ 157 (6 + i) = _
            rw [u2_o (by omega)]
            show u2 K2 157 24 _ 157 (6 + i) = _
            rw [u2_o (by omega)]
            show u2 K1 157 (12 + i) _ 157 (6 + i) = _
            rw [u2_o (by omega)]
            show u2 K 157 (6 + i) _ 157 (6 + i) = _
            rw [u2_s, r2]
          have v12 : K4 157 (12 + i) = S (12 + i) + 1 := by
            show u2 K3 157 i _ 157 (12 + i) = _
            rw [u2_o (by omega)]
            show u2 K2 157 24 _ 157 (12 + i) = _
            rw [u2_o (by omega)]
            show u2 K1 157 (12 + i) _ 157 (12 + i) = _
            rw [u2_s]
            show u2 K 157 (6 + i) _ 157 (12 + i) + 1 = _
            rw [u2_o (by omega), r3]
          have v24 : K4 157 24 = gWt P V calm S (i + 1) := by
            show u2 K3 157 i _ 157 24 = _
            rw [u2_o (by omega)]
            show u2 K2 157 24 _ 157 24 = _
            rw [u2_s, eW]
            have x1 : K2 157 24 = gWt P V calm S i := by
              show u2 K1 157 (12 + i) _ 157 24 = _
              rw [u2_o (by omega)]
              show u2 K 157 (6 + i) _ 157 24 = _
              rw [u2_o (by omega)]
              exact r4
            have x2 : K2 153 (14 + 4 * i) = nI (P.1 (14 + 4 * i)) := by
              show u2 K1 157 (12 + i) _ 153 _ = _
              rw [u2_o (by omega)]
              show u2 K 157 (6 + i) _ 153 _ = _
              rw [u2_o (by omega)]
              exact e14
            rw [x1, x2]
          have vo : ∀ j, j < 25 → j ≠ i → j ≠ 6 + i → j ≠ 12 + i → j ≠ 24 → K4 157 j = T2 P V calm S i j := fun j hj z1 z2 z3 z4 => by
            show u2 K3 157 i _ 157 j = _
            rw [u2_o (by omega)]
            show u2 K2 157 24 _ 157 j = _
            rw [u2_o (by omega)]
            show u2 K1 157 (12 + i) _ 157 j = _
            rw [u2_o (by omega)]
            show u2 K 157 (6 + i) _ 157 j = _
            rw [u2_o (by omega)]
            exact k2 j hj
          conv => whnf
          refine ⟨fun x => ?_, fun x => ?_⟩
          · have x : K4 157 i < 1 := x
            rw [v0] at x
            rw [if_pos x] at eF
            conv => whnf
            refine ⟨i, ⟨rfl, by omega, show i < 25 by omega⟩, ?_⟩
            conv => whnf
            refine ⟨6 + i, ⟨nI_add 6 i, by omega, show 6 + i < 25 by omega⟩, ?_⟩
            conv => whnf
            refine m208 _ (u2 (u2 K4 157 i 0) 157 (6 + i) 0) (fun x j z => by rw [u2_o (by omega), u2_o (by omega)]; exact o4 x j z) (fun j hj => ?_)
            rw [T2_s hF hi, eF]
            unfold uR
            by_cases z4 : j = 24
            · subst z4
              rw [if_pos rfl, u2_o (by omega), u2_o (by omega)]; exact v24
            · rw [if_neg z4]
              by_cases z3 : j = 12 + i
              · subst z3
                rw [if_pos rfl, u2_o (by omega), u2_o (by omega)]; exact v12
              · rw [if_neg z3]
                by_cases z2 : j = 6 + i
                · subst z2
                  rw [if_pos rfl, u2_s]
                · rw [if_neg z2]
                  by_cases z1 : j = i
                  · subst z1
                    rw [if_pos rfl, u2_o (by omega), u2_s]
                  · rw [if_neg z1, u2_o (by omega), u2_o (by omega)]
                    exact vo j hj z1 z2 z3 z4
          · have x : ¬ K4 157 i < 1 := x
            rw [v0] at x
            rw [if_neg x] at eF
            conv => whnf
            refine m208 _ K4 o4 (fun j hj => ?_)
            rw [T2_s hF hi, eF]
            unfold uR
            by_cases z4 : j = 24
            · subst z4
              rw [if_pos rfl]; exact v24
            · rw [if_neg z4]
              by_cases z3 : j = 12 + i
              · subst z3
                rw [if_pos rfl]; exact v12
              · rw [if_neg z3]
                by_cases z2 : j = 6 + i
                · subst z2
                  rw [if_pos rfl, v6, n2, eh]
                  rfl
                · rw [if_neg z2]
                  by_cases z1 : j = i
                  · subst z1
                    rw [if_pos rfl]; exact v0
                  · rw [if_neg z1]
                    exact vo j hj z1 z2 z3 z4
      · have z : K 157 i = 0 := z
        rw [r1] at z
        conv => whnf
        exact non (decide_eq_false (fun x => x.1 z))
  have canons : ∀ i, i ≤ P.1 5 → ∀ K : Nat → Nat → Int32, (∀ x j, x ≠ 157 → K x j = I x j) → (∀ j, j < 25 → K 157 j = T1 P V calm S i j) → Wf l X uX7_dayOn (d + 1) true (mC (mk w p r I L) + 0, mS (mk w p r I L) + 0) 15 [(0, .ref 150), (1, .ref 157), (2, .int (bI calm)), (3, .int (nI i))] [] (mk w p r K L) kr := by
    refine down _ (P.1 5) ?_ ?_
    · intro K k1 k2
      refine Wf.gc tkX7_dayOn [89] ?_
      conv => whnf
      refine ⟨5, ⟨rfl, by decide, show 5 < 202 by decide⟩, ?_⟩
      conv => whnf
      refine b1' (by show K 153 5 ≤ nI (P.1 5); rw [rI 5 (by decide) (by decide) K k1]; exact Int32.le_refl _) ?_
      conv => whnf
      exact faces 0 (Nat.zero_le _) K k1 (fun j hj => by rw [k2 j hj, T12 hF])
    · intro i hi ih K k1 k2
      obtain ⟨g, hg, eg⟩ := hS.2.1 i hi
      have hO := gO_of hS hi eg
      obtain ⟨-, -, p1, p2⟩ := hP.2.1 i hi
      obtain ⟨hh, h99, eh⟩ := hS.1 g hg
      have tt : ∀ j, j < 25 → ¬ (6 ≤ j ∧ j < 12) → j ≠ 23 → j ≠ 24 → T1 P V calm S i j = S j := fun j z1 z2 z3 z4 => by
        unfold T1
        rw [if_neg z3, if_neg z4, if_neg (by omega)]
      have r23 : K 157 23 = S 23 + 1 := (k2 23 (by decide)).trans rfl
      have r18 : K 157 (18 + i) = nI g := (k2 (18 + i) (by omega)).trans ((tt (18 + i) (by omega) (by omega) (by omega) (by omega)).trans eg)
      have rg : K 157 g = S g := (k2 g (by omega)).trans (tt g (by omega) (by omega) (by omega) (by omega))
      have r6 : K 157 (6 + g) = S (6 + g) := (k2 (6 + g) (by omega)).trans (T1_g hF hS hi hg eg)
      have e36 : K 153 (36 + 2 * i) = nI (P.1 (36 + 2 * i)) := rI (36 + 2 * i) (by omega) (by omega) K k1
      have m81 : ∀ K' : Nat → Nat → Int32, (∀ x j, x ≠ 157 → K' x j = I x j) → (∀ j, j < 25 → K' 157 j = T1 P V calm S (i + 1) j) → Wf l X uX7_dayOn (d + 1) true (mC (mk w p r I L) + 0, mS (mk w p r I L) + 0) 81 [(0, .ref 150), (1, .ref 157), (2, .int (bI calm)), (3, .int (nI i))] [] (mk w p r K' L) kr := by
        intro K' q1 q2
        refine Wf.gc tkX7_dayOn [15] ?_
        conv => whnf
        show Wf l X uX7_dayOn (d + 1) true (mC (mk w p r I L) + 0, mS (mk w p r I L) + 0) 15 [(0, .ref 150), (1, .ref 157), (2, .int (bI calm)), (3, .int (nI i + 1))] [] (mk w p r K' L) kr
        rw [nI_s]
        exact ih K' q1 q2
      have s81 : gB P V calm S g = S (6 + g) → Wf l X uX7_dayOn (d + 1) true (mC (mk w p r I L) + 0, mS (mk w p r I L) + 0) 81 [(0, .ref 150), (1, .ref 157), (2, .int (bI calm)), (3, .int (nI i))] [] (mk w p r K L) kr := fun hB' => m81 K k1 (fun j hj => by rw [k2 j hj, T1_e hF hS hi hg eg hB'])
      refine Wf.gc tkX7_dayOn [81] ?_
      conv => whnf
      refine ⟨5, ⟨rfl, by decide, show 5 < 202 by decide⟩, ?_⟩
      conv => whnf
      refine b2' (by show ¬ K 153 5 ≤ nI i; rw [rI 5 (by decide) (by decide) K k1, nI_leI (by omega) (by omega)]; omega) ?_
      conv => whnf
      cases hcm : calm with
      | true =>
        refine b1 (by decide) ?_
        conv => whnf
        have q := s81 (gB_c hO (Or.inl hcm))
        rw [hcm] at q
        exact q
      | false =>
        refine b2 (fun z => z rfl) ?_
        conv => whnf
        refine ⟨23, ⟨rfl, by decide, show 23 < 25 by decide⟩, ?_⟩
        conv => whnf
        refine ⟨36 + 2 * i, ⟨i36 i, by omega, show 36 + 2 * i < 202 by omega⟩, ?_⟩
        conv => whnf
        refine ⟨by show ¬ K 153 (36 + 2 * i) = 0; rw [e36]; exact fun z => absurd ((nI_eq (by omega) (by decide)).mp (z.trans (show (0 : Int32) = nI 0 from rfl))) (by omega), ?_⟩
        conv => whnf
        refine ⟨fun z => ?_, fun z => ?_⟩
        · have z : ¬ jr (K 157 23) (K 153 (36 + 2 * i)) = 0 := z
          rw [r23, e36] at z
          conv => whnf
          have q := s81 (gB_c hO (Or.inr (Or.inl z)))
          rw [hcm] at q
          exact q
        · have z : jr (K 157 23) (K 153 (36 + 2 * i)) = 0 := z
          rw [r23, e36] at z
          conv => whnf
          refine ⟨18 + i, ⟨nI_add 18 i, by omega, show 18 + i < 25 by omega⟩, ?_⟩
          conv => whnf
          refine ⟨g, ⟨r18, by omega, show g < 25 by omega⟩, ?_⟩
          conv => whnf
          refine ⟨fun y => ?_, fun y => ?_⟩
          · have y : K 157 g ≤ 0 := y
            rw [rg, eh, nI_le0 h99, ← eh] at y
            conv => whnf
            have q := s81 (gB_c hO (Or.inr (Or.inr y)))
            rw [hcm] at q
            exact q
          · have y : ¬ K 157 g ≤ 0 := y
            rw [rg, eh, nI_le0 h99, ← eh] at y
            conv => whnf
            refine ⟨18 + i, ⟨nI_add 18 i, by omega, show 18 + i < 25 by omega⟩, ?_⟩
            conv => whnf
            refine ⟨6 + g, ⟨by show 6 + K 157 (18 + i) = _; rw [r18]; exact nI_add 6 g, by omega, show 6 + g < 25 by omega⟩, ?_⟩
            conv => whnf
            refine ⟨i, ⟨rfl, by omega, show i < 5 by omega⟩, ?_⟩
            conv => whnf
            refine ⟨6 + g, ⟨by show 6 + K 157 (18 + i) = _; rw [r18]; exact nI_add 6 g, by omega, show 6 + g < 25 by omega⟩, ?_⟩
            conv => whnf
            have q := m81 (u2 K 157 (6 + g) (K 157 (6 + g) + K 160 i)) (fun x j z => by rw [u2_o (by omega)]; exact k1 x j z) (fun j hj => by
              rw [T1_s hF hS hi hg eg, gB_v hO hcm (by omega) (by omega) z y]
              unfold uR
              by_cases e : j = 6 + g
              · subst e
                rw [u2_s, if_pos rfl, r6, k1 160 i (by decide), hV i hi]
              · rw [u2_o (by omega), if_neg e]
                exact k2 j hj)
            rw [hcm] at q
            exact q
  refine canons 0 (Nat.zero_le _) (u2 (u2 I 157 23 (I 157 23 + 1)) 157 24 0) (fun x j z => by rw [u2_o (by omega), u2_o (by omega)]) (fun j hj => ?_)
  unfold T1
  by_cases z1 : j = 23
  · subst z1
    rw [u2_o (by omega), u2_s, if_pos rfl, hI 23 (by decide)]
  · rw [if_neg z1]
    by_cases z2 : j = 24
    · subst z2
      rw [u2_s, if_pos rfl]
    · rw [if_neg z2, u2_o (by omega), u2_o (by omega), hI j hj]
      split
      · rename_i z3
        unfold gM1
        cases gO P S (j - 6) with
        | none => show S j = S (6 + (j - 6)); rw [show 6 + (j - 6) = j by omega]
        | some c =>
          show S j = if c < 0 then _ else S (6 + (j - 6))
          rw [if_neg (Nat.not_lt_zero _), show 6 + (j - 6) = j by omega]
      · rfl
set_option maxHeartbeats 4000000 in
set_option maxRecDepth 20000 in
theorem y_dayOn_161 (hB : B3 P) (hP : PI P.1) (hS : RIg P S) (hFS : FS P.1 P.2.1 I) (hV : ∀ c, c < P.1 5 → I 160 c = V c) (hI : ∀ j, j < 25 → I 161 j = S j) (h : ∀ K : Nat → Nat → Int32, (∀ x j, x ≠ 161 → K x j = I x j) → (∀ j, j < 25 → K 161 j = gR P V calm S j) → kr none (mk w p r K L)) : Ev l X uX7_dayOn (d + 1) true 0 0 [.ref 150, .ref 161, .int (bI calm)] (mk w p r I L) kr := by
  have hF : P.1 4 ≤ 6 := hB.1.1.1.2.2.2.1
  have hC : P.1 5 ≤ 5 := hB.1.1.1.2.2.2.2.1
  have rI : ∀ j, j < 67 → j ≠ 10 → ∀ K : Nat → Nat → Int32, (∀ x j, x ≠ 161 → K x j = I x j) → K 153 j = nI (P.1 j) := fun j z1 z2 K k1 => (k1 153 j (by decide)).trans (hFS.1 j z1 z2)
  refine Ev.of (by decide) (Nat.le_of_ble_eq_true rfl) ?_
  refine Wf.gc tkX7_dayOn [15] ?_
  conv => whnf
  refine ⟨23, ⟨rfl, by decide, show 23 < 25 by decide⟩, ?_⟩
  conv => whnf
  refine ⟨23, ⟨rfl, by decide, show 23 < 25 by decide⟩, ?_⟩
  conv => whnf
  refine ⟨24, ⟨rfl, by decide, show 24 < 25 by decide⟩, ?_⟩
  conv => whnf
  have faces : ∀ i, i ≤ P.1 4 → ∀ K : Nat → Nat → Int32, (∀ x j, x ≠ 161 → K x j = I x j) → (∀ j, j < 25 → K 161 j = T2 P V calm S i j) → Wf l X uX7_dayOn (d + 1) true (mC (mk w p r I L) + 0, mS (mk w p r I L) + 0) 89 [(0, .ref 150), (1, .ref 161), (2, .int (bI calm)), (3, .int (nI i))] [] (mk w p r K L) kr := by
    refine down _ (P.1 4) ?_ ?_
    · intro K k1 k2
      refine Wf.gc tkX7_dayOn [] ?_
      conv => whnf
      refine ⟨4, ⟨rfl, by decide, show 4 < 202 by decide⟩, ?_⟩
      conv => whnf
      refine b1' (by show K 153 4 ≤ nI (P.1 4); rw [rI 4 (by decide) (by decide) K k1]; exact Int32.le_refl _) ?_
      conv => whnf
      exact h K k1 (fun j hj => by rw [k2 j hj, T2_F])
    · intro i hi ih K k1 k2
      obtain ⟨hh, h99, eh⟩ := hS.1 i hi
      obtain ⟨t1, t2, t3, t4⟩ := T2_i (V := V) (calm := calm) (S := S) hF hi
      obtain ⟨⟨p1, p2⟩, p3, p4, p5⟩ := hP.1 i hi
      have r1 : K 161 i = S i := (k2 i (by omega)).trans t1
      have r2 : K 161 (6 + i) = gB P V calm S i := (k2 (6 + i) (by omega)).trans t2
      have r3 : K 161 (12 + i) = S (12 + i) := (k2 (12 + i) (by omega)).trans t3
      have r4 : K 161 24 = gWt P V calm S i := (k2 24 (by omega)).trans t4
      have m208 : ∀ (v : Int32) (K' : Nat → Nat → Int32), (∀ x j, x ≠ 161 → K' x j = I x j) → (∀ j, j < 25 → K' 161 j = T2 P V calm S (i + 1) j) → Wf l X uX7_dayOn (d + 1) true (mC (mk w p r I L) + 0, mS (mk w p r I L) + 0) 208 [(0, .ref 150), (1, .ref 161), (2, .int (bI calm)), (3, .int (nI i)), (4, .int v)] [] (mk w p r K' L) kr := by
        intro v K' q1 q2
        refine Wf.gc tkX7_dayOn [89] ?_
        conv => whnf
        refine Wf.keep [0, 1, 2, 3] ?_
        show Wf l X uX7_dayOn (d + 1) true (mC (mk w p r I L) + 0, mS (mk w p r I L) + 0) 89 [(0, .ref 150), (1, .ref 161), (2, .int (bI calm)), (3, .int (nI i + 1))] [] (mk w p r K' L) kr
        rw [nI_s]
        exact ih K' q1 q2
      have non : gLt P V calm S i = false → Wf l X uX7_dayOn (d + 1) true (mC (mk w p r I L) + 0, mS (mk w p r I L) + 0) 115 [(0, .ref 150), (1, .ref 161), (2, .int (bI calm)), (3, .int (nI i))] [.int 0] (mk w p r K L) kr := by
        intro hl
        refine Wf.gc tkX7_dayOn [208] ?_
        conv => whnf
        refine b2 (fun z => z rfl) ?_
        conv => whnf
        exact m208 _ K k1 (fun j hj => by rw [k2 j hj, T2_n hF hi hl])
      refine Wf.gc tkX7_dayOn [115] ?_
      conv => whnf
      refine ⟨4, ⟨rfl, by decide, show 4 < 202 by decide⟩, ?_⟩
      conv => whnf
      refine b2' (by show ¬ K 153 4 ≤ nI i; rw [rI 4 (by decide) (by decide) K k1, nI_leI (by omega) (by omega)]; omega) ?_
      conv => whnf
      refine ⟨i, ⟨rfl, by omega, show i < 25 by omega⟩, ?_⟩
      conv => whnf
      refine ⟨fun z => ?_, fun z => ?_⟩
      · have z : ¬ K 161 i = 0 := z
        rw [r1] at z
        have h1 : 1 ≤ hh := by
          rcases Nat.eq_zero_or_pos hh with y | y
          · rw [eh, y] at z; exact absurd rfl z
          · exact y
        have eB : gB P V calm S i = cVx (vxG V (gO P S i)) (evP P (gO P S i)) calm (S 23 + 1) (S (6 + i)) := if_neg z
        obtain ⟨l1, l2⟩ := lgo_0 (kd := P.1 (11 + 4 * i)) p4 (b := gB P V calm S i) h1 h99
        conv => whnf
        refine y_letsGo_161 (by omega) (rI (11 + 4 * i) (by omega) (by omega) K k1) (r1.trans eh) r2 ?_
        by_cases y : gB P V calm S i < cLs (nI (P.1 (11 + 4 * i))) (nI hh)
        · rw [l1 y]
          conv => whnf
          refine non (decide_eq_false (fun x => x.2 ?_))
          rw [← eB]
          show _ < cLs (gK P i) (S i)
          rw [eh]
          exact y
        · obtain ⟨n1, n2⟩ := l2 y
          have hl : gLt P V calm S i = true := by
            refine decide_eq_true ⟨z, fun x => y ?_⟩
            rw [← eB] at x
            have x : gB P V calm S i < cLs (gK P i) (S i) := x
            rw [eh] at x
            exact x
          have eW : gWt P V calm S (i + 1) = gWt P V calm S i ||| ((1 : Int32) <<< (nI (P.1 (14 + 4 * i)) &&& 31)) := by
            show (if gLt P V calm S i = true then _ else _) = _
            rw [hl]
            rfl
          have eF : gF P V calm S i = if S i - gWr P i < 1 then (S 23 + 1, 0, 0, S (12 + i) + 1) else (S 23 + 1, S i - gWr P i, (if gK P i = 1 then gB P V calm S i - S i else 0), S (12 + i) + 1) := by
            unfold gF cSt
            dsimp only
            rw [if_neg z, if_neg (fun x => y (by rw [← eB] at x; have x : gB P V calm S i < cLs (gK P i) (S i) := x; rw [eh] at x; exact x)), ← eB]
          generalize hm : lgo (nI (P.1 (11 + 4 * i))) (nI hh) (gB P V calm S i) = mu at n1 n2
          conv => whnf
          refine Wf.gc tkX7_dayOn [208] ?_
          conv => whnf
          refine b1 n1 ?_
          conv => whnf
          refine ⟨6 + i, ⟨nI_add 6 i, by omega, show 6 + i < 25 by omega⟩, ?_⟩
          conv => whnf
          refine ⟨6 + i, ⟨nI_add 6 i, by omega, show 6 + i < 25 by omega⟩, ?_⟩
          conv => whnf
          refine ⟨12 + i, ⟨nI_add 12 i, by omega, show 12 + i < 25 by omega⟩, ?_⟩
          conv => whnf
          refine ⟨12 + i, ⟨nI_add 12 i, by omega, show 12 + i < 25 by omega⟩, ?_⟩
          conv => whnf
          refine ⟨24, ⟨rfl, by decide, show 24 < 25 by decide⟩, ?_⟩
          conv => whnf
          refine ⟨14 + 4 * i, ⟨i14 i, by omega, show 14 + 4 * i < 202 by omega⟩, ?_⟩
          conv => whnf
          refine ⟨24, ⟨rfl, by decide, show 24 < 25 by decide⟩, ?_⟩
          conv => whnf
          refine ⟨i, ⟨rfl, by omega, show i < 25 by omega⟩, ?_⟩
          conv => whnf
          refine ⟨13 + 4 * i, ⟨i13 i, by omega, show 13 + 4 * i < 202 by omega⟩, ?_⟩
          conv => whnf
          refine ⟨i, ⟨rfl, by omega, show i < 25 by omega⟩, ?_⟩
          conv => whnf
          refine ⟨i, ⟨rfl, by omega, show i < 25 by omega⟩, ?_⟩
          have e13 : K 153 (13 + 4 * i) = gWr P i := rI (13 + 4 * i) (by omega) (by omega) K k1
          have e14 : K 153 (14 + 4 * i) = nI (P.1 (14 + 4 * i)) := rI (14 + 4 * i) (by omega) (by omega) K k1
          let K1 := u2 K 161 (6 + i) (K 161 (6 + i) - mu)
          let K2 := u2 K1 161 (12 + i) (K1 161 (12 + i) + 1)
          let K3 := u2 K2 161 24 (K2 161 24 ||| ((1 : Int32) <<< (K2 153 (14 + 4 * i) &&& 31)))
          let K4 := u2 K3 161 i (K3 161 i - K3 153 (13 + 4 * i))
          have o4 : ∀ x j, x ≠ 161 → K4 x j = I x j := fun x j z => by
            show u2 K3 161 i _ x j = _
            rw [u2_o (by omega)]
            show u2 K2 161 24 _ x j = _
            rw [u2_o (by omega)]
            show u2 K1 161 (12 + i) _ x j = _
            rw [u2_o (by omega)]
            show u2 K 161 (6 + i) _ x j = _
            rw [u2_o (by omega)]
            exact k1 x j z
          have k3i : K3 161 i = S i := by
            show u2 K2 161 24 _ 161 i = _
            rw [u2_o (by omega)]
            show u2 K1 161 (12 + i) _ 161 i = _
            rw [u2_o (by omega)]
            show u2 K 161 (6 + i) _ 161 i = _
            rw [u2_o (by omega)]
            exact r1
          have k313 : K3 153 (13 + 4 * i) = gWr P i := by
            show u2 K2 161 24 _ 153 _ = _
            rw [u2_o (by omega)]
            show u2 K1 161 (12 + i) _ 153 _ = _
            rw [u2_o (by omega)]
            show u2 K 161 (6 + i) _ 153 _ = _
            rw [u2_o (by omega)]
            exact e13
          have v0 : K4 161 i = S i - gWr P i := by
            show u2 K3 161 i _ 161 i = _
            rw [u2_s, k3i, k313]
          have v6 : K4 161 (6 + i) = gB P V calm S i - mu := by
            show u2 K3 161 i _ 161 (6 + i) = _
            rw [u2_o (by omega)]
            show u2 K2 161 24 _ 161 (6 + i) = _
            rw [u2_o (by omega)]
            show u2 K1 161 (12 + i) _ 161 (6 + i) = _
            rw [u2_o (by omega)]
            show u2 K 161 (6 + i) _ 161 (6 + i) = _
            rw [u2_s, r2]
          have v12 : K4 161 (12 + i) = S (12 + i) + 1 := by
            show u2 K3 161 i _ 161 (12 + i) = _
            rw [u2_o (by omega)]
            show u2 K2 161 24 _ 161 (12 + i) = _
            rw [u2_o (by omega)]
            show u2 K1 161 (12 + i) _ 161 (12 + i) = _
            rw [u2_s]
            show u2 K 161 (6 + i) _ 161 (12 + i) + 1 = _
            rw [u2_o (by omega), r3]
          have v24 : K4 161 24 = gWt P V calm S (i + 1) := by
            show u2 K3 161 i _ 161 24 = _
            rw [u2_o (by omega)]
            show u2 K2 161 24 _ 161 24 = _
            rw [u2_s, eW]
            have x1 : K2 161 24 = gWt P V calm S i := by
              show u2 K1 161 (12 + i) _ 161 24 = _
              rw [u2_o (by omega)]
              show u2 K 161 (6 + i) _ 161 24 = _
              rw [u2_o (by omega)]
              exact r4
            have x2 : K2 153 (14 + 4 * i) = nI (P.1 (14 + 4 * i)) := by
              show u2 K1 161 (12 + i) _ 153 _ = _
              rw [u2_o (by omega)]
              show u2 K 161 (6 + i) _ 153 _ = _
              rw [u2_o (by omega)]
              exact e14
            rw [x1, x2]
          have vo : ∀ j, j < 25 → j ≠ i → j ≠ 6 + i → j ≠ 12 + i → j ≠ 24 → K4 161 j = T2 P V calm S i j := fun j hj z1 z2 z3 z4 => by
            show u2 K3 161 i _ 161 j = _
            rw [u2_o (by omega)]
            show u2 K2 161 24 _ 161 j = _
            rw [u2_o (by omega)]
            show u2 K1 161 (12 + i) _ 161 j = _
            rw [u2_o (by omega)]
            show u2 K 161 (6 + i) _ 161 j = _
            rw [u2_o (by omega)]
            exact k2 j hj
          conv => whnf
          refine ⟨fun x => ?_, fun x => ?_⟩
          · have x : K4 161 i < 1 := x
            rw [v0] at x
            rw [if_pos x] at eF
            conv => whnf
            refine ⟨i, ⟨rfl, by omega, show i < 25 by omega⟩, ?_⟩
            conv => whnf
            refine ⟨6 + i, ⟨nI_add 6 i, by omega, show 6 + i < 25 by omega⟩, ?_⟩
            conv => whnf
            refine m208 _ (u2 (u2 K4 161 i 0) 161 (6 + i) 0) (fun x j z => by rw [u2_o (by omega), u2_o (by omega)]; exact o4 x j z) (fun j hj => ?_)
            rw [T2_s hF hi, eF]
            unfold uR
            by_cases z4 : j = 24
            · subst z4
              rw [if_pos rfl, u2_o (by omega), u2_o (by omega)]; exact v24
            · rw [if_neg z4]
              by_cases z3 : j = 12 + i
              · subst z3
                rw [if_pos rfl, u2_o (by omega), u2_o (by omega)]; exact v12
              · rw [if_neg z3]
                by_cases z2 : j = 6 + i
                · subst z2
                  rw [if_pos rfl, u2_s]
                · rw [if_neg z2]
                  by_cases z1 : j = i
                  · subst z1
                    rw [if_pos rfl, u2_o (by omega), u2_s]
                  · rw [if_neg z1, u2_o (by omega), u2_o (by omega)]
                    exact vo j hj z1 z2 z3 z4
          · have x : ¬ K4 161 i < 1 := x
            rw [v0] at x
            rw [if_neg x] at eF
            conv => whnf
            refine m208 _ K4 o4 (fun j hj => ?_)
            rw [T2_s hF hi, eF]
            unfold uR
            by_cases z4 : j = 24
            · subst z4
              rw [if_pos rfl]; exact v24
            · rw [if_neg z4]
              by_cases z3 : j = 12 + i
              · subst z3
                rw [if_pos rfl]; exact v12
              · rw [if_neg z3]
                by_cases z2 : j = 6 + i
                · subst z2
                  rw [if_pos rfl, v6, n2, eh]
                  rfl
                · rw [if_neg z2]
                  by_cases z1 : j = i
                  · subst z1
                    rw [if_pos rfl]; exact v0
                  · rw [if_neg z1]
                    exact vo j hj z1 z2 z3 z4
      · have z : K 161 i = 0 := z
        rw [r1] at z
        conv => whnf
        exact non (decide_eq_false (fun x => x.1 z))
  have canons : ∀ i, i ≤ P.1 5 → ∀ K : Nat → Nat → Int32, (∀ x j, x ≠ 161 → K x j = I x j) → (∀ j, j < 25 → K 161 j = T1 P V calm S i j) → Wf l X uX7_dayOn (d + 1) true (mC (mk w p r I L) + 0, mS (mk w p r I L) + 0) 15 [(0, .ref 150), (1, .ref 161), (2, .int (bI calm)), (3, .int (nI i))] [] (mk w p r K L) kr := by
    refine down _ (P.1 5) ?_ ?_
    · intro K k1 k2
      refine Wf.gc tkX7_dayOn [89] ?_
      conv => whnf
      refine ⟨5, ⟨rfl, by decide, show 5 < 202 by decide⟩, ?_⟩
      conv => whnf
      refine b1' (by show K 153 5 ≤ nI (P.1 5); rw [rI 5 (by decide) (by decide) K k1]; exact Int32.le_refl _) ?_
      conv => whnf
      exact faces 0 (Nat.zero_le _) K k1 (fun j hj => by rw [k2 j hj, T12 hF])
    · intro i hi ih K k1 k2
      obtain ⟨g, hg, eg⟩ := hS.2.1 i hi
      have hO := gO_of hS hi eg
      obtain ⟨-, -, p1, p2⟩ := hP.2.1 i hi
      obtain ⟨hh, h99, eh⟩ := hS.1 g hg
      have tt : ∀ j, j < 25 → ¬ (6 ≤ j ∧ j < 12) → j ≠ 23 → j ≠ 24 → T1 P V calm S i j = S j := fun j z1 z2 z3 z4 => by
        unfold T1
        rw [if_neg z3, if_neg z4, if_neg (by omega)]
      have r23 : K 161 23 = S 23 + 1 := (k2 23 (by decide)).trans rfl
      have r18 : K 161 (18 + i) = nI g := (k2 (18 + i) (by omega)).trans ((tt (18 + i) (by omega) (by omega) (by omega) (by omega)).trans eg)
      have rg : K 161 g = S g := (k2 g (by omega)).trans (tt g (by omega) (by omega) (by omega) (by omega))
      have r6 : K 161 (6 + g) = S (6 + g) := (k2 (6 + g) (by omega)).trans (T1_g hF hS hi hg eg)
      have e36 : K 153 (36 + 2 * i) = nI (P.1 (36 + 2 * i)) := rI (36 + 2 * i) (by omega) (by omega) K k1
      have m81 : ∀ K' : Nat → Nat → Int32, (∀ x j, x ≠ 161 → K' x j = I x j) → (∀ j, j < 25 → K' 161 j = T1 P V calm S (i + 1) j) → Wf l X uX7_dayOn (d + 1) true (mC (mk w p r I L) + 0, mS (mk w p r I L) + 0) 81 [(0, .ref 150), (1, .ref 161), (2, .int (bI calm)), (3, .int (nI i))] [] (mk w p r K' L) kr := by
        intro K' q1 q2
        refine Wf.gc tkX7_dayOn [15] ?_
        conv => whnf
        show Wf l X uX7_dayOn (d + 1) true (mC (mk w p r I L) + 0, mS (mk w p r I L) + 0) 15 [(0, .ref 150), (1, .ref 161), (2, .int (bI calm)), (3, .int (nI i + 1))] [] (mk w p r K' L) kr
        rw [nI_s]
        exact ih K' q1 q2
      have s81 : gB P V calm S g = S (6 + g) → Wf l X uX7_dayOn (d + 1) true (mC (mk w p r I L) + 0, mS (mk w p r I L) + 0) 81 [(0, .ref 150), (1, .ref 161), (2, .int (bI calm)), (3, .int (nI i))] [] (mk w p r K L) kr := fun hB' => m81 K k1 (fun j hj => by rw [k2 j hj, T1_e hF hS hi hg eg hB'])
      refine Wf.gc tkX7_dayOn [81] ?_
      conv => whnf
      refine ⟨5, ⟨rfl, by decide, show 5 < 202 by decide⟩, ?_⟩
      conv => whnf
      refine b2' (by show ¬ K 153 5 ≤ nI i; rw [rI 5 (by decide) (by decide) K k1, nI_leI (by omega) (by omega)]; omega) ?_
      conv => whnf
      cases hcm : calm with
      | true =>
        refine b1 (by decide) ?_
        conv => whnf
        have q := s81 (gB_c hO (Or.inl hcm))
        rw [hcm] at q
        exact q
      | false =>
        refine b2 (fun z => z rfl) ?_
        conv => whnf
        refine ⟨23, ⟨rfl, by decide, show 23 < 25 by decide⟩, ?_⟩
        conv => whnf
        refine ⟨36 + 2 * i, ⟨i36 i, by omega, show 36 + 2 * i < 202 by omega⟩, ?_⟩
        conv => whnf
        refine ⟨by show ¬ K 153 (36 + 2 * i) = 0; rw [e36]; exact fun z => absurd ((nI_eq (by omega) (by decide)).mp (z.trans (show (0 : Int32) = nI 0 from rfl))) (by omega), ?_⟩
        conv => whnf
        refine ⟨fun z => ?_, fun z => ?_⟩
        · have z : ¬ jr (K 161 23) (K 153 (36 + 2 * i)) = 0 := z
          rw [r23, e36] at z
          conv => whnf
          have q := s81 (gB_c hO (Or.inr (Or.inl z)))
          rw [hcm] at q
          exact q
        · have z : jr (K 161 23) (K 153 (36 + 2 * i)) = 0 := z
          rw [r23, e36] at z
          conv => whnf
          refine ⟨18 + i, ⟨nI_add 18 i, by omega, show 18 + i < 25 by omega⟩, ?_⟩
          conv => whnf
          refine ⟨g, ⟨r18, by omega, show g < 25 by omega⟩, ?_⟩
          conv => whnf
          refine ⟨fun y => ?_, fun y => ?_⟩
          · have y : K 161 g ≤ 0 := y
            rw [rg, eh, nI_le0 h99, ← eh] at y
            conv => whnf
            have q := s81 (gB_c hO (Or.inr (Or.inr y)))
            rw [hcm] at q
            exact q
          · have y : ¬ K 161 g ≤ 0 := y
            rw [rg, eh, nI_le0 h99, ← eh] at y
            conv => whnf
            refine ⟨18 + i, ⟨nI_add 18 i, by omega, show 18 + i < 25 by omega⟩, ?_⟩
            conv => whnf
            refine ⟨6 + g, ⟨by show 6 + K 161 (18 + i) = _; rw [r18]; exact nI_add 6 g, by omega, show 6 + g < 25 by omega⟩, ?_⟩
            conv => whnf
            refine ⟨i, ⟨rfl, by omega, show i < 5 by omega⟩, ?_⟩
            conv => whnf
            refine ⟨6 + g, ⟨by show 6 + K 161 (18 + i) = _; rw [r18]; exact nI_add 6 g, by omega, show 6 + g < 25 by omega⟩, ?_⟩
            conv => whnf
            have q := m81 (u2 K 161 (6 + g) (K 161 (6 + g) + K 160 i)) (fun x j z => by rw [u2_o (by omega)]; exact k1 x j z) (fun j hj => by
              rw [T1_s hF hS hi hg eg, gB_v hO hcm (by omega) (by omega) z y]
              unfold uR
              by_cases e : j = 6 + g
              · subst e
                rw [u2_s, if_pos rfl, r6, k1 160 i (by decide), hV i hi]
              · rw [u2_o (by omega), if_neg e]
                exact k2 j hj)
            rw [hcm] at q
            exact q
  refine canons 0 (Nat.zero_le _) (u2 (u2 I 161 23 (I 161 23 + 1)) 161 24 0) (fun x j z => by rw [u2_o (by omega), u2_o (by omega)]) (fun j hj => ?_)
  unfold T1
  by_cases z1 : j = 23
  · subst z1
    rw [u2_o (by omega), u2_s, if_pos rfl, hI 23 (by decide)]
  · rw [if_neg z1]
    by_cases z2 : j = 24
    · subst z2
      rw [u2_s, if_pos rfl]
    · rw [if_neg z2, u2_o (by omega), u2_o (by omega), hI j hj]
      split
      · rename_i z3
        unfold gM1
        cases gO P S (j - 6) with
        | none => show S j = S (6 + (j - 6)); rw [show 6 + (j - 6) = j by omega]
        | some c =>
          show S j = if c < 0 then _ else S (6 + (j - 6))
          rw [if_neg (Nat.not_lt_zero _), show 6 + (j - 6) = j by omega]
      · rfl
end RDO
end
section
section RDD
variable {l : Launch} {X : Nat × (Nat → Int32)} {d : Nat} {w : Nat × Nat} {p r : Nat} {I I' : Nat → Nat → Int32} {L : Nat → Nat → Int64} {kr : KR} {A : Ast}
set_option maxRecDepth 20000 in
theorem y_day (hR : RA A) (hA0 : AS7 A I) (h : ∀ I', AS7 (aDay A).2 I' → kr (some (.int (aDay A).1)) (mk w p r I' L)) : Ev l X uX7_day (d + 3) true 0 0 [.ref 150] (mk w p r I L) kr := by
  obtain ⟨hF, hC⟩ := ra_FC hR
  have hU4 : A.1.1 7 ≤ 4 := hR.1.1.1.1.1.2.2.2.2.2.2
  obtain ⟨n, hn, e23, -⟩ := hR.2.2.1.2.2.2
  refine Ev.of (by decide) (Nat.le_of_ble_eq_true rfl) ?_
  refine Wf.gc tkX7_day [] ?_
  conv => whnf
  refine y_good ?_
  have hA := AS7_g hA0
  generalize hH : u2 (u2 I 150 0 0) 150 11 0 = H at hA
  have h14 : H 150 14 = 1 := hA.1
  have s23 : H 157 23 = A.2.1 23 := hA.2.2.2.1 23 (by decide)
  unfold aDay at h
  conv => whnf
  refine b1 (by show ¬ H 150 14 = 0; rw [h14]; decide) ?_
  conv => whnf
  refine ⟨23, ⟨rfl, by decide, show 23 < 25 by decide⟩, ?_⟩
  conv => whnf
  refine ⟨fun z => ?_, fun z => ?_⟩
  · have z : ¬ H 157 23 = 999 := z
    rw [s23] at z
    have hlt : A.2.1 23 < 999 := by
      rw [e23] at z ⊢
      rw [show (999 : Int32) = nI 999 from rfl, nI_ltI (by omega) (by decide)]
      rcases Nat.lt_or_ge n 999 with y | y
      · exact y
      · exact absurd (by rw [show n = 999 by omega]; rfl) z
    rw [if_pos hlt] at h
    conv => whnf
    refine y_note (d := d + 1) hR hA (fun J jo hJ => ?_)
    conv => whnf
    refine y_vexed0 (d := d + 1) (N := A.1.1 5) (U := A.1.1 7) (F := A.1.1) (hJ.2.1.1 5 (by decide) (by decide)) hC (hJ.2.1.1 7 (by decide) (by decide)) hU4 (fun c hc => hJ.2.1.1 (35 + 2 * c) (by have : c < A.1.1 5 := hc; omega) (by omega)) (fun K k1 k2 => ?_)
    conv => whnf
    have hK : AS7 (A.1, A.2.1, psh A.2.2.1 A.2.1, A.2.2.2) K := AS7_o hJ (fun x i z => k1 x i (by omega))
    refine y_dayOn_157 (d := d + 1) (P := A.1) (S := A.2.1) (V := vx0 A.1) (calm := false) hR.1.1 hR.1.2.1 hR.2.2.1.g hK.2.1 k2 hK.2.2.2.1 (fun Q q1 q2 => ?_)
    rw [nR_g] at q2
    conv => whnf
    refine ⟨24, ⟨rfl, by decide, show 24 < 25 by decide⟩, ?_⟩
    conv => whnf
    show kr (some (.int (Q 157 24))) (mk w p r Q L)
    have e24 : Q 157 24 = wtS A.1 A.2.1 (A.1.1 4) := by
      rw [q2 24 (by decide)]
      unfold nR
      rw [if_neg (by omega), if_neg (by omega), if_neg (by omega), if_neg (by decide), if_pos rfl]
    rw [e24]
    exact h _ (AS7_st hK q1 q2)
  · have z : H 157 23 = 999 := z
    rw [s23] at z
    rw [if_neg (by rw [z]; decide)] at h
    conv => whnf
    refine y_no ?_
    conv => whnf
    exact h _ (AS7_11 hA 3)
end RDD
end
section
/-! the acts keep the plain state's bounds -/
section RAK
variable {A : Ast} {P : Ps} {S : Rw} {U G : List Rw}
theorem RA_mk (h1 : B3 P ∧ PI P.1 ∧ 0 < P.1 4) (h2 : U.length ≤ 16) (h3 : G.length ≤ 3) (h4 : RI P S) (h5 : ∀ j, j < U.length → RI P (rD U j)) (h6 : ∀ j, j < G.length → RI P (rD G j)) : RA (P, S, U, G) := ⟨h1, ⟨h2, h3⟩, h4, h5, h6⟩
theorem psh_RI (hU : U.length ≤ 16) (hS : RI P S) (h : ∀ j, j < U.length → RI P (rD U j)) : (psh U S).length ≤ 16 ∧ ∀ j, j < (psh U S).length → RI P (rD (psh U S) j) := by
  refine ⟨by rw [psh_len hU]; split <;> omega, fun j hj => ?_⟩
  rcases psh_D hU hj with ⟨-, z⟩ | ⟨-, z, y⟩
  · rw [z]; exact hS
  · rw [z]; exact h _ y
theorem RA_give {c f : Int32} (hR : RA A) : RA (aGive A c f).2 := by
  obtain ⟨P, S, U, G⟩ := A
  obtain ⟨h1, ⟨h2, h3⟩, h4, h5, h6⟩ := id hR
  have h2 : U.length ≤ 16 := h2
  obtain ⟨hF, hC⟩ := ra_FC hR
  have hF : P.1 4 ≤ 6 := hF
  have hC : P.1 5 ≤ 5 := hC
  unfold aGive
  split
  · rename_i j g ej eg
    have ej : ixO (P.1 5) c = some j := ej
    have eg : ixO (P.1 4) f = some g := eg
    split
    · rename_i z
      obtain ⟨z1, z2⟩ := z
      have z1 : cnS (P.1 5) S f = none := z1
      obtain ⟨hj, -⟩ := ixO_lt (by omega) ej
      obtain ⟨hg, rfl⟩ := ixO_lt (by omega) eg
      obtain ⟨q1, q2⟩ := psh_RI h2 h4 h5
      refine RA_mk h1 q1 h3 ⟨fun f' hf' => ?_, fun c' hc' => ?_, fun c1 c2 y1 y2 => ?_, ?_⟩ q2 h6
      · rw [uR_o (by omega)]; exact h4.1 f' hf'
      · by_cases e : c' = j
        · subst e
          exact ⟨g, hg, uR_s⟩
        · rw [uR_o (by omega)]; exact h4.2.1 c' hc'
      · have nn : ∀ c, c < P.1 5 → S (18 + c) ≠ nI g := fun c hc y => by
          have := ff_none (P := fun c => decide (S (18 + c) = nI g)) z1 c (Nat.zero_le _) (by omega)
          rw [decide_eq_true y] at this
          cases this
        by_cases e1 : c1 = j
        · subst e1
          rw [uR_s, uR_o (by omega)]
          exact fun y => nn c2 y2 y.symm
        · by_cases e2 : c2 = j
          · subst e2
            rw [uR_s, uR_o (by omega)]
            exact fun y => nn c1 (by omega) y
          · rw [uR_o (by omega), uR_o (by omega)]
            exact h4.2.2.1 c1 c2 y1 y2
      · obtain ⟨n, hn, e, kk⟩ := h4.2.2.2
        exact ⟨n, hn, by rw [uR_o (by omega)]; exact e, fun f hf => by rw [uR_o (by have : f < P.1 4 := hf; omega)]; exact kk f hf⟩
    · exact hR
  · exact hR
theorem RA_mend {f : Int32} (hR : RA A) : RA (aMend A f).2 := by
  obtain ⟨P, S, U, G⟩ := A
  obtain ⟨h1, ⟨h2, h3⟩, h4, h5, h6⟩ := id hR
  obtain ⟨hF, hC⟩ := ra_FC hR
  have hF : P.1 4 ≤ 6 := hF
  unfold aMend
  split
  · exact hR
  · rename_i g eg
    have eg : ixO (P.1 4) f = some g := eg
    obtain ⟨hg, -⟩ := ixO_lt (by omega) eg
    split
    · exact hR
    · obtain ⟨q1, q2⟩ := psh_RI h2 h4 h5
      refine RA_mk h1 q1 h3 ⟨fun f' hf' => ?_, fun c' hc' => ?_, fun c1 c2 y1 y2 => ?_, ?_⟩ q2 h6
      · rw [uR_o (by omega)]
        by_cases e : f' = g
        · subst e
          exact ⟨P.1 (12 + 4 * f'), (h1.2.1.1 f' hf').1.2, uR_s⟩
        · rw [uR_o e]; exact h4.1 f' hf'
      · rw [uR_o (by omega), uR_o (by omega)]; exact h4.2.1 c' hc'
      · rw [uR_o (by omega), uR_o (by omega), uR_o (by omega), uR_o (by omega)]; exact h4.2.2.1 c1 c2 y1 y2
      · obtain ⟨n, hn, e, kk⟩ := h4.2.2.2
        exact ⟨n, hn, by rw [uR_o (by omega), uR_o (by omega)]; exact e, fun f hf => by rw [uR_o (by have : f < P.1 4 := hf; omega), uR_o (by have : f < P.1 4 := hf; omega)]; exact kk f hf⟩
theorem RA_vex {f m : Int32} (hR : RA A) : RA (aVex A f m).2 := by
  obtain ⟨P, S, U, G⟩ := A
  obtain ⟨h1, ⟨h2, h3⟩, h4, h5, h6⟩ := id hR
  obtain ⟨hF, hC⟩ := ra_FC hR
  have hF : P.1 4 ≤ 6 := hF
  unfold aVex
  split
  · exact hR
  · rename_i g eg
    have eg : ixO (P.1 4) f = some g := eg
    obtain ⟨hg, -⟩ := ixO_lt (by omega) eg
    split
    · obtain ⟨q1, q2⟩ := psh_RI h2 h4 h5
      refine RA_mk h1 q1 h3 ⟨fun f' hf' => ?_, fun c' hc' => ?_, fun c1 c2 y1 y2 => ?_, ?_⟩ q2 h6
      · rw [uR_o (by omega)]; exact h4.1 f' hf'
      · rw [uR_o (by omega)]; exact h4.2.1 c' hc'
      · rw [uR_o (by omega), uR_o (by omega)]; exact h4.2.2.1 c1 c2 y1 y2
      · obtain ⟨n, hn, e, kk⟩ := h4.2.2.2
        exact ⟨n, hn, by rw [uR_o (by omega)]; exact e, fun f hf => by rw [uR_o (by have : f < P.1 4 := hf; omega)]; exact kk f hf⟩
    · exact hR
theorem RA_undo (hR : RA A) : RA (aUndo A).2 := by
  obtain ⟨P, S, U, G⟩ := A
  obtain ⟨h1, ⟨h2, h3⟩, h4, h5, h6⟩ := id hR
  unfold aUndo
  split
  · exact hR
  · rename_i z
    have z : ¬ U.length = 0 := z
    have h2 : U.length ≤ 16 := h2
    have ld : U.dropLast.length = U.length - 1 := List.length_dropLast
    refine RA_mk h1 (by rw [ld]; omega) h3 (h5 _ (by show U.length - 1 < U.length; omega)) (fun j hj => ?_) h6
    rw [ld] at hj
    rw [rD_dl hj]
    exact h5 j (by show j < U.length; omega)
theorem RA_image (hR : RA A) : RA (aImage A).2 := by
  obtain ⟨P, S, U, G⟩ := A
  obtain ⟨h1, ⟨h2, h3⟩, h4, h5, h6⟩ := id hR
  unfold aImage
  split
  · rename_i z
    have z : G.length < 3 := z
    have lg : (G ++ [S]).length = G.length + 1 := List.length_append
    refine RA_mk h1 h2 (by rw [lg]; exact z) h4 h5 (fun j hj => ?_)
    have hj : j < G.length + 1 := by rw [← lg]; exact hj
    by_cases e : j = G.length
    · rw [rD_l e]; exact h4
    · have hj2 : j < G.length := by omega
      rw [rD_a hj2]; exact h6 j hj2
  · exact hR
theorem RA_back {i : Int32} (hR : RA A) : RA (aBack A i).2 := by
  obtain ⟨P, S, U, G⟩ := A
  obtain ⟨h1, ⟨h2, h3⟩, h4, h5, h6⟩ := id hR
  unfold aBack
  split
  · exact hR
  · rename_i j ej
    have ej : ixO G.length i = some j := ej
    have h3 : G.length ≤ 3 := h3
    obtain ⟨hj, -⟩ := ixO_lt (by omega) ej
    exact RA_mk h1 (Nat.zero_le _) h3 (h6 j hj) (fun k hk => absurd hk (Nat.not_lt_zero _)) h6
theorem nx_h (hP : PI P.1) (hS : RI P S) {f : Nat} (hf : f < P.1 4) : ∃ h, h ≤ 99 ∧ (nxF P S f).2.1 = nI h := by
  obtain ⟨h, h9, eh⟩ := hS.1 f hf
  obtain ⟨-, w9, -, -⟩ := hP.1 f hf
  unfold nxF cSt
  dsimp only
  split
  · exact ⟨h, h9, eh⟩
  · split
    · exact ⟨h, h9, eh⟩
    · split
      · exact ⟨0, by decide, rfl⟩
      · rename_i z
        rw [eh] at z ⊢
        rcases Nat.lt_or_ge h (P.1 (13 + 4 * f)) with y | y
        · exfalso
          apply z
          rw [Int32.lt_iff_toInt_lt]
          have e1 : (1 : Int32).toInt = 1 := rfl
          have e2 : (nI h).toInt = h := nI_toInt (by omega)
          have e3 : (nI (P.1 (13 + 4 * f))).toInt = (P.1 (13 + 4 * f) : Nat) := nI_toInt (by omega)
          have lo : iLo ≤ -10 := by decide
          have hi : (100 : Int) ≤ iHi := by decide
          rw [sub_i (by rw [e2, e3]; omega) (by rw [e2, e3]; omega), e1, e2, e3]
          omega
        · exact ⟨h - P.1 (13 + 4 * f), by omega, nI_sub y⟩
theorem nx_d {f : Nat} : (nxF P S f).2.2.2 = 0 ∨ (nxF P S f).2.2.2 = 1 := by
  unfold nxF cSt
  dsimp only
  split
  · exact Or.inl rfl
  · split
    · exact Or.inl rfl
    · split
      · exact Or.inr rfl
      · exact Or.inr rfl
theorem RA_day (hR : RA A) : RA (aDay A).2 := by
  obtain ⟨P, S, U, G⟩ := A
  obtain ⟨h1, ⟨h2, h3⟩, h4, h5, h6⟩ := id hR
  obtain ⟨hF, hC⟩ := ra_FC hR
  have hF : P.1 4 ≤ 6 := hF
  have hC : P.1 5 ≤ 5 := hC
  unfold aDay
  split
  · rename_i z
    have z : S 23 < 999 := z
    obtain ⟨q1, q2⟩ := psh_RI h2 h4 h5
    have n18 : ∀ c, c < P.1 5 → nR P S (18 + c) = S (18 + c) := fun c hc => by
      unfold nR
      rw [if_neg (by omega), if_neg (by omega), if_neg (by omega), if_neg (by omega), if_neg (by omega)]
    refine RA_mk h1 q1 h3 ⟨fun f' hf' => ?_, fun c' hc' => ?_, fun c1 c2 y1 y2 => ?_, ?_⟩ q2 h6
    · show ∃ h, h ≤ 99 ∧ nR P S f' = nI h
      have hf' : f' < P.1 4 := hf'
      unfold nR
      rw [if_pos hf']
      exact nx_h h1.2.1 h4 hf'
    · show ∃ j, j < P.1 4 ∧ nR P S (18 + c') = nI j
      rw [n18 c' hc']; exact h4.2.1 c' hc'
    · show nR P S (18 + c1) ≠ nR P S (18 + c2)
      have y2 : c2 < P.1 5 := y2
      rw [n18 c1 (by omega), n18 c2 y2]; exact h4.2.2.1 c1 c2 y1 y2
    · obtain ⟨n, hn, e, kk⟩ := h4.2.2.2
      have e : S 23 = nI n := e
      refine ⟨n + 1, ?_, ?_, fun f hf => ?_⟩
      · rw [e, show (999 : Int32) = nI 999 from rfl, nI_ltI (by omega) (by decide)] at z
        omega
      · show nR P S 23 = nI (n + 1)
        unfold nR
        rw [if_neg (by omega), if_neg (by omega), if_neg (by omega), if_pos rfl, e, nI_s]
      · have hf : f < P.1 4 := hf
        obtain ⟨k, hk, ek⟩ := kk f hf
        have ek : S (12 + f) = nI k := ek
        have e12 : nR P S (12 + f) = S (12 + f) + (nxF P S f).2.2.2 := by
          unfold nR
          rw [if_neg (by omega), if_neg (by omega), if_pos (by omega), Nat.add_sub_cancel_left]
        show ∃ k, k ≤ n + 1 ∧ nR P S (12 + f) = nI k
        rw [e12, ek]
        rcases nx_d (P := P) (S := S) (f := f) with y | y
        · exact ⟨k, by omega, by rw [y, Int32.add_zero]⟩
        · exact ⟨k + 1, by omega, by rw [y, nI_s]⟩
  · exact hR
/-- the state behind a close -/
noncomputable def S0 (P : Ps) : Rw := fun i => if i < 6 then nI (P.1 (12 + 4 * i)) else if 18 ≤ i ∧ i < 23 then nI (P.1 (300 + (i - 18))) else 0
noncomputable def A0 (P : Ps) : Ast := (P, S0 P, [], [])
theorem RA_0 (hB : B3 P) (hP : PI P.1) (h0 : 0 < P.1 4) : RA (A0 P) := by
  have hF : P.1 4 ≤ 6 := hB.1.1.1.2.2.2.1
  have hC : P.1 5 ≤ 5 := hB.1.1.1.2.2.2.2.1
  have s18 : ∀ c, c < 5 → S0 P (18 + c) = nI (P.1 (300 + c)) := fun c hc => by
    unfold S0
    rw [if_neg (by omega), if_pos (by omega), Nat.add_sub_cancel_left]
  refine RA_mk ⟨hB, hP, h0⟩ (Nat.zero_le _) (Nat.zero_le _) ⟨fun f hf => ?_, fun c hc => ?_, fun c1 c2 y1 y2 => ?_, 0, by decide, rfl, fun f hf => ⟨0, Nat.le_refl _, by unfold S0; rw [if_neg (by omega), if_neg (by omega)]; rfl⟩⟩ (fun j hj => absurd hj (Nat.not_lt_zero _)) (fun j hj => absurd hj (Nat.not_lt_zero _))
  · refine ⟨P.1 (12 + 4 * f), (hP.1 f hf).1.2, ?_⟩
    unfold S0
    rw [if_pos (by omega)]
  · exact ⟨P.1 (300 + c), (hP.2.1 c hc).1, s18 c (by omega)⟩
  · rw [s18 c1 (by omega), s18 c2 (by omega)]
    intro y
    have a1 := (hP.2.1 c1 (by omega)).1
    have a2 := (hP.2.1 c2 y2).1
    exact hP.2.2.1 c1 c2 y1 y2 ((nI_eq (by omega) (by omega)).mp y)
end RAK
end
section
/-! no close yet; the acts over both kinds of state -/
section NCL
variable {l : Launch} {X : Nat × (Nat → Int32)} {d : Nat} {w : Nat × Nat} {p r : Nat} {I I' : Nat → Nat → Int32} {L : Nat → Nat → Int64} {kr : KR}
noncomputable def NC6 (p : Nat) (I : Nat → Nat → Int32) : Prop := PC p F00 0 I ∧ I 1 6 = 0 ∧ I 1 8 = 0 ∧ I 33 4 = 0
noncomputable def NC7 (I : Nat → Nat → Int32) : Prop := I 150 14 = 0 ∧ I 150 22 = 0 ∧ I 150 23 = 0
theorem PC0_cg {q : Nat} (hq : q = 7 ∨ q = 20) (h : PC q F00 0 I) (he : ∀ a k, q ≤ a → a ≤ q + 12 → isI a k = true → I' a k = I a k) : PC q F00 0 I' := by
  obtain ⟨⟨a0, a1, a2, a3, a4, a5, a6, a7⟩, b1, b2, b3, b4, b5⟩ := h
  obtain ⟨p0, p1, p2, p3, p4, p5, p6, p7⟩ := pl_I hq
  refine ⟨⟨?_, ?_, ?_, ?_, ?_, ?_, ?_, ?_⟩, fun f hf => absurd hf (Nat.not_lt_zero _), fun f hf => ?_, fun c hc => absurd hc (Nat.not_lt_zero _), fun k hk => absurd hk (Nat.not_lt_zero _), fun u hu => absurd hu (Nat.not_lt_zero _)⟩
  · rw [he q 0 (by omega) (by omega) p0]; exact a0
  · rw [he q 1 (by omega) (by omega) p1]; exact a1
  · rw [he q 2 (by omega) (by omega) p2]; exact a2
  · rw [he q 3 (by omega) (by omega) p3]; exact a3
  · rw [he q 4 (by omega) (by omega) p4]; exact a4
  · rw [he q 10 (by omega) (by omega) p5]; exact a5
  · rw [he q 14 (by omega) (by omega) p6]; exact a6
  · rw [he q 17 (by omega) (by omega) p7]; exact a7
  · obtain ⟨-, -, -, -, x5⟩ := (pl_J hq (k := f)).1 hf
    rw [he _ f (by omega) (by omega) x5]
    exact b2 f hf
theorem NC6_13 (hp : p = 7 ∨ p = 20) (h : NC6 p I) (v : Int32) : NC6 p (u2 I 1 13 v) :=
  ⟨PC0_cg hp h.1 (fun a k z1 z2 _ => u2_o (by omega)), by rw [u2_o (by decide)]; exact h.2.1, by rw [u2_o (by decide)]; exact h.2.2.1, by rw [u2_o (by decide)]; exact h.2.2.2⟩
theorem NC7_g (h : NC7 I) : NC7 (u2 (u2 I 150 0 0) 150 11 0) :=
  ⟨by rw [u2_o (by decide), u2_o (by decide)]; exact h.1, by rw [u2_o (by decide), u2_o (by decide)]; exact h.2.1, by rw [u2_o (by decide), u2_o (by decide)]; exact h.2.2⟩
theorem NC7_11 (h : NC7 I) (v : Int32) : NC7 (u2 I 150 11 v) :=
  ⟨by rw [u2_o (by decide)]; exact h.1, by rw [u2_o (by decide)]; exact h.2.1, by rw [u2_o (by decide)]; exact h.2.2⟩
theorem nc4 (h : NC6 p I) : I p 4 = nI 0 ∧ I p 10 = nI 0 := ⟨h.1.1.2.2.2.2.1, h.1.1.2.2.2.2.2.1⟩
theorem nc_no {f : Int32} : ¬ ∃ j, j < 0 ∧ f = nI j := fun ⟨_, h, _⟩ => absurd h (Nat.not_lt_zero _)
set_option maxRecDepth 20000 in
theorem x_give0 {c f : Int32} (hp : p = 7 ∨ p = 20) (hA : NC6 p I) (h : ∀ I', NC6 p I' → kr (some (.int (-1))) (mk w p r I' L)) : Ev l X uX6_give (d + 4) true 0 0 [.ref 1, .int c, .int f] (mk w p r I L) kr := by
  refine Ev.of (by decide) (Nat.le_of_ble_eq_true rfl) ?_
  refine Wf.gc tkX6_give [] ?_
  conv => whnf
  refine sX6_isCanon hp (nc4 hA).2 (by decide) (fun j hj _ => absurd hj (Nat.not_lt_zero _)) (fun z => ?_)
  conv => whnf
  refine b1' rfl ?_
  conv => whnf
  refine sX6_refuse ?_
  conv => whnf
  exact h _ (NC6_13 hp hA 1)
set_option maxRecDepth 20000 in
theorem x_vex0 {f m : Int32} (hp : p = 7 ∨ p = 20) (hA : NC6 p I) (h : ∀ I', NC6 p I' → kr (some (.int (-1))) (mk w p r I' L)) : Ev l X uX6_vex (d + 4) true 0 0 [.ref 1, .int f, .int m] (mk w p r I L) kr := by
  refine Ev.of (by decide) (Nat.le_of_ble_eq_true rfl) ?_
  refine Wf.gc tkX6_vex [] ?_
  conv => whnf
  refine sX6_isFace hp (nc4 hA).1 (by decide) (fun j hj _ => absurd hj (Nat.not_lt_zero _)) (fun z => ?_)
  conv => whnf
  refine b2 (fun z => z rfl) ?_
  conv => whnf
  refine sX6_refuse ?_
  conv => whnf
  exact h _ (NC6_13 hp hA 1)
set_option maxRecDepth 20000 in
theorem x_mend0 {f : Int32} (hp : p = 7 ∨ p = 20) (hA : NC6 p I) (h : ∀ I', NC6 p I' → kr (some (.int 0)) (mk w p r I' L)) : Ev l X uX6_mend (d + 4) true 0 0 [.ref 1, .int f] (mk w p r I L) kr := by
  refine Ev.of (by decide) (Nat.le_of_ble_eq_true rfl) ?_
  refine Wf.gc tkX6_mend [] ?_
  conv => whnf
  refine sX6_isFace hp (nc4 hA).1 (by decide) (fun j hj _ => absurd hj (Nat.not_lt_zero _)) (fun z => ?_)
  conv => whnf
  refine b2 (fun z => z rfl) ?_
  conv => whnf
  refine sX6_refuse ?_
  conv => whnf
  exact ⟨Or.inl rfl, h _ (NC6_13 hp hA 1)⟩
set_option maxRecDepth 20000 in
theorem x_undo0 (hp : p = 7 ∨ p = 20) (hA : NC6 p I) (h : ∀ I', NC6 p I' → kr (some (.int 0)) (mk w p r I' L)) : Ev l X uX6_undo (d + 2) true 0 0 [.ref 1] (mk w p r I L) kr := by
  refine Ev.of (by decide) (Nat.le_of_ble_eq_true rfl) ?_
  refine Wf.gc tkX6_undo [] ?_
  conv => whnf
  refine b2 (fun z => z hA.2.1) ?_
  conv => whnf
  refine sX6_refuse ?_
  conv => whnf
  exact ⟨Or.inl rfl, h _ (NC6_13 hp hA 6)⟩
set_option maxRecDepth 20000 in
theorem x_image0 (hp : p = 7 ∨ p = 20) (hA : NC6 p I) (h : ∀ I', NC6 p I' → kr (some (.int (-1))) (mk w p r I' L)) : Ev l X uX6_image (d + 2) true 0 0 [.ref 1] (mk w p r I L) kr := by
  refine Ev.of (by decide) (Nat.le_of_ble_eq_true rfl) ?_
  refine Wf.gc tkX6_image [] ?_
  conv => whnf
  refine sX6_hasClose hp (fun z => absurd z (by rw [(nc4 hA).1]; decide)) (fun z => ?_)
  conv => whnf
  refine b2 (fun z => z rfl) ?_
  conv => whnf
  refine sX6_refuse ?_
  conv => whnf
  exact h _ (NC6_13 hp hA 1)
set_option maxRecDepth 20000 in
theorem x_day0 (hp : p = 7 ∨ p = 20) (hA : NC6 p I) (h : ∀ I', NC6 p I' → kr (some (.int (-1))) (mk w p r I' L)) : Ev l X uX6_day (d + 4) true 0 0 [.ref 1] (mk w p r I L) kr := by
  refine Ev.of (by decide) (Nat.le_of_ble_eq_true rfl) ?_
  refine Wf.gc tkX6_day [] ?_
  conv => whnf
  refine sX6_hasClose hp (fun z => absurd z (by rw [(nc4 hA).1]; decide)) (fun z => ?_)
  conv => whnf
  refine b2 (fun z => z rfl) ?_
  conv => whnf
  refine sX6_refuse ?_
  conv => whnf
  exact h _ (NC6_13 hp hA 1)
set_option maxRecDepth 20000 in
theorem x_back0 {i : Int32} (hp : p = 7 ∨ p = 20) (hA : NC6 p I) (h : ∀ I', NC6 p I' → kr (some (.int 0)) (mk w p r I' L)) : Ev l X uX6_back (d + 2) true 0 0 [.ref 1, .int i] (mk w p r I L) kr := by
  refine Ev.of (by decide) (Nat.le_of_ble_eq_true rfl) ?_
  refine Wf.gc tkX6_back [12] ?_
  have no : Wf l X uX6_back (d + 2) true (mC (mk w p r I L) + 0, mS (mk w p r I L) + 0) 12 [(0, .ref 1), (1, .int i)] [] (mk w p r I L) kr := by
    refine Wf.gc tkX6_back [] ?_
    conv => whnf
    refine sX6_refuse ?_
    conv => whnf
    exact ⟨Or.inl rfl, h _ (NC6_13 hp hA 1)⟩
  conv => whnf
  refine ⟨fun z => ?_, fun z => ?_⟩
  · conv => whnf
    exact no
  · have z : ¬ i < 0 := z
    conv => whnf
    refine b2' (by show ¬ i < I 1 8; rw [hA.2.2.1]; exact z) ?_
    conv => whnf
    exact no
set_option maxRecDepth 20000 in
theorem y_isFace0 {f : Int32} (h14 : I 150 14 = 0) (h : kr (some (.int 0)) (mk w p r I L)) : Ev l X uX7_isFace (d + 1) true 0 0 [.ref 150, .int f] (mk w p r I L) kr := by
  refine Ev.of (by decide) (Nat.le_of_ble_eq_true rfl) ?_
  refine Wf.gc tkX7_isFace [] ?_
  conv => whnf
  refine b1' h14 ?_
  conv => whnf
  exact ⟨Or.inl rfl, h⟩
set_option maxRecDepth 20000 in
theorem y_isCanon0 {f : Int32} (h14 : I 150 14 = 0) (h : kr (some (.int 0)) (mk w p r I L)) : Ev l X uX7_isCanon (d + 1) true 0 0 [.ref 150, .int f] (mk w p r I L) kr := by
  refine Ev.of (by decide) (Nat.le_of_ble_eq_true rfl) ?_
  refine Wf.gc tkX7_isCanon [] ?_
  conv => whnf
  refine b1' h14 ?_
  conv => whnf
  exact ⟨Or.inl rfl, h⟩
set_option maxRecDepth 20000 in
theorem y_give0 {c f : Int32} (hA0 : NC7 I) (h : ∀ I', NC7 I' → kr (some (.int (-1))) (mk w p r I' L)) : Ev l X uX7_give (d + 3) true 0 0 [.ref 150, .int c, .int f] (mk w p r I L) kr := by
  refine Ev.of (by decide) (Nat.le_of_ble_eq_true rfl) ?_
  refine Wf.gc tkX7_give [] ?_
  conv => whnf
  refine y_good ?_
  have hA := NC7_g hA0
  generalize hH : u2 (u2 I 150 0 0) 150 11 0 = H at hA
  conv => whnf
  refine y_isCanon0 (d := d + 1) hA.1 ?_
  conv => whnf
  refine b1' rfl ?_
  conv => whnf
  refine y_no ?_
  conv => whnf
  exact h _ (NC7_11 hA 1)
set_option maxRecDepth 20000 in
theorem y_mend0 {f : Int32} (hA0 : NC7 I) (h : ∀ I', NC7 I' → kr (some (.int 0)) (mk w p r I' L)) : Ev l X uX7_mend (d + 3) true 0 0 [.ref 150, .int f] (mk w p r I L) kr := by
  refine Ev.of (by decide) (Nat.le_of_ble_eq_true rfl) ?_
  refine Wf.gc tkX7_mend [] ?_
  conv => whnf
  refine y_good ?_
  have hA := NC7_g hA0
  generalize hH : u2 (u2 I 150 0 0) 150 11 0 = H at hA
  conv => whnf
  refine y_isFace0 (d := d + 1) hA.1 ?_
  conv => whnf
  refine b2 (fun z => z rfl) ?_
  conv => whnf
  refine y_isNot ?_
  conv => whnf
  exact ⟨Or.inl rfl, h _ (NC7_11 hA 1)⟩
set_option maxRecDepth 20000 in
theorem y_vex0 {f m : Int32} (hA0 : NC7 I) (h : ∀ I', NC7 I' → kr (some (.int (-1))) (mk w p r I' L)) : Ev l X uX7_vex (d + 3) true 0 0 [.ref 150, .int f, .int m] (mk w p r I L) kr := by
  refine Ev.of (by decide) (Nat.le_of_ble_eq_true rfl) ?_
  refine Wf.gc tkX7_vex [20] ?_
  conv => whnf
  refine y_good ?_
  have hA := NC7_g hA0
  generalize hH : u2 (u2 I 150 0 0) 150 11 0 = H at hA
  have whf : ∀ b : Bool, Ev l X uX7_why (d + 2) true 0 0 [.ref 150, .int (bI false), .int (bI b)] (mk w p r H L) (fun r_1 M' => Wf l X uX7_vex (d + 3) true (mC (mk w p r I L) + 0, mS (mk w p r I L) + 0) 20 [(0, .ref 150), (1, .int f), (2, .int m)] (r_1.toList ++ []) M' kr) := by
    intro b
    refine y_why ?_
    show Wf l X uX7_vex (d + 3) true (mC (mk w p r I L) + 0, mS (mk w p r I L) + 0) 20 [(0, .ref 150), (1, .int f), (2, .int m)] [.int 1] (mk w p r H L) kr
    refine Wf.gc tkX7_vex [] ?_
    conv => whnf
    refine b1 (by decide) ?_
    conv => whnf
    refine b2' (by decide) ?_
    conv => whnf
    refine y_no ?_
    conv => whnf
    exact h _ (NC7_11 hA 1)
  conv => whnf
  refine y_isFace0 (d := d + 1) hA.1 ?_
  conv => whnf
  refine y_in (fun c1 c2 => ?_) (fun c1 => ?_)
  · conv => whnf
    exact whf true
  · conv => whnf
    exact whf false
set_option maxRecDepth 20000 in
theorem y_undo0 (hA0 : NC7 I) (h : ∀ I', NC7 I' → kr (some (.int 0)) (mk w p r I' L)) : Ev l X uX7_undo (d + 1) true 0 0 [.ref 150] (mk w p r I L) kr := by
  refine Ev.of (by decide) (Nat.le_of_ble_eq_true rfl) ?_
  refine Wf.gc tkX7_undo [] ?_
  conv => whnf
  refine y_good ?_
  have hA := NC7_g hA0
  generalize hH : u2 (u2 I 150 0 0) 150 11 0 = H at hA
  conv => whnf
  refine b2 (fun z => z hA.2.1) ?_
  conv => whnf
  refine y_isNot ?_
  conv => whnf
  exact ⟨Or.inl rfl, h _ (NC7_11 hA 6)⟩
set_option maxRecDepth 20000 in
theorem y_image0 (hA0 : NC7 I) (h : ∀ I', NC7 I' → kr (some (.int (-1))) (mk w p r I' L)) : Ev l X uX7_image (d + 1) true 0 0 [.ref 150] (mk w p r I L) kr := by
  refine Ev.of (by decide) (Nat.le_of_ble_eq_true rfl) ?_
  refine Wf.gc tkX7_image [] ?_
  conv => whnf
  refine y_good ?_
  have hA := NC7_g hA0
  generalize hH : u2 (u2 I 150 0 0) 150 11 0 = H at hA
  conv => whnf
  refine b2 (fun z => z hA.1) ?_
  conv => whnf
  refine y_no ?_
  conv => whnf
  exact h _ (NC7_11 hA 1)
set_option maxRecDepth 20000 in
theorem y_day0 (hA0 : NC7 I) (h : ∀ I', NC7 I' → kr (some (.int (-1))) (mk w p r I' L)) : Ev l X uX7_day (d + 3) true 0 0 [.ref 150] (mk w p r I L) kr := by
  refine Ev.of (by decide) (Nat.le_of_ble_eq_true rfl) ?_
  refine Wf.gc tkX7_day [] ?_
  conv => whnf
  refine y_good ?_
  have hA := NC7_g hA0
  generalize hH : u2 (u2 I 150 0 0) 150 11 0 = H at hA
  conv => whnf
  refine b2 (fun z => z hA.1) ?_
  conv => whnf
  refine y_no ?_
  conv => whnf
  exact h _ (NC7_11 hA 1)
set_option maxRecDepth 20000 in
theorem y_back0 {i : Int32} (hA0 : NC7 I) (h : ∀ I', NC7 I' → kr (some (.int 0)) (mk w p r I' L)) : Ev l X uX7_back (d + 1) true 0 0 [.ref 150, .int i] (mk w p r I L) kr := by
  refine Ev.of (by decide) (Nat.le_of_ble_eq_true rfl) ?_
  refine Wf.gc tkX7_back [] ?_
  conv => whnf
  refine y_good ?_
  have hA := NC7_g hA0
  generalize hH : u2 (u2 I 150 0 0) 150 11 0 = H at hA
  conv => whnf
  show Ev l X uX7_in d true 0 0 [.int i, .int 0, .int (H 150 23 - 1)] (mk w p r H L) _
  rw [hA.2.2]
  refine y_in (fun z1 z2 => ?_) (fun z => ?_)
  · exact absurd ((in_ix (N := 0) (by decide)).mp ⟨z1, z2⟩) nc_no
  · conv => whnf
    refine b2 (fun z => z rfl) ?_
    conv => whnf
    refine y_isNot ?_
    conv => whnf
    exact ⟨Or.inl rfl, h _ (NC7_11 hA 1)⟩
end NCL
end
section
/-! the plain state over the law's memories -/
section BST
noncomputable abbrev Ost : Type := Option Ast
noncomputable def BS6 (o : Ost) (p : Nat) (I : Nat → Nat → Int32) : Prop := match o with
  | none => NC6 p I
  | some A => AS6 A p I
noncomputable def BS7 (o : Ost) (I : Nat → Nat → Int32) : Prop := match o with
  | none => NC7 I
  | some A => AS7 A I
noncomputable def RO (o : Ost) : Prop := match o with
  | none => True
  | some A => RA A
noncomputable def lft (f : Ast → Int32 × Ast) (v0 : Int32) (o : Ost) : Int32 × Ost := match o with
  | none => (v0, none)
  | some A => ((f A).1, some (f A).2)
theorem RO_l {f : Ast → Int32 × Ast} {v0 : Int32} {o : Ost} (hf : ∀ A, RA A → RA (f A).2) (h : RO o) : RO (lft f v0 o).2 := by
  cases o with
  | none => trivial
  | some A => exact hf A h
variable {I I' : Nat → Nat → Int32} {p : Nat} {o : Ost} {M M' M1 M2 : Mm}
noncomputable def pl6 (a k : Nat) : Prop := (a = 1 ∧ (k = 5 ∨ k = 6 ∨ k = 8)) ∨ (7 ≤ a ∧ a ≤ 37) ∨ (55 ≤ a ∧ a ≤ 149)
noncomputable def pl7 (a k : Nat) : Prop := (a = 150 ∧ (k = 14 ∨ k = 22 ∨ k = 23)) ∨ a = 153 ∨ a = 155 ∨ a = 157 ∨ a = 158 ∨ a = 159
theorem mo_I : ∀ i, i < 19 → isI (55 + 5 * i) 4 = true ∧ isI (55 + 5 * i) 5 = true := by decide +kernel
theorem mo_J : ∀ i, i < 19 → ∀ f, f < 6 → isI (55 + 5 * i + 1) f = true ∧ isI (55 + 5 * i + 2) f = true ∧ isI (55 + 5 * i + 3) f = true := by decide +kernel
theorem mo_K : ∀ i, i < 19 → ∀ c, c < 5 → isI (55 + 5 * i + 4) c = true := by decide +kernel
theorem nw_J : ∀ f, f < 6 → isI (33 + 1) f = true ∧ isI (33 + 2) f = true ∧ isI (33 + 3) f = true := by decide +kernel
theorem nw_K : ∀ c, c < 5 → isI (33 + 4) c = true := by decide +kernel
theorem MR_cg {F C a : Nat} {S : Rw} (h : MR F C a S I) (hF : F ≤ 6) (hC : C ≤ 5) (i4 : isI a 4 = true ∧ isI a 5 = true) (iJ : ∀ f, f < 6 → isI (a + 1) f = true ∧ isI (a + 2) f = true ∧ isI (a + 3) f = true) (iK : ∀ c, c < 5 → isI (a + 4) c = true) (he : ∀ c k, isI c k = true → a ≤ c → c ≤ a + 4 → I' c k = I c k) : MR F C a S I' := by
  obtain ⟨h1, h2, h3, h4⟩ := h
  refine ⟨fun f hf => ?_, fun c hc => ?_, ?_, ?_⟩
  · obtain ⟨x1, x2, x3⟩ := iJ f (by omega)
    rw [he _ f x1 (by omega) (by omega), he _ f x2 (by omega) (by omega), he _ f x3 (by omega) (by omega)]; exact h1 f hf
  · rw [he _ c (iK c (by omega)) (by omega) (by omega)]; exact h2 c hc
  · rw [he a 4 i4.1 (by omega) (by omega)]; exact h3
  · rw [he a 5 i4.2 (by omega) (by omega)]; exact h4
theorem BS6_cg (hp : p = 7 ∨ p = 20) (hR : RO o) (h : BS6 o p I) (he : ∀ a k, isI a k = true → pl6 a k → I' a k = I a k) : BS6 o p I' := by
  cases o with
  | none =>
    obtain ⟨h1, h2, h3, h4⟩ := h
    exact ⟨PC0_cg hp h1 (fun a k z1 z2 z3 => he a k z3 (by unfold pl6; omega)), by rw [he 1 6 rfl (by unfold pl6; omega)]; exact h2, by rw [he 1 8 rfl (by unfold pl6; omega)]; exact h3, by rw [he 33 4 rfl (by unfold pl6; omega)]; exact h4⟩
  | some A =>
    obtain ⟨h1, h2, ⟨x, hx, e5, h3⟩, h4, h5, h6⟩ := h
    obtain ⟨hF, hC⟩ := ra_FC hR
    have hG := hR.2.1.2
    refine ⟨PC_cq hp hR.1.1 h1 (fun a k z1 z2 z3 => he a k z3 (by unfold pl6; omega)), MR_cg h2 hF hC ⟨rfl, rfl⟩ nw_J nw_K (fun c k z1 z2 z3 => he c k z1 (by unfold pl6; omega)), ⟨x, hx, by rw [he 1 5 rfl (by unfold pl6; omega)]; exact e5, fun j hj => ?_⟩, by rw [he 1 6 rfl (by unfold pl6; omega)]; exact h4, by rw [he 1 8 rfl (by unfold pl6; omega)]; exact h5, fun j hj => ?_⟩
    · have kl := kSl_lt (x := x) (k := A.2.2.1.length) (j := j)
      exact MR_cg (h3 j hj) hF hC (mo_I _ (by omega)) (mo_J _ (by omega)) (mo_K _ (by omega)) (fun c k z1 z2 z3 => he c k z1 (by unfold pl6; omega))
    · exact MR_cg (h6 j hj) hF hC (mo_I _ (by omega)) (mo_J _ (by omega)) (mo_K _ (by omega)) (fun c k z1 z2 z3 => he c k z1 (by unfold pl6; omega))
theorem BS7_cg (hR : RO o) (h : BS7 o I) (he : ∀ a k, isI a k = true → pl7 a k → I' a k = I a k) : BS7 o I' := by
  cases o with
  | none =>
    obtain ⟨h1, h2, h3⟩ := h
    exact ⟨by rw [he 150 14 rfl (by unfold pl7; omega)]; exact h1, by rw [he 150 22 rfl (by unfold pl7; omega)]; exact h2, by rw [he 150 23 rfl (by unfold pl7; omega)]; exact h3⟩
  | some A =>
    obtain ⟨a1, a2, a3, a4, a5, a6, a7, a8⟩ := h
    have h16 := hR.2.1.1
    have h3 := hR.2.1.2
    have i3 : ∀ k, k < 202 → isI 153 k = true := fun k hk => Nat.ble_eq_true_of_le hk
    have i5 : ∀ k, k < 25 → isI 155 k = true := fun k hk => Nat.ble_eq_true_of_le hk
    have i7 : ∀ k, k < 25 → isI 157 k = true := fun k hk => Nat.ble_eq_true_of_le hk
    have i8 : ∀ k, k < 400 → isI 158 k = true := fun k hk => Nat.ble_eq_true_of_le hk
    have i9 : ∀ k, k < 75 → isI 159 k = true := fun k hk => Nat.ble_eq_true_of_le hk
    exact ⟨by rw [he 150 14 rfl (by unfold pl7; omega)]; exact a1, FS_cg a2 (fun i hi => he 153 i (i3 i hi) (by unfold pl7; omega)), FH_cg a3 (fun i hi => he 155 i (i5 i hi) (by unfold pl7; omega)), fun i hi => by rw [he 157 i (i7 i hi) (by unfold pl7; omega)]; exact a4 i hi, by rw [he 150 22 rfl (by unfold pl7; omega)]; exact a5, fun j hj i hi => by rw [he 158 _ (i8 _ (by omega)) (by unfold pl7; omega)]; exact a6 j hj i hi, by rw [he 150 23 rfl (by unfold pl7; omega)]; exact a7, fun j hj i hi => by rw [he 159 _ (i9 _ (by omega)) (by unfold pl7; omega)]; exact a8 j hj i hi⟩
/-- the law's states with the plain state -/
noncomputable def SV (o : Ost) (M : Mm) : Prop := RO o ∧ BS6 o (mR M 1 1) (mI M) ∧ BS7 o (mI M)
noncomputable def LX (M : Mm) : Prop := LQ M ∧ ∃ o, SV o M
theorem LX.li (h : LX M) : LI M := h.1.li
theorem LX.iv (h : LX M) : Iv Pt8 M := h.1.1.1
theorem LX.q (h : LX M) : LQ M := h.1
noncomputable def ok6 (ms : Md3) : Bool := okm [(1, 1), (1, 5), (1, 6), (1, 8)] [] ms && (nbl 7 37 ms && nbl 55 149 ms)
noncomputable def ok7 (ms : Md3) : Bool := okm [(150, 14), (150, 22), (150, 23)] [153, 155, 157, 158, 159] ms
theorem pl6_k {ms : Md3} (ho : ok6 ms = true) {a k : Nat} (h : pl6 a k) : inm ms a k = false := by
  obtain ⟨o1, o2⟩ := andT ho
  obtain ⟨o2, o3⟩ := andT o2
  rcases h with ⟨rfl, rfl | rfl | rfl⟩ | ⟨h1, h2⟩ | ⟨h1, h2⟩
  · exact okm_s o1 (by decide)
  · exact okm_s o1 (by decide)
  · exact okm_s o1 (by decide)
  · exact nbl_ok o2 h1 h2
  · exact nbl_ok o3 h1 h2
theorem pl7_k {ms : Md3} (ho : ok7 ms = true) {a k : Nat} (h : pl7 a k) : inm ms a k = false := by
  rcases h with ⟨rfl, rfl | rfl | rfl⟩ | rfl | rfl | rfl | rfl | rfl
  · exact okm_s ho (by decide)
  · exact okm_s ho (by decide)
  · exact okm_s ho (by decide)
  · exact okm_n ho (by decide) k
  · exact okm_n ho (by decide) k
  · exact okm_n ho (by decide) k
  · exact okm_n ho (by decide) k
  · exact okm_n ho (by decide) k
theorem BS6_k {ms : Md3} (hp : mR M 1 1 = 7 ∨ mR M 1 1 = 20) (hR : RO o) (h : BS6 o (mR M 1 1) (mI M)) (hk : kp ms M M') (ho : ok6 ms = true) : BS6 o (mR M' 1 1) (mI M') := by
  rw [(hk 1 1 (okm_s (andT ho).1 (by decide))).2.1]
  exact BS6_cg hp hR h (fun a k _ z => (hk a k (pl6_k ho z)).1)
theorem BS7_k {ms : Md3} (hR : RO o) (h : BS7 o (mI M)) (hk : kp ms M M') (ho : ok7 ms = true) : BS7 o (mI M') :=
  BS7_cg hR h (fun a k _ z => (hk a k (pl7_k ho z)).1)
noncomputable def okV (ms : Md3) : Bool := okm okS okN ms && (ok6 ms && ok7 ms)
theorem SV_k {ms : Md3} (hi : Iv Pt8 M) (h : SV o M) (hk : kp ms M M') (ho : okV ms = true) : SV o M' :=
  ⟨h.1, BS6_k (Iv_p hi) h.1 h.2.1 hk (andT (andT ho).2).1, BS7_k h.1 h.2.2 hk (andT (andT ho).2).2⟩
theorem LX_k {ms : Md3} (h : LX M) (hl : LI M') (h1 : M'.1 = M.1) (hk : kp ms M M') (ho : okV ms = true) : LX M' := by
  obtain ⟨hq, o, hv⟩ := h
  exact ⟨LQ_k hq hl h1 hk (andT ho).1, o, SV_k hq.1.1 hv hk ho⟩
theorem LX_feed {t : Nat} {b : Nat → Nat} {x1 x2 x3 x4 x5 : Int32} (h : LX M) (ht : t ≤ 900) (h1 : kp msF M M1) (t1 : T6 (fdA t) (fdB b t x1 x2 x3 x4 x5) M1) (l2 : LPm M2) (h2 : kp msG M1 M2) (t2 : T7 (fdA t) (fdB b t x1 x2 x3 x4 x5) M2) : LX M2 := by
  obtain ⟨hq, o, hv⟩ := h
  refine ⟨LQ_feed hq ht h1 t1 l2 h2 t2, o, hv.1, ?_, BS7_k hv.1 (BS7_k hv.1 hv.2.2 h1 (by decide +kernel)) h2 (by decide +kernel)⟩
  have q1 := BS6_k (Iv_p hq.1.1) hv.1 hv.2.1 h1 (by decide +kernel)
  have e1 : mR M1 1 1 = mR M 1 1 := (h1 1 1 rfl).2.1
  exact BS6_k (by rw [e1]; exact Iv_p hq.1.1) hv.1 q1 h2 (by decide +kernel)
/-- close -/
noncomputable def oClo (o : Ost) (c : Option ((Nat × Nat) ⊕ Ps)) : Ost := match c with
  | some (.inr P) => some (A0 P)
  | _ => o
theorem LX_close {t : Nat} {b : Nat → Nat} {n : Int32} (h : LX M) (ht : t ≤ 900) (h1 : kp msZ8 M M1) (t1 : T6 (clA n t) b M1) (f1 : mI M1 2 13 = cF (cO b n t) (mI M 2 13)) (l1 : LPm M1) (z1 : ∃ M'', eY6 (cO b n t) M M'' ∧ M''.1 = M.1 ∧ agr M1 M'') (l2 : LPm M2) (h2 : kp msC M1 M2) (t2 : T7 (clA n t) b M2) (f2 : mI M2 150 9 = cF (cO b n t) (mI M1 150 9)) (z2 : ∃ M'', eY7 (cO b n t) M1 M'' ∧ M''.1 = M1.1 ∧ agr M2 M'') : LX M2 := by
  obtain ⟨hq, o, hR, hv6, hv7⟩ := h
  refine ⟨LQ_close hq ht h1 t1 f1 l2 h2 t2 f2, oClo o (cO b n t), ?_⟩
  have hp := Iv_p hq.1.1
  obtain ⟨N1, e1, -, g1⟩ := z1
  obtain ⟨N2, e2, -, g2⟩ := z2
  have hr1 : mR M1 1 1 = mR N1 1 1 := ag_R l1.1 l1.2.2.1 g1 (by decide) (by decide) rfl
  have a1 : ∀ a k, 0 < a → a ≤ 167 → isI a k = true → mI M1 a k = mI N1 a k := fun a k x y z => ag_I l1.1 l1.2.2.1 g1 x y z
  have a2 : ∀ a k, 0 < a → a ≤ 167 → isI a k = true → mI M2 a k = mI N2 a k := fun a k x y z => ag_I l2.1 l2.2.2.1 g2 x y z
  have c6 : ∀ o', RO o' → (mR M1 1 1 = 7 ∨ mR M1 1 1 = 20) → BS6 o' (mR M1 1 1) (mI M1) → BS6 o' (mR M2 1 1) (mI M2) := fun o' r1 r2 r3 => BS6_k r2 r1 r3 h2 (by decide +kernel)
  have b7 : BS7 o (mI M1) := BS7_k hR hv7 h1 (by decide +kernel)
  cases ho : cO b n t with
  | none =>
    rw [ho] at e1 e2
    obtain ⟨q1, q2⟩ := e1
    refine ⟨hR, c6 o hR (by rw [hr1, q1]; exact hp) ?_, BS7_cg hR b7 (fun a k y1 y2 => ?_)⟩
    · rw [hr1, q1]
      refine BS6_cg hp hR hv6 (fun a k y1 y2 => ?_)
      unfold pl6 at y2
      rw [a1 a k (by omega) (by omega) y1]
      exact q2 a k (by omega)
    · unfold pl7 at y2
      rw [a2 a k (by omega) (by omega) y1]
      exact e2 a k (by omega)
  | some c =>
    cases c with
    | inl er =>
      rw [ho] at e1 e2
      obtain ⟨q1, q2, -⟩ := e1
      obtain ⟨e2, -⟩ := e2
      refine ⟨hR, c6 o hR (by rw [hr1, q1]; exact hp) ?_, BS7_cg hR b7 (fun a k y1 y2 => ?_)⟩
      · rw [hr1, q1]
        have sp : ∀ a k, isI a k = true → pl6 a k → ¬ (27 - mR M 1 1 ≤ a ∧ a ≤ 27 - mR M 1 1 + 12) → mI M1 a k = mI M a k := fun a k y1 y2 y3 => by
          unfold pl6 at y2
          rw [a1 a k (by omega) (by omega) y1]
          exact q2 a k (by omega) (by omega) (by omega) (by omega) y3
        cases o with
        | none =>
          obtain ⟨w1, w2, w3, w4⟩ := hv6
          exact ⟨PC0_cg hp w1 (fun a k z1 z2 z3 => sp a k z3 (by unfold pl6; omega) (by omega)), by rw [sp 1 6 rfl (by unfold pl6; omega) (by omega)]; exact w2, by rw [sp 1 8 rfl (by unfold pl6; omega) (by omega)]; exact w3, by rw [sp 33 4 rfl (by unfold pl6; omega) (by omega)]; exact w4⟩
        | some A =>
          obtain ⟨w1, w2, ⟨x, hx, e5, w3⟩, w4, w5, w6⟩ := hv6
          obtain ⟨hF, hC⟩ := ra_FC hR
          have hG := hR.2.1.2
          refine ⟨PC_cq hp hR.1.1 w1 (fun a k z1 z2 z3 => sp a k z3 (by unfold pl6; omega) (by omega)), MR_cg w2 hF hC ⟨rfl, rfl⟩ nw_J nw_K (fun c k z1 z2 z3 => sp c k z1 (by unfold pl6; omega) (by omega)), ⟨x, hx, by rw [sp 1 5 rfl (by unfold pl6; omega) (by omega)]; exact e5, fun j hj => ?_⟩, by rw [sp 1 6 rfl (by unfold pl6; omega) (by omega)]; exact w4, by rw [sp 1 8 rfl (by unfold pl6; omega) (by omega)]; exact w5, fun j hj => ?_⟩
          · have kl := kSl_lt (x := x) (k := A.2.2.1.length) (j := j)
            exact MR_cg (w3 j hj) hF hC (mo_I _ (by omega)) (mo_J _ (by omega)) (mo_K _ (by omega)) (fun c k z1 z2 z3 => sp c k z1 (by unfold pl6; omega) (by omega))
          · exact MR_cg (w6 j hj) hF hC (mo_I _ (by omega)) (mo_J _ (by omega)) (mo_K _ (by omega)) (fun c k z1 z2 z3 => sp c k z1 (by unfold pl6; omega) (by omega))
      · unfold pl7 at y2
        rw [a2 a k (by omega) (by omega) y1]
        exact e2 a k (by omega) (by omega) (by omega) (by omega)
    | inr P =>
      rw [ho] at e1 e2
      obtain ⟨q1, -, q3, q4, q5, nb1, nb2, nb3, nb4⟩ := e1
      obtain ⟨-, e3, e22, e23, ePI, eB, eK, e0, eFS, eFH5, eFH7⟩ := e2
      have hRA := RA_0 eB ePI e0
      have hF : P.1 4 ≤ 6 := eB.1.1.1.2.2.2.1
      have hC : P.1 5 ≤ 5 := eB.1.1.1.2.2.2.2.1
      have hp2 : 27 - mR M 1 1 = 7 ∨ 27 - mR M 1 1 = 20 := by omega
      have hr : mR M1 1 1 = 27 - mR M 1 1 := hr1.trans q1
      have s18 : ∀ c, c < 5 → S0 P (18 + c) = nI (P.1 (300 + c)) := fun c hc => by
        unfold S0
        rw [if_neg (by omega), if_pos (by omega), Nat.add_sub_cancel_left]
      have sz : ∀ i, 6 ≤ i → (i < 18 ∨ 23 ≤ i) → S0 P i = 0 := fun i z1 z2 => by
        unfold S0
        rw [if_neg (by omega), if_neg (by omega)]
      have s6 : ∀ f, f < 6 → S0 P f = nI (P.1 (12 + 4 * f)) := fun f hf => by
        unfold S0
        rw [if_pos hf]
      have hx : ∃ x, x < 16 ∧ mI M1 1 5 = nI x := by
        have q : 0 ≤ (mI M1 1 5).toInt ∧ (mI M1 1 5).toInt ≤ 15 := l1.1.2.2.2 1 5 (by decide)
        exact ⟨(mI M1 1 5).toInt.toNat, by omega, nI_at q.1 (by omega)⟩
      obtain ⟨x, hx, e5⟩ := hx
      refine ⟨hRA, c6 (some (A0 P)) hRA (by rw [hr]; exact hp2) ?_, ?_⟩
      · rw [hr]
        have pc1 : PC (27 - mR M 1 1) P.1 P.2.1 (mI M1) := PC_cq hp2 eB q3 (fun a k z1 z2 z3 => a1 a k (by omega) (by omega) z3)
        refine ⟨pc1, ⟨fun f hf => ?_, fun c hc => ?_, ?_, ?_⟩, ⟨x, hx, e5, fun j hj => absurd hj (Nat.not_lt_zero _)⟩, ?_, ?_, fun j hj => absurd hj (Nat.not_lt_zero _)⟩
        · have hf : f < P.1 4 := hf
          obtain ⟨x1, x2, x3⟩ := nw_J f (by omega)
          obtain ⟨y1, y2, y3⟩ := nb1 f (by omega)
          refine ⟨?_, ?_, ?_⟩
          · rw [a1 (33 + 1) f (by decide) (by decide) x1]
            show _ = S0 P f
            rw [s6 f (by omega)]
            exact y1.trans (q3.2.1 f hf).2.1
          · rw [a1 (33 + 2) f (by decide) (by decide) x2]
            show _ = S0 P (6 + f)
            rw [sz (6 + f) (by omega) (by omega)]
            exact y2
          · rw [a1 (33 + 3) f (by decide) (by decide) x3]
            show _ = S0 P (12 + f)
            rw [sz (12 + f) (by omega) (by omega)]
            exact y3
        · have hc : c < P.1 5 := hc
          rw [a1 (33 + 4) c (by decide) (by decide) (nw_K c (by omega))]
          show _ = S0 P (18 + c)
          rw [s18 c (by omega)]
          exact (nb2 c (by omega)).trans (q3.2.2.2.1 c hc).1
        · rw [a1 33 4 (by decide) (by decide) rfl]
          show _ = S0 P 23
          rw [sz 23 (by decide) (by decide)]
          exact nb3
        · rw [a1 33 5 (by decide) (by decide) rfl]
          show _ = S0 P 24
          rw [sz 24 (by decide) (by decide)]
          exact nb4
        · rw [a1 1 6 (by decide) (by decide) rfl]; exact q4
        · rw [a1 1 8 (by decide) (by decide) rfl]; exact q5
      · refine ⟨?_, FS_cg eFS (fun k hk => a2 153 k (by decide) (by decide) (Nat.ble_eq_true_of_le hk)), FH_cg eFH5 (fun k hk => a2 155 k (by decide) (by decide) (Nat.ble_eq_true_of_le hk)), fun i hi => ?_, ?_, fun j hj => absurd hj (Nat.not_lt_zero _), ?_, fun j hj => absurd hj (Nat.not_lt_zero _)⟩
        · rw [a2 150 14 (by decide) (by decide) rfl]; exact e3
        · rw [a2 157 i (by decide) (by decide) (Nat.ble_eq_true_of_le hi)]
          show _ = S0 P i
          by_cases z1 : i < 6
          · rw [s6 i z1]; exact eFH7.2.1 i z1
          · by_cases z2 : 18 ≤ i ∧ i < 23
            · have q := eFH7.1 (i - 18) (by omega)
              rw [show 18 + (i - 18) = i by omega] at q
              have q2 := s18 (i - 18) (by omega)
              rw [show 18 + (i - 18) = i by omega] at q2
              rw [q2]; exact q
            · rw [sz i (by omega) (by omega)]
              exact eFH7.2.2 i (by omega) hi (by omega)
        · rw [a2 150 22 (by decide) (by decide) rfl]; exact e22
        · rw [a2 150 23 (by decide) (by decide) rfl]; exact e23
end BST
end
section
/-! the acts of both sides over the law's states -/
section JAC
variable {l : Launch} {X : Nat × (Nat → Int32)} {kr : KR} {M : Mm} {o o' : Ost}
/-- between the two calls of an act -/
noncomputable def SW (o o' : Ost) (M : Mm) : Prop := (RO o ∧ RO o') ∧ BS6 o' (mR M 1 1) (mI M) ∧ BS7 o (mI M)
theorem jA6 {q : Md} {dd : Nat} {av : List Value} {ms : Md3} {v : Int32} (hL : LQ M) (hR : RO o) (hR' : RO o') (h7 : BS7 o (mI M)) (A : ∀ k : KR, (∀ (x : Int32) (M' : Mm), LI M' → M'.1 = M.1 → kp ms M M' → k (some (.int x)) M') → Ev l X q dd true 0 0 av M k) (B : Ev l X q dd true 0 0 av (ffm M) (fun r M'' => r = some (.int v) ∧ BS6 o' (mR M 1 1) (mI M''))) (ho : (okm okS okN ms && ok7 ms) = true) (h : ∀ M', LQ M' → M'.1 = M.1 → SW o o' M' → kr (some (.int v)) M') : Ev l X q dd true 0 0 av M kr := by
  have A' := A (fun r M' => ∃ x : Int32, r = some (.int x) ∧ (LI M' ∧ M'.1 = M.1 ∧ kp ms M M')) (fun x M' h1 h2 h3 => ⟨x, rfl, h1, h2, h3⟩)
  have B' : Ev l X q dd true 0 0 av M (fun r M'' => ∃ x : Int32, r = some (.int x) ∧ (x = v ∧ BS6 o' (mR M 1 1) (mI M''))) := Ev.ofm hL.1.1 hL.1.2.2 (Ev.imp B (fun r M' e => ⟨v, e.1, rfl, e.2⟩))
  refine Ev.imp (Ev.both A' B') ?_
  rintro r M' ⟨x, rfl, ⟨a1, a2, a3⟩, M'', ⟨rfl, b1⟩, b2, b3⟩
  obtain ⟨o1, o2⟩ := andT ho
  have hN : mN M' = 167 := (congrArg (fun x => x.1) a2).trans hL.1.2.2.1
  refine h M' (LQ_k hL a1 a2 a3 o1) a2 ⟨⟨hR, hR'⟩, ?_, BS7_k hR h7 a3 o2⟩
  rw [(a3 1 1 (okm_s o1 (by decide))).2.1]
  exact BS6_cg (Iv_p hL.1.1) hR' b1 (fun a k y1 y2 => ag_I a1.1 hN b3 (by unfold pl6 at y2; omega) (by unfold pl6 at y2; omega) y1)
theorem jA7 {q : Md} {dd : Nat} {av : List Value} {ms : Md3} {v : Int32} (hL : LQ M) (hv : SW o o' M) (A : ∀ k : KR, (∀ (x : Int32) (M' : Mm), LI M' → M'.1 = M.1 → kp ms M M' → k (some (.int x)) M') → Ev l X q dd true 0 0 av M k) (B : Ev l X q dd true 0 0 av (ffm M) (fun r M'' => r = some (.int v) ∧ BS7 o' (mI M''))) (ho : (okm okS okN ms && ok6 ms) = true) (h : ∀ M', LQ M' → M'.1 = M.1 → SV o' M' → kr (some (.int v)) M') : Ev l X q dd true 0 0 av M kr := by
  have A' := A (fun r M' => ∃ x : Int32, r = some (.int x) ∧ (LI M' ∧ M'.1 = M.1 ∧ kp ms M M')) (fun x M' h1 h2 h3 => ⟨x, rfl, h1, h2, h3⟩)
  have B' : Ev l X q dd true 0 0 av M (fun r M'' => ∃ x : Int32, r = some (.int x) ∧ (x = v ∧ BS7 o' (mI M''))) := Ev.ofm hL.1.1 hL.1.2.2 (Ev.imp B (fun r M' e => ⟨v, e.1, rfl, e.2⟩))
  refine Ev.imp (Ev.both A' B') ?_
  rintro r M' ⟨x, rfl, ⟨a1, a2, a3⟩, M'', ⟨rfl, b1⟩, b2, b3⟩
  obtain ⟨o1, o2⟩ := andT ho
  have hN : mN M' = 167 := (congrArg (fun x => x.1) a2).trans hL.1.2.2.1
  refine h M' (LQ_k hL a1 a2 a3 o1) a2 ⟨hv.1.2, BS6_k (Iv_p hL.1.1) hv.1.2 hv.2.1 a3 o2, ?_⟩
  exact BS7_cg hv.1.2 b1 (fun a k y1 y2 => ag_I a1.1 hN b3 (by unfold pl7 at y2; omega) (by unfold pl7 at y2; omega) y1)
theorem j6_give (d : Nat) {c f : Int32} (hL : LQ M) (hv : SV o M) (h : ∀ M', LQ M' → M'.1 = M.1 → SW o (lft (fun A => aGive A c f) (-1) o).2 M' → kr (some (.int (lft (fun A => aGive A c f) (-1) o).1)) M') : Ev l X uX6_give (d + 12) true 0 0 [.ref 1, .int c, .int f] M kr := by
  refine jA6 hL hv.1 (RO_l (fun A hA => RA_give hA) hv.1) hv.2.2 (fun k h => p6_give d hL.li h) ?_ (by decide +kernel) h
  have hp := Iv_p hL.1.1
  cases o with
  | none => exact x_give0 (d := d + 8) hp hv.2.1 (fun I' q => ⟨rfl, q⟩)
  | some A => exact x_give (d := d + 8) hp hv.1 hv.2.1 (fun I' q => ⟨rfl, q⟩)
theorem j7_give (d : Nat) {c f : Int32} (hL : LQ M) (hv : SW o (lft (fun A => aGive A c f) (-1) o).2 M) (h : ∀ M', LQ M' → M'.1 = M.1 → SV (lft (fun A => aGive A c f) (-1) o).2 M' → kr (some (.int (lft (fun A => aGive A c f) (-1) o).1)) M') : Ev l X uX7_give (d + 12) true 0 0 [.ref 150, .int c, .int f] M kr := by
  refine jA7 hL hv (fun k h => p7_give d hL.li h) ?_ (by decide +kernel) h
  cases o with
  | none => exact y_give0 (d := d + 9) hv.2.2 (fun I' q => ⟨rfl, q⟩)
  | some A => exact y_give (d := d + 9) hv.1.1 hv.2.2 (fun I' q => ⟨rfl, q⟩)
theorem j6_mend (d : Nat) {f : Int32} (hL : LQ M) (hv : SV o M) (h : ∀ M', LQ M' → M'.1 = M.1 → SW o (lft (fun A => aMend A f) 0 o).2 M' → kr (some (.int (lft (fun A => aMend A f) 0 o).1)) M') : Ev l X uX6_mend (d + 12) true 0 0 [.ref 1, .int f] M kr := by
  refine jA6 hL hv.1 (RO_l (fun A hA => RA_mend hA) hv.1) hv.2.2 (fun k h => p6_mend d hL.li h) ?_ (by decide +kernel) h
  have hp := Iv_p hL.1.1
  cases o with
  | none => exact x_mend0 (d := d + 8) hp hv.2.1 (fun I' q => ⟨rfl, q⟩)
  | some A => exact x_mend (d := d + 8) hp hv.1 hv.2.1 (fun I' q => ⟨rfl, q⟩)
theorem j7_mend (d : Nat) {f : Int32} (hL : LQ M) (hv : SW o (lft (fun A => aMend A f) 0 o).2 M) (h : ∀ M', LQ M' → M'.1 = M.1 → SV (lft (fun A => aMend A f) 0 o).2 M' → kr (some (.int (lft (fun A => aMend A f) 0 o).1)) M') : Ev l X uX7_mend (d + 12) true 0 0 [.ref 150, .int f] M kr := by
  refine jA7 hL hv (fun k h => p7_mend d hL.li h) ?_ (by decide +kernel) h
  cases o with
  | none => exact y_mend0 (d := d + 9) hv.2.2 (fun I' q => ⟨rfl, q⟩)
  | some A => exact y_mend (d := d + 9) hv.1.1 hv.2.2 (fun I' q => ⟨rfl, q⟩)
theorem j6_vex (d : Nat) {f m : Int32} (hL : LQ M) (hv : SV o M) (h : ∀ M', LQ M' → M'.1 = M.1 → SW o (lft (fun A => aVex A f m) (-1) o).2 M' → kr (some (.int (lft (fun A => aVex A f m) (-1) o).1)) M') : Ev l X uX6_vex (d + 12) true 0 0 [.ref 1, .int f, .int m] M kr := by
  refine jA6 hL hv.1 (RO_l (fun A hA => RA_vex hA) hv.1) hv.2.2 (fun k h => p6_vex d hL.li h) ?_ (by decide +kernel) h
  have hp := Iv_p hL.1.1
  cases o with
  | none => exact x_vex0 (d := d + 8) hp hv.2.1 (fun I' q => ⟨rfl, q⟩)
  | some A => exact x_vex (d := d + 8) hp hv.1 hv.2.1 (fun I' q => ⟨rfl, q⟩)
theorem j7_vex (d : Nat) {f m : Int32} (hL : LQ M) (hv : SW o (lft (fun A => aVex A f m) (-1) o).2 M) (h : ∀ M', LQ M' → M'.1 = M.1 → SV (lft (fun A => aVex A f m) (-1) o).2 M' → kr (some (.int (lft (fun A => aVex A f m) (-1) o).1)) M') : Ev l X uX7_vex (d + 12) true 0 0 [.ref 150, .int f, .int m] M kr := by
  refine jA7 hL hv (fun k h => p7_vex d hL.li h) ?_ (by decide +kernel) h
  cases o with
  | none => exact y_vex0 (d := d + 9) hv.2.2 (fun I' q => ⟨rfl, q⟩)
  | some A => exact y_vex (d := d + 9) hv.1.1 hv.2.2 (fun I' q => ⟨rfl, q⟩)
theorem j6_undo (d : Nat) (hL : LQ M) (hv : SV o M) (h : ∀ M', LQ M' → M'.1 = M.1 → SW o (lft (fun A => aUndo A) 0 o).2 M' → kr (some (.int (lft (fun A => aUndo A) 0 o).1)) M') : Ev l X uX6_undo (d + 12) true 0 0 [.ref 1] M kr := by
  refine jA6 hL hv.1 (RO_l (fun A hA => RA_undo hA) hv.1) hv.2.2 (fun k h => p6_undo d hL.li h) ?_ (by decide +kernel) h
  have hp := Iv_p hL.1.1
  cases o with
  | none => exact x_undo0 (d := d + 10) hp hv.2.1 (fun I' q => ⟨rfl, q⟩)
  | some A => exact x_undo (d := d + 10) hp hv.1 hv.2.1 (fun I' q => ⟨rfl, q⟩)
theorem j7_undo (d : Nat) (hL : LQ M) (hv : SW o (lft (fun A => aUndo A) 0 o).2 M) (h : ∀ M', LQ M' → M'.1 = M.1 → SV (lft (fun A => aUndo A) 0 o).2 M' → kr (some (.int (lft (fun A => aUndo A) 0 o).1)) M') : Ev l X uX7_undo (d + 12) true 0 0 [.ref 150] M kr := by
  refine jA7 hL hv (fun k h => p7_undo d hL.li h) ?_ (by decide +kernel) h
  cases o with
  | none => exact y_undo0 (d := d + 11) hv.2.2 (fun I' q => ⟨rfl, q⟩)
  | some A => exact y_undo (d := d + 11) hv.1.1 hv.2.2 (fun I' q => ⟨rfl, q⟩)
theorem j6_image (d : Nat) (hL : LQ M) (hv : SV o M) (h : ∀ M', LQ M' → M'.1 = M.1 → SW o (lft (fun A => aImage A) (-1) o).2 M' → kr (some (.int (lft (fun A => aImage A) (-1) o).1)) M') : Ev l X uX6_image (d + 12) true 0 0 [.ref 1] M kr := by
  refine jA6 hL hv.1 (RO_l (fun A hA => RA_image hA) hv.1) hv.2.2 (fun k h => p6_image d hL.li h) ?_ (by decide +kernel) h
  have hp := Iv_p hL.1.1
  cases o with
  | none => exact x_image0 (d := d + 10) hp hv.2.1 (fun I' q => ⟨rfl, q⟩)
  | some A => exact x_image (d := d + 10) hp hv.1 hv.2.1 (fun I' q => ⟨rfl, q⟩)
theorem j7_image (d : Nat) (hL : LQ M) (hv : SW o (lft (fun A => aImage A) (-1) o).2 M) (h : ∀ M', LQ M' → M'.1 = M.1 → SV (lft (fun A => aImage A) (-1) o).2 M' → kr (some (.int (lft (fun A => aImage A) (-1) o).1)) M') : Ev l X uX7_image (d + 12) true 0 0 [.ref 150] M kr := by
  refine jA7 hL hv (fun k h => p7_image d hL.li h) ?_ (by decide +kernel) h
  cases o with
  | none => exact y_image0 (d := d + 11) hv.2.2 (fun I' q => ⟨rfl, q⟩)
  | some A => exact y_image (d := d + 11) hv.1.1 hv.2.2 (fun I' q => ⟨rfl, q⟩)
theorem j6_back (d : Nat) {i : Int32} (hL : LQ M) (hv : SV o M) (h : ∀ M', LQ M' → M'.1 = M.1 → SW o (lft (fun A => aBack A i) 0 o).2 M' → kr (some (.int (lft (fun A => aBack A i) 0 o).1)) M') : Ev l X uX6_back (d + 12) true 0 0 [.ref 1, .int i] M kr := by
  refine jA6 hL hv.1 (RO_l (fun A hA => RA_back hA) hv.1) hv.2.2 (fun k h => p6_back d hL.li h) ?_ (by decide +kernel) h
  have hp := Iv_p hL.1.1
  cases o with
  | none => exact x_back0 (d := d + 10) hp hv.2.1 (fun I' q => ⟨rfl, q⟩)
  | some A => exact x_back (d := d + 10) hp hv.1 hv.2.1 (fun I' q => ⟨rfl, q⟩)
theorem j7_back (d : Nat) {i : Int32} (hL : LQ M) (hv : SW o (lft (fun A => aBack A i) 0 o).2 M) (h : ∀ M', LQ M' → M'.1 = M.1 → SV (lft (fun A => aBack A i) 0 o).2 M' → kr (some (.int (lft (fun A => aBack A i) 0 o).1)) M') : Ev l X uX7_back (d + 12) true 0 0 [.ref 150, .int i] M kr := by
  refine jA7 hL hv (fun k h => p7_back d hL.li h) ?_ (by decide +kernel) h
  cases o with
  | none => exact y_back0 (d := d + 11) hv.2.2 (fun I' q => ⟨rfl, q⟩)
  | some A => exact y_back (d := d + 11) hv.1.1 hv.2.2 (fun I' q => ⟨rfl, q⟩)
theorem j6_day (d : Nat) (hL : LQ M) (hv : SV o M) (h : ∀ M', LQ M' → M'.1 = M.1 → SW o (lft (fun A => aDay A) (-1) o).2 M' → kr (some (.int (lft (fun A => aDay A) (-1) o).1)) M') : Ev l X uX6_day (d + 12) true 0 0 [.ref 1] M kr := by
  refine jA6 hL hv.1 (RO_l (fun A hA => RA_day hA) hv.1) hv.2.2 (fun k h => p6_day d hL.li h) ?_ (by decide +kernel) h
  have hp := Iv_p hL.1.1
  cases o with
  | none => exact x_day0 (d := d + 8) hp hv.2.1 (fun I' q => ⟨rfl, q⟩)
  | some A => exact x_day (d := d + 8) hp hv.1 hv.2.1 (fun I' q => ⟨rfl, q⟩)
theorem j7_day (d : Nat) (hL : LQ M) (hv : SW o (lft (fun A => aDay A) (-1) o).2 M) (h : ∀ M', LQ M' → M'.1 = M.1 → SV (lft (fun A => aDay A) (-1) o).2 M' → kr (some (.int (lft (fun A => aDay A) (-1) o).1)) M') : Ev l X uX7_day (d + 12) true 0 0 [.ref 150] M kr := by
  refine jA7 hL hv (fun k h => p7_day d hL.li h) ?_ (by decide +kernel) h
  cases o with
  | none => exact y_day0 (d := d + 9) hv.2.2 (fun I' q => ⟨rfl, q⟩)
  | some A => exact y_day (d := d + 9) hv.1.1 hv.2.2 (fun I' q => ⟨rfl, q⟩)
end JAC
end
section
/-! queries over the plain state: face, canon, burden -/
section QRY
variable {l : Launch} {X : Nat × (Nat → Int32)} {d : Nat} {w : Nat × Nat} {p r : Nat} {I : Nat → Nat → Int32} {L : Nat → Nat → Int64} {kr : KR} {M : Mm} {o : Ost} {A : Ast}
theorem jQ {q : Md} {dd : Nat} {av : List Value} {ms : Md3} {v : Int32} (hL : LX M) (hv : SV o M) (A : ∀ k : KR, (∀ (x : Int32) (M' : Mm), LI M' → M'.1 = M.1 → kp ms M M' → k (some (.int x)) M') → Ev l X q dd true 0 0 av M k) (B : Ev l X q dd true 0 0 av (ffm M) (fun r _ => r = some (.int v))) (ho : okV ms = true) (h : ∀ M', LX M' → M'.1 = M.1 → SV o M' → kr (some (.int v)) M') : Ev l X q dd true 0 0 av M kr :=
  j_ans hL.1.1 A B (fun M' h1 h2 h3 => h M' (LX_k hL h1 h2 h3 ho) h2 (SV_k hL.iv hv h3 ho))
noncomputable def lfq (f : Ast → Int32) (v0 : Int32) (o : Ost) : Int32 := match o with
  | none => v0
  | some A => f A
end QRY
end
section
section QRY2
variable {l : Launch} {X : Nat × (Nat → Int32)} {d : Nat} {w : Nat × Nat} {p r : Nat} {I : Nat → Nat → Int32} {L : Nat → Nat → Int64} {kr : KR} {M : Mm} {o : Ost} {A : Ast}
/-! burden -/
end QRY2
end
section
/-! days to come: rows one after another -/
section AHD
variable {l : Launch} {X : Nat × (Nat → Int32)} {d : Nat} {w : Nat × Nat} {p r : Nat} {I : Nat → Nat → Int32} {L : Nat → Nat → Int64} {kr : KR} {M : Mm} {o : Ost} {A : Ast} {P : Ps} {S : Rw}
end AHD
end
section
/-! bears, holds, drops -/
section BHD
variable {l : Launch} {X : Nat × (Nat → Int32)} {d : Nat} {w : Nat × Nat} {p r : Nat} {I : Nat → Nat → Int32} {L : Nat → Nat → Int64} {kr : KR} {M : Mm} {o : Ost} {A : Ast}
theorem as_vC (hp : p = 7 ∨ p = 20) (hR : RA A) (hA : AS6 A p I) : vC p I (A.1.1 4) (A.1.1 5) := ⟨hp, hA.1.1.2.2.2.2.1, (ra_FC hR).1, hA.1.1.2.2.2.2.2.1, (ra_FC hR).2⟩
theorem nc_vC (hp : p = 7 ∨ p = 20) (hA : NC6 p I) : vC p I 0 0 := ⟨hp, (nc4 hA).1, by decide, (nc4 hA).2, by decide⟩
end BHD
end
