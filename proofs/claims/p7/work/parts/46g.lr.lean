/-! the law's states with the plan: both sides have read the same close -/
section LRS
variable {M M1 M2 M' : Mm}
def PL (M : Mm) : Prop := (mI M 150 14 = 0 ∧ mI M (mR M 1 1) 4 = 0) ∨ (mI M 150 14 = 1 ∧ ∃ P : Ps, B3 P ∧ KM P.1 P.2.2.1 ∧ 0 < P.1 4 ∧ PC (mR M 1 1) P.1 P.2.1 (mI M) ∧ FS P.1 P.2.1 (mI M) ∧ FH 155 P.1 (mI M))
def LR (M : Mm) : Prop := LQ M ∧ PL M
theorem LR.li (h : LR M) : LI M := h.1.li
theorem LR.iv (h : LR M) : Iv Pt8 M := h.1.1.1
theorem LR.q (h : LR M) : LQ M := h.1
/-- places of a plan -/
theorem pl_I {q : Nat} (hq : q = 7 ∨ q = 20) : isI q 0 = true ∧ isI q 1 = true ∧ isI q 2 = true ∧ isI q 3 = true ∧ isI q 4 = true ∧ isI q 10 = true ∧ isI q 14 = true ∧ isI q 17 = true := by
  rcases hq with rfl | rfl <;> decide
theorem pl_J {q : Nat} (hq : q = 7 ∨ q = 20) {k : Nat} : (k < 6 → isI (q + 1) k = true ∧ isI (q + 2) k = true ∧ isI (q + 3) k = true ∧ isI (q + 4) k = true ∧ isI (q + 5) k = true) ∧ (k < 5 → isI (q + 6) k = true ∧ isI (q + 7) k = true ∧ isI (q + 8) k = true) ∧ (k < 4 → isI (q + 9) k = true ∧ isI (q + 10) k = true ∧ isI (q + 11) k = true ∧ isI (q + 12) k = true) := by
  refine ⟨fun h => ?_, fun h => ?_, fun h => ?_⟩
  · rcases (show k = 0 ∨ k = 1 ∨ k = 2 ∨ k = 3 ∨ k = 4 ∨ k = 5 by omega) with rfl | rfl | rfl | rfl | rfl | rfl <;> rcases hq with rfl | rfl <;> decide
  · rcases (show k = 0 ∨ k = 1 ∨ k = 2 ∨ k = 3 ∨ k = 4 by omega) with rfl | rfl | rfl | rfl | rfl <;> rcases hq with rfl | rfl <;> decide
  · rcases (show k = 0 ∨ k = 1 ∨ k = 2 ∨ k = 3 by omega) with rfl | rfl | rfl | rfl <;> rcases hq with rfl | rfl <;> decide
theorem PC_cq {q : Nat} {P : Ps} {I I' : Nat → Nat → Int32} (hq : q = 7 ∨ q = 20) (hB : B3 P) (h : PC q P.1 P.2.1 I) (he : ∀ a k, q ≤ a → a ≤ q + 12 → isI a k = true → I' a k = I a k) : PC q P.1 P.2.1 I' := by
  obtain ⟨⟨a0, a1, a2, a3, a4, a5, a6, a7⟩, b1, b2, b3, b4, b5⟩ := h
  have hbd := hB.1.1
  have B4 : P.1 4 ≤ 6 := hbd.1.2.2.2.1
  have B5 : P.1 5 ≤ 5 := hbd.1.2.2.2.2.1
  have B6 : P.1 6 ≤ 4 := hbd.1.2.2.2.2.2.1
  have B7 : P.1 7 ≤ 4 := hbd.1.2.2.2.2.2.2
  obtain ⟨p0, p1, p2, p3, p4, p5, p6, p7⟩ := pl_I hq
  refine ⟨⟨?_, ?_, ?_, ?_, ?_, ?_, ?_, ?_⟩, fun f hf => ?_, fun f hf => ?_, fun c hc => ?_, fun k hk => ?_, fun u hu => ?_⟩
  · rw [he q 0 (by omega) (by omega) p0]; exact a0
  · rw [he q 1 (by omega) (by omega) p1]; exact a1
  · rw [he q 2 (by omega) (by omega) p2]; exact a2
  · rw [he q 3 (by omega) (by omega) p3]; exact a3
  · rw [he q 4 (by omega) (by omega) p4]; exact a4
  · rw [he q 10 (by omega) (by omega) p5]; exact a5
  · rw [he q 14 (by omega) (by omega) p6]; exact a6
  · rw [he q 17 (by omega) (by omega) p7]; exact a7
  · obtain ⟨x1, x2, x3, x4, -⟩ := (pl_J hq (k := f)).1 (by omega)
    rw [he _ f (by omega) (by omega) x1, he _ f (by omega) (by omega) x2, he _ f (by omega) (by omega) x3, he _ f (by omega) (by omega) x4]
    exact b1 f hf
  · obtain ⟨-, -, -, -, x5⟩ := (pl_J hq (k := f)).1 hf
    rw [he _ f (by omega) (by omega) x5]
    exact b2 f hf
  · obtain ⟨x1, x2, x3⟩ := (pl_J hq (k := c)).2.1 (by omega)
    rw [he _ c (by omega) (by omega) x1, he _ c (by omega) (by omega) x2, he _ c (by omega) (by omega) x3]
    exact b3 c hc
  · obtain ⟨x1, x2, -, -⟩ := (pl_J hq (k := k)).2.2 (by omega)
    rw [he _ k (by omega) (by omega) x1, he _ k (by omega) (by omega) x2]
    exact b4 k hk
  · obtain ⟨-, -, x1, x2⟩ := (pl_J hq (k := u)).2.2 (by omega)
    rw [he _ u (by omega) (by omega) x1, he _ u (by omega) (by omega) x2]
    exact b5 u hu
theorem FS_cg {F : Nat → Nat} {W : Int32} {I I' : Nat → Nat → Int32} (h : FS F W I) (he : ∀ k, k < 202 → I' 153 k = I 153 k) : FS F W I' :=
  ⟨fun k hk h10 => by rw [he k (by omega)]; exact h.1 k hk h10, by rw [he 10 (by decide)]; exact h.2⟩
theorem FH_cg {a : Nat} {F : Nat → Nat} {I I' : Nat → Nat → Int32} (h : FH a F I) (he : ∀ k, k < 25 → I' a k = I a k) : FH a F I' :=
  ⟨fun c hc => by rw [he _ (by omega)]; exact h.1 c hc, fun f hf => by rw [he _ (by omega)]; exact h.2.1 f hf, fun i h1 h2 h3 => by rw [he _ h2]; exact h.2.2 i h1 h2 h3⟩
/-- PL over memories that agree at its places -/
theorem PL_cg (hp : mR M 1 1 = 7 ∨ mR M 1 1 = 20) (h : PL M) (hr : mR M' 1 1 = mR M 1 1) (h14 : mI M' 150 14 = mI M 150 14) (hP : ∀ a k, mR M 1 1 ≤ a → a ≤ mR M 1 1 + 12 → isI a k = true → mI M' a k = mI M a k) (h3 : ∀ k, k < 202 → mI M' 153 k = mI M 153 k) (h5 : ∀ k, k < 25 → mI M' 155 k = mI M 155 k) : PL M' := by
  rcases h with ⟨h1, h2⟩ | ⟨h1, P, g1, g2, g3, g4, g5, g6⟩
  · refine Or.inl ⟨h14.trans h1, ?_⟩
    rw [hr, hP _ 4 (by omega) (by omega) (pl_I hp).2.2.2.2.1]
    exact h2
  · refine Or.inr ⟨h14.trans h1, P, g1, g2, g3, ?_, FS_cg g5 h3, FH_cg g6 h5⟩
    rw [hr]
    exact PC_cq hp g1 g4 hP
def nbl (lo hi : Nat) (ms : Md3) : Bool := ms.all (fun m => Nat.blt m.1 lo || Nat.blt hi m.1)
theorem nbl_ok {lo hi : Nat} {ms : Md3} (h : nbl lo hi ms = true) {a k : Nat} (h1 : lo ≤ a) (h2 : a ≤ hi) : inm ms a k = false := by
  cases hq : inm ms a k with
  | false => rfl
  | true =>
    obtain ⟨m, hm, h4⟩ := List.any_eq_true.mp hq
    obtain ⟨h4, -⟩ := andT h4
    have e := Nat.eq_of_beq_eq_true h4
    have q := List.all_eq_true.mp h m hm
    rcases Bool.or_eq_true_iff.mp q with q | q
    · have := Nat.le_of_ble_eq_true q; omega
    · have := Nat.le_of_ble_eq_true q; omega
def okR (ms : Md3) : Bool := okm okS okN ms && (!(inm ms 150 14) && (nbl 7 32 ms && (nbl 153 153 ms && nbl 155 155 ms)))
theorem LR_k {ms : Md3} (h : LR M) (hl : LI M') (h1 : M'.1 = M.1) (hk : kp ms M M') (ho : okR ms = true) : LR M' := by
  obtain ⟨o1, o2⟩ := andT ho
  obtain ⟨o2, o3⟩ := andT o2
  obtain ⟨o3, o4⟩ := andT o3
  obtain ⟨o4, o5⟩ := andT o4
  have hp := Iv_p h.iv
  have k14 : inm ms 150 14 = false := by
    cases hq : inm ms 150 14 with
    | false => rfl
    | true => rw [hq] at o2; cases o2
  refine ⟨LQ_k h.1 hl h1 hk o1, PL_cg hp h.2 (hk 1 1 (okm_s o1 (by decide))).2.1 (hk 150 14 k14).1 (fun a k h1 h2 _ => ?_) (fun k _ => ?_) (fun k _ => ?_)⟩
  · exact (hk a k (nbl_ok o3 (by omega) (by omega))).1
  · exact (hk 153 k (nbl_ok o4 (by omega) (by omega))).1
  · exact (hk 155 k (nbl_ok o5 (by omega) (by omega))).1
theorem isI_a {a k : Nat} (h : isI a k = true) (n c : Nat) (hk : kdT a = (c, n)) (hc : c = 8 ∨ c = 9) : k < n := by
  unfold isI at h
  rw [hk] at h
  rcases hc with rfl | rfl <;> exact Nat.le_of_ble_eq_true h
theorem LR_feed {t : Nat} {b : Nat → Nat} {x1 x2 x3 x4 x5 : Int32} (h : LR M) (ht : t ≤ 900) (h1 : kp msF M M1) (t1 : T6 (fdA t) (fdB b t x1 x2 x3 x4 x5) M1) (l2 : LPm M2) (h2 : kp msG M1 M2) (t2 : T7 (fdA t) (fdB b t x1 x2 x3 x4 x5) M2) : LR M2 := by
  have hp := Iv_p h.iv
  refine ⟨LQ_feed h.1 ht h1 t1 l2 h2 t2, PL_cg hp h.2 ((h2 1 1 rfl).2.1.trans (h1 1 1 rfl).2.1) ((h2 150 14 rfl).1.trans (h1 150 14 rfl).1) (fun a k a1 a2 _ => ?_) (fun k _ => (h2 153 k rfl).1.trans (h1 153 k rfl).1) (fun k _ => (h2 155 k rfl).1.trans (h1 155 k rfl).1)⟩
  exact (h2 a k (nbl_ok (lo := 7) (hi := 32) (by decide) (by omega) (by omega))).1.trans (h1 a k (nbl_ok (lo := 7) (hi := 32) (by decide) (by omega) (by omega))).1
theorem LR_close {t : Nat} {b : Nat → Nat} {n : Int32} (h : LR M) (ht : t ≤ 900) (h1 : kp msZ8 M M1) (t1 : T6 (clA n t) b M1) (f1 : mI M1 2 13 = cF (cO b n t) (mI M 2 13)) (l1 : LPm M1) (z1 : ∃ M'', eX6 (cO b n t) M M'' ∧ M''.1 = M.1 ∧ agr M1 M'') (l2 : LPm M2) (h2 : kp msC M1 M2) (t2 : T7 (clA n t) b M2) (f2 : mI M2 150 9 = cF (cO b n t) (mI M1 150 9)) (z2 : ∃ M'', eX7 (cO b n t) M1 M'' ∧ M''.1 = M1.1 ∧ agr M2 M'') : LR M2 := by
  refine ⟨LQ_close h.1 ht h1 t1 f1 l2 h2 t2 f2, ?_⟩
  have hp := Iv_p h.iv
  obtain ⟨N1, e1, -, g1⟩ := z1
  obtain ⟨N2, e2, -, g2⟩ := z2
  have hr1 : mR M1 1 1 = mR N1 1 1 := ag_R l1.1 l1.2.2.1 g1 (by decide) (by decide) rfl
  have hr2 : mR M2 1 1 = mR M1 1 1 := (h2 1 1 rfl).2.1
  have a1 : ∀ a k, 0 < a → a ≤ 167 → isI a k = true → mI M1 a k = mI N1 a k := fun a k x y z => ag_I l1.1 l1.2.2.1 g1 x y z
  have a2 : ∀ a k, 0 < a → a ≤ 167 → isI a k = true → mI M2 a k = mI N2 a k := fun a k x y z => ag_I l2.1 l2.2.2.1 g2 x y z
  have b1 : ∀ a k, 7 ≤ a → a ≤ 32 → mI M2 a k = mI M1 a k := fun a k x y => (h2 a k (nbl_ok (lo := 7) (hi := 32) (by decide) (by omega) (by omega))).1
  have i3 : ∀ k, k < 202 → isI 153 k = true := fun k hk => Nat.ble_eq_true_of_le hk
  have i5 : ∀ k, k < 25 → isI 155 k = true := fun k hk => Nat.ble_eq_true_of_le hk
  cases ho : cO b n t with
  | none =>
    rw [ho] at e1 e2
    obtain ⟨q1, q2⟩ := e1
    refine PL_cg hp h.2 (hr2.trans (hr1.trans q1)) ?_ (fun a k x y z => ?_) (fun k hk => ?_) (fun k hk => ?_)
    · rw [a2 150 14 (by decide) (by decide) rfl, e2 150 14 (by decide)]
      exact (h1 150 14 rfl).1
    · rw [b1 a k (by omega) (by omega), a1 a k (by omega) (by omega) z]
      exact q2 a k (by omega)
    · rw [a2 153 k (by decide) (by decide) (i3 k hk), e2 153 k (by omega)]
      exact (h1 153 k rfl).1
    · rw [a2 155 k (by decide) (by decide) (i5 k hk), e2 155 k (by omega)]
      exact (h1 155 k rfl).1
  | some o =>
    cases o with
    | inl er =>
      rw [ho] at e1 e2
      obtain ⟨q1, q2, -⟩ := e1
      obtain ⟨e2, -⟩ := e2
      refine PL_cg hp h.2 (hr2.trans (hr1.trans q1)) ?_ (fun a k x y z => ?_) (fun k hk => ?_) (fun k hk => ?_)
      · rw [a2 150 14 (by decide) (by decide) rfl, e2 150 14 (by decide) (by decide) (by decide) (by decide)]
        exact (h1 150 14 rfl).1
      · rw [b1 a k (by omega) (by omega), a1 a k (by omega) (by omega) z]
        exact q2 a k (by omega) (by omega) (by omega) (by omega) (by omega)
      · rw [a2 153 k (by decide) (by decide) (i3 k hk), e2 153 k (by omega) (by decide) (by decide) (by decide)]
        exact (h1 153 k rfl).1
      · rw [a2 155 k (by decide) (by decide) (i5 k hk), e2 155 k (by omega) (by decide) (by decide) (by decide)]
        exact (h1 155 k rfl).1
    | inr P =>
      rw [ho] at e1 e2
      obtain ⟨q1, -, q3, -, -⟩ := e1
      obtain ⟨-, e3, -, -, e4, e5, e6, e7, e8, -⟩ := e2
      have hr : mR M2 1 1 = 27 - mR M 1 1 := hr2.trans (hr1.trans q1)
      refine Or.inr ⟨?_, P, e4, e5, e6, ?_, FS_cg e7 (fun k hk => a2 153 k (by decide) (by decide) (i3 k hk)), FH_cg e8 (fun k hk => a2 155 k (by decide) (by decide) (i5 k hk))⟩
      · rw [a2 150 14 (by decide) (by decide) rfl]
        exact e3
      · rw [hr]
        refine PC_cq (by omega) e4 q3 (fun a k x y z => ?_)
        rw [b1 a k (by omega) (by omega)]
        exact a1 a k (by omega) (by omega) z
end LRS
