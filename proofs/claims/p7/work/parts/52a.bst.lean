/-! the plain state over the law's memories -/
section BST
abbrev Ost : Type := Option Ast
def BS6 (o : Ost) (p : Nat) (I : Nat → Nat → Int32) : Prop := match o with
  | none => NC6 p I
  | some A => AS6 A p I
def BS7 (o : Ost) (I : Nat → Nat → Int32) : Prop := match o with
  | none => NC7 I
  | some A => AS7 A I
def RO (o : Ost) : Prop := match o with
  | none => True
  | some A => RA A
def lft (f : Ast → Int32 × Ast) (v0 : Int32) (o : Ost) : Int32 × Ost := match o with
  | none => (v0, none)
  | some A => ((f A).1, some (f A).2)
theorem RO_l {f : Ast → Int32 × Ast} {v0 : Int32} {o : Ost} (hf : ∀ A, RA A → RA (f A).2) (h : RO o) : RO (lft f v0 o).2 := by
  cases o with
  | none => trivial
  | some A => exact hf A h
variable {I I' : Nat → Nat → Int32} {p : Nat} {o : Ost} {M M' M1 M2 : Mm}
def pl6 (a k : Nat) : Prop := (a = 1 ∧ (k = 5 ∨ k = 6 ∨ k = 8)) ∨ (7 ≤ a ∧ a ≤ 37) ∨ (55 ≤ a ∧ a ≤ 149)
def pl7 (a k : Nat) : Prop := (a = 150 ∧ (k = 14 ∨ k = 22 ∨ k = 23)) ∨ a = 153 ∨ a = 155 ∨ a = 157 ∨ a = 158 ∨ a = 159
theorem mo_I : ∀ i, i < 19 → isI (55 + 5 * i) 4 = true ∧ isI (55 + 5 * i) 5 = true := by decide +kernel
theorem mo_J : ∀ i, i < 19 → ∀ f, f < 6 → isI (55 + 5 * i + 1) f = true ∧ isI (55 + 5 * i + 2) f = true ∧ isI (55 + 5 * i + 3) f = true := by decide +kernel
theorem mo_K : ∀ i, i < 19 → ∀ c, c < 5 → isI (55 + 5 * i + 4) c = true := by decide +kernel
theorem nw_J : ∀ f, f < 6 → isI (33 + 1) f = true ∧ isI (33 + 2) f = true ∧ isI (33 + 3) f = true := by decide +kernel
theorem nw_K : ∀ c, c < 5 → isI (33 + 4) c = true := by decide +kernel
theorem MR_cg {F C a : Nat} {S : Rw} (h : MR F C a S I) (hF : F ≤ 6) (hC : C ≤ 5) (i4 : isI a 4 = true ∧ isI a 5 = true) (iJ : ∀ f, f < 6 → isI (a + 1) f = true ∧ isI (a + 2) f = true ∧ isI (a + 3) f = true) (iK : ∀ c, c < 5 → isI (a + 4) c = true) (he : ∀ c k, isI c k = true → a ≤ c → c ≤ a + 4 → I' c k = I c k) : MR F C a S I' := by
  obtain ⟨h1, h2, h3, h4⟩ := h
  refine ⟨fun f hf => ?_, fun c hc => ?_, ?_, ?_⟩
  · obtain ⟨x1, x2, x3⟩ := iJ f (by omega)
    rw [he _ f x1 (by omega) (by omega), he _ f x2 (by omega) (by omega), he _ f x3 (by omega) (by omega)]; exact h1 f hf
  · rw [he _ c (iK c (by omega)) (by omega) (by omega)]; exact h2 c hc
  · rw [he a 4 i4.1 (by omega) (by omega)]; exact h3
  · rw [he a 5 i4.2 (by omega) (by omega)]; exact h4
theorem BS6_cg (hp : p = 7 ∨ p = 20) (hR : RO o) (h : BS6 o p I) (he : ∀ a k, isI a k = true → pl6 a k → I' a k = I a k) : BS6 o p I' := by
  cases o with
  | none =>
    obtain ⟨h1, h2, h3, h4⟩ := h
    exact ⟨PC0_cg hp h1 (fun a k z1 z2 z3 => he a k z3 (by unfold pl6; omega)), by rw [he 1 6 rfl (by unfold pl6; omega)]; exact h2, by rw [he 1 8 rfl (by unfold pl6; omega)]; exact h3, by rw [he 33 4 rfl (by unfold pl6; omega)]; exact h4⟩
  | some A =>
    obtain ⟨h1, h2, ⟨x, hx, e5, h3⟩, h4, h5, h6⟩ := h
    obtain ⟨hF, hC⟩ := ra_FC hR
    have hG := hR.2.1.2
    refine ⟨PC_cq hp hR.1.1 h1 (fun a k z1 z2 z3 => he a k z3 (by unfold pl6; omega)), MR_cg h2 hF hC ⟨rfl, rfl⟩ nw_J nw_K (fun c k z1 z2 z3 => he c k z1 (by unfold pl6; omega)), ⟨x, hx, by rw [he 1 5 rfl (by unfold pl6; omega)]; exact e5, fun j hj => ?_⟩, by rw [he 1 6 rfl (by unfold pl6; omega)]; exact h4, by rw [he 1 8 rfl (by unfold pl6; omega)]; exact h5, fun j hj => ?_⟩
    · have kl := kSl_lt (x := x) (k := A.2.2.1.length) (j := j)
      exact MR_cg (h3 j hj) hF hC (mo_I _ (by omega)) (mo_J _ (by omega)) (mo_K _ (by omega)) (fun c k z1 z2 z3 => he c k z1 (by unfold pl6; omega))
    · exact MR_cg (h6 j hj) hF hC (mo_I _ (by omega)) (mo_J _ (by omega)) (mo_K _ (by omega)) (fun c k z1 z2 z3 => he c k z1 (by unfold pl6; omega))
theorem BS7_cg (hR : RO o) (h : BS7 o I) (he : ∀ a k, isI a k = true → pl7 a k → I' a k = I a k) : BS7 o I' := by
  cases o with
  | none =>
    obtain ⟨h1, h2, h3⟩ := h
    exact ⟨by rw [he 150 14 rfl (by unfold pl7; omega)]; exact h1, by rw [he 150 22 rfl (by unfold pl7; omega)]; exact h2, by rw [he 150 23 rfl (by unfold pl7; omega)]; exact h3⟩
  | some A =>
    obtain ⟨a1, a2, a3, a4, a5, a6, a7, a8⟩ := h
    have h16 := hR.2.1.1
    have h3 := hR.2.1.2
    have i3 : ∀ k, k < 202 → isI 153 k = true := fun k hk => Nat.ble_eq_true_of_le hk
    have i5 : ∀ k, k < 25 → isI 155 k = true := fun k hk => Nat.ble_eq_true_of_le hk
    have i7 : ∀ k, k < 25 → isI 157 k = true := fun k hk => Nat.ble_eq_true_of_le hk
    have i8 : ∀ k, k < 400 → isI 158 k = true := fun k hk => Nat.ble_eq_true_of_le hk
    have i9 : ∀ k, k < 75 → isI 159 k = true := fun k hk => Nat.ble_eq_true_of_le hk
    exact ⟨by rw [he 150 14 rfl (by unfold pl7; omega)]; exact a1, FS_cg a2 (fun i hi => he 153 i (i3 i hi) (by unfold pl7; omega)), FH_cg a3 (fun i hi => he 155 i (i5 i hi) (by unfold pl7; omega)), fun i hi => by rw [he 157 i (i7 i hi) (by unfold pl7; omega)]; exact a4 i hi, by rw [he 150 22 rfl (by unfold pl7; omega)]; exact a5, fun j hj i hi => by rw [he 158 _ (i8 _ (by omega)) (by unfold pl7; omega)]; exact a6 j hj i hi, by rw [he 150 23 rfl (by unfold pl7; omega)]; exact a7, fun j hj i hi => by rw [he 159 _ (i9 _ (by omega)) (by unfold pl7; omega)]; exact a8 j hj i hi⟩
/-- the law's states with the plain state -/
def SV (o : Ost) (M : Mm) : Prop := RO o ∧ BS6 o (mR M 1 1) (mI M) ∧ BS7 o (mI M)
def LX (M : Mm) : Prop := LQ M ∧ ∃ o, SV o M
theorem LX.li (h : LX M) : LI M := h.1.li
theorem LX.iv (h : LX M) : Iv Pt8 M := h.1.1.1
theorem LX.q (h : LX M) : LQ M := h.1
def ok6 (ms : Md3) : Bool := okm [(1, 1), (1, 5), (1, 6), (1, 8)] [] ms && (nbl 7 37 ms && nbl 55 149 ms)
def ok7 (ms : Md3) : Bool := okm [(150, 14), (150, 22), (150, 23)] [153, 155, 157, 158, 159] ms
theorem pl6_k {ms : Md3} (ho : ok6 ms = true) {a k : Nat} (h : pl6 a k) : inm ms a k = false := by
  obtain ⟨o1, o2⟩ := andT ho
  obtain ⟨o2, o3⟩ := andT o2
  rcases h with ⟨rfl, rfl | rfl | rfl⟩ | ⟨h1, h2⟩ | ⟨h1, h2⟩
  · exact okm_s o1 (by decide)
  · exact okm_s o1 (by decide)
  · exact okm_s o1 (by decide)
  · exact nbl_ok o2 h1 h2
  · exact nbl_ok o3 h1 h2
theorem pl7_k {ms : Md3} (ho : ok7 ms = true) {a k : Nat} (h : pl7 a k) : inm ms a k = false := by
  rcases h with ⟨rfl, rfl | rfl | rfl⟩ | rfl | rfl | rfl | rfl | rfl
  · exact okm_s ho (by decide)
  · exact okm_s ho (by decide)
  · exact okm_s ho (by decide)
  · exact okm_n ho (by decide) k
  · exact okm_n ho (by decide) k
  · exact okm_n ho (by decide) k
  · exact okm_n ho (by decide) k
  · exact okm_n ho (by decide) k
theorem BS6_k {ms : Md3} (hp : mR M 1 1 = 7 ∨ mR M 1 1 = 20) (hR : RO o) (h : BS6 o (mR M 1 1) (mI M)) (hk : kp ms M M') (ho : ok6 ms = true) : BS6 o (mR M' 1 1) (mI M') := by
  rw [(hk 1 1 (okm_s (andT ho).1 (by decide))).2.1]
  exact BS6_cg hp hR h (fun a k _ z => (hk a k (pl6_k ho z)).1)
theorem BS7_k {ms : Md3} (hR : RO o) (h : BS7 o (mI M)) (hk : kp ms M M') (ho : ok7 ms = true) : BS7 o (mI M') :=
  BS7_cg hR h (fun a k _ z => (hk a k (pl7_k ho z)).1)
def okV (ms : Md3) : Bool := okm okS okN ms && (ok6 ms && ok7 ms)
theorem SV_k {ms : Md3} (hi : Iv Pt8 M) (h : SV o M) (hk : kp ms M M') (ho : okV ms = true) : SV o M' :=
  ⟨h.1, BS6_k (Iv_p hi) h.1 h.2.1 hk (andT (andT ho).2).1, BS7_k h.1 h.2.2 hk (andT (andT ho).2).2⟩
theorem LX_k {ms : Md3} (h : LX M) (hl : LI M') (h1 : M'.1 = M.1) (hk : kp ms M M') (ho : okV ms = true) : LX M' := by
  obtain ⟨hq, o, hv⟩ := h
  exact ⟨LQ_k hq hl h1 hk (andT ho).1, o, SV_k hq.1.1 hv hk ho⟩
theorem LX_feed {t : Nat} {b : Nat → Nat} {x1 x2 x3 x4 x5 : Int32} (h : LX M) (ht : t ≤ 900) (h1 : kp msF M M1) (t1 : T6 (fdA t) (fdB b t x1 x2 x3 x4 x5) M1) (l2 : LPm M2) (h2 : kp msG M1 M2) (t2 : T7 (fdA t) (fdB b t x1 x2 x3 x4 x5) M2) : LX M2 := by
  obtain ⟨hq, o, hv⟩ := h
  refine ⟨LQ_feed hq ht h1 t1 l2 h2 t2, o, hv.1, ?_, BS7_k hv.1 (BS7_k hv.1 hv.2.2 h1 (by decide +kernel)) h2 (by decide +kernel)⟩
  have q1 := BS6_k (Iv_p hq.1.1) hv.1 hv.2.1 h1 (by decide +kernel)
  have e1 : mR M1 1 1 = mR M 1 1 := (h1 1 1 rfl).2.1
  exact BS6_k (by rw [e1]; exact Iv_p hq.1.1) hv.1 q1 h2 (by decide +kernel)
/-- close -/
def oClo (o : Ost) (c : Option ((Nat × Nat) ⊕ Ps)) : Ost := match c with
  | some (.inr P) => some (A0 P)
  | _ => o
theorem LX_close {t : Nat} {b : Nat → Nat} {n : Int32} (h : LX M) (ht : t ≤ 900) (h1 : kp msZ8 M M1) (t1 : T6 (clA n t) b M1) (f1 : mI M1 2 13 = cF (cO b n t) (mI M 2 13)) (l1 : LPm M1) (z1 : ∃ M'', eY6 (cO b n t) M M'' ∧ M''.1 = M.1 ∧ agr M1 M'') (l2 : LPm M2) (h2 : kp msC M1 M2) (t2 : T7 (clA n t) b M2) (f2 : mI M2 150 9 = cF (cO b n t) (mI M1 150 9)) (z2 : ∃ M'', eY7 (cO b n t) M1 M'' ∧ M''.1 = M1.1 ∧ agr M2 M'') : LX M2 := by
  obtain ⟨hq, o, hR, hv6, hv7⟩ := h
  refine ⟨LQ_close hq ht h1 t1 f1 l2 h2 t2 f2, oClo o (cO b n t), ?_⟩
  have hp := Iv_p hq.1.1
  obtain ⟨N1, e1, -, g1⟩ := z1
  obtain ⟨N2, e2, -, g2⟩ := z2
  have hr1 : mR M1 1 1 = mR N1 1 1 := ag_R l1.1 l1.2.2.1 g1 (by decide) (by decide) rfl
  have a1 : ∀ a k, 0 < a → a ≤ 167 → isI a k = true → mI M1 a k = mI N1 a k := fun a k x y z => ag_I l1.1 l1.2.2.1 g1 x y z
  have a2 : ∀ a k, 0 < a → a ≤ 167 → isI a k = true → mI M2 a k = mI N2 a k := fun a k x y z => ag_I l2.1 l2.2.2.1 g2 x y z
  have c6 : ∀ o', RO o' → (mR M1 1 1 = 7 ∨ mR M1 1 1 = 20) → BS6 o' (mR M1 1 1) (mI M1) → BS6 o' (mR M2 1 1) (mI M2) := fun o' r1 r2 r3 => BS6_k r2 r1 r3 h2 (by decide +kernel)
  have b7 : BS7 o (mI M1) := BS7_k hR hv7 h1 (by decide +kernel)
  cases ho : cO b n t with
  | none =>
    rw [ho] at e1 e2
    obtain ⟨q1, q2⟩ := e1
    refine ⟨hR, c6 o hR (by rw [hr1, q1]; exact hp) ?_, BS7_cg hR b7 (fun a k y1 y2 => ?_)⟩
    · rw [hr1, q1]
      refine BS6_cg hp hR hv6 (fun a k y1 y2 => ?_)
      unfold pl6 at y2
      rw [a1 a k (by omega) (by omega) y1]
      exact q2 a k (by omega)
    · unfold pl7 at y2
      rw [a2 a k (by omega) (by omega) y1]
      exact e2 a k (by omega)
  | some c =>
    cases c with
    | inl er =>
      rw [ho] at e1 e2
      obtain ⟨q1, q2, -⟩ := e1
      obtain ⟨e2, -⟩ := e2
      refine ⟨hR, c6 o hR (by rw [hr1, q1]; exact hp) ?_, BS7_cg hR b7 (fun a k y1 y2 => ?_)⟩
      · rw [hr1, q1]
        have sp : ∀ a k, isI a k = true → pl6 a k → ¬ (27 - mR M 1 1 ≤ a ∧ a ≤ 27 - mR M 1 1 + 12) → mI M1 a k = mI M a k := fun a k y1 y2 y3 => by
          unfold pl6 at y2
          rw [a1 a k (by omega) (by omega) y1]
          exact q2 a k (by omega) (by omega) (by omega) (by omega) y3
        cases o with
        | none =>
          obtain ⟨w1, w2, w3, w4⟩ := hv6
          exact ⟨PC0_cg hp w1 (fun a k z1 z2 z3 => sp a k z3 (by unfold pl6; omega) (by omega)), by rw [sp 1 6 rfl (by unfold pl6; omega) (by omega)]; exact w2, by rw [sp 1 8 rfl (by unfold pl6; omega) (by omega)]; exact w3, by rw [sp 33 4 rfl (by unfold pl6; omega) (by omega)]; exact w4⟩
        | some A =>
          obtain ⟨w1, w2, ⟨x, hx, e5, w3⟩, w4, w5, w6⟩ := hv6
          obtain ⟨hF, hC⟩ := ra_FC hR
          have hG := hR.2.1.2
          refine ⟨PC_cq hp hR.1.1 w1 (fun a k z1 z2 z3 => sp a k z3 (by unfold pl6; omega) (by omega)), MR_cg w2 hF hC ⟨rfl, rfl⟩ nw_J nw_K (fun c k z1 z2 z3 => sp c k z1 (by unfold pl6; omega) (by omega)), ⟨x, hx, by rw [sp 1 5 rfl (by unfold pl6; omega) (by omega)]; exact e5, fun j hj => ?_⟩, by rw [sp 1 6 rfl (by unfold pl6; omega) (by omega)]; exact w4, by rw [sp 1 8 rfl (by unfold pl6; omega) (by omega)]; exact w5, fun j hj => ?_⟩
          · have kl := kSl_lt (x := x) (k := A.2.2.1.length) (j := j)
            exact MR_cg (w3 j hj) hF hC (mo_I _ (by omega)) (mo_J _ (by omega)) (mo_K _ (by omega)) (fun c k z1 z2 z3 => sp c k z1 (by unfold pl6; omega) (by omega))
          · exact MR_cg (w6 j hj) hF hC (mo_I _ (by omega)) (mo_J _ (by omega)) (mo_K _ (by omega)) (fun c k z1 z2 z3 => sp c k z1 (by unfold pl6; omega) (by omega))
      · unfold pl7 at y2
        rw [a2 a k (by omega) (by omega) y1]
        exact e2 a k (by omega) (by omega) (by omega) (by omega)
    | inr P =>
      rw [ho] at e1 e2
      obtain ⟨q1, -, q3, q4, q5, nb1, nb2, nb3, nb4⟩ := e1
      obtain ⟨-, e3, e22, e23, ePI, eB, eK, e0, eFS, eFH5, eFH7⟩ := e2
      have hRA := RA_0 eB ePI e0
      have hF : P.1 4 ≤ 6 := eB.1.1.1.2.2.2.1
      have hC : P.1 5 ≤ 5 := eB.1.1.1.2.2.2.2.1
      have hp2 : 27 - mR M 1 1 = 7 ∨ 27 - mR M 1 1 = 20 := by omega
      have hr : mR M1 1 1 = 27 - mR M 1 1 := hr1.trans q1
      have s18 : ∀ c, c < 5 → S0 P (18 + c) = nI (P.1 (300 + c)) := fun c hc => by
        unfold S0
        rw [if_neg (by omega), if_pos (by omega), Nat.add_sub_cancel_left]
      have sz : ∀ i, 6 ≤ i → (i < 18 ∨ 23 ≤ i) → S0 P i = 0 := fun i z1 z2 => by
        unfold S0
        rw [if_neg (by omega), if_neg (by omega)]
      have s6 : ∀ f, f < 6 → S0 P f = nI (P.1 (12 + 4 * f)) := fun f hf => by
        unfold S0
        rw [if_pos hf]
      have hx : ∃ x, x < 16 ∧ mI M1 1 5 = nI x := by
        have q : 0 ≤ (mI M1 1 5).toInt ∧ (mI M1 1 5).toInt ≤ 15 := l1.1.2.2.2 1 5 (by decide)
        exact ⟨(mI M1 1 5).toInt.toNat, by omega, nI_at q.1 (by omega)⟩
      obtain ⟨x, hx, e5⟩ := hx
      refine ⟨hRA, c6 (some (A0 P)) hRA (by rw [hr]; exact hp2) ?_, ?_⟩
      · rw [hr]
        have pc1 : PC (27 - mR M 1 1) P.1 P.2.1 (mI M1) := PC_cq hp2 eB q3 (fun a k z1 z2 z3 => a1 a k (by omega) (by omega) z3)
        refine ⟨pc1, ⟨fun f hf => ?_, fun c hc => ?_, ?_, ?_⟩, ⟨x, hx, e5, fun j hj => absurd hj (Nat.not_lt_zero _)⟩, ?_, ?_, fun j hj => absurd hj (Nat.not_lt_zero _)⟩
        · have hf : f < P.1 4 := hf
          obtain ⟨x1, x2, x3⟩ := nw_J f (by omega)
          obtain ⟨y1, y2, y3⟩ := nb1 f (by omega)
          refine ⟨?_, ?_, ?_⟩
          · rw [a1 (33 + 1) f (by decide) (by decide) x1]
            show _ = S0 P f
            rw [s6 f (by omega)]
            exact y1.trans (q3.2.1 f hf).2.1
          · rw [a1 (33 + 2) f (by decide) (by decide) x2]
            show _ = S0 P (6 + f)
            rw [sz (6 + f) (by omega) (by omega)]
            exact y2
          · rw [a1 (33 + 3) f (by decide) (by decide) x3]
            show _ = S0 P (12 + f)
            rw [sz (12 + f) (by omega) (by omega)]
            exact y3
        · have hc : c < P.1 5 := hc
          rw [a1 (33 + 4) c (by decide) (by decide) (nw_K c (by omega))]
          show _ = S0 P (18 + c)
          rw [s18 c (by omega)]
          exact (nb2 c (by omega)).trans (q3.2.2.2.1 c hc).1
        · rw [a1 33 4 (by decide) (by decide) rfl]
          show _ = S0 P 23
          rw [sz 23 (by decide) (by decide)]
          exact nb3
        · rw [a1 33 5 (by decide) (by decide) rfl]
          show _ = S0 P 24
          rw [sz 24 (by decide) (by decide)]
          exact nb4
        · rw [a1 1 6 (by decide) (by decide) rfl]; exact q4
        · rw [a1 1 8 (by decide) (by decide) rfl]; exact q5
      · refine ⟨?_, FS_cg eFS (fun k hk => a2 153 k (by decide) (by decide) (Nat.ble_eq_true_of_le hk)), FH_cg eFH5 (fun k hk => a2 155 k (by decide) (by decide) (Nat.ble_eq_true_of_le hk)), fun i hi => ?_, ?_, fun j hj => absurd hj (Nat.not_lt_zero _), ?_, fun j hj => absurd hj (Nat.not_lt_zero _)⟩
        · rw [a2 150 14 (by decide) (by decide) rfl]; exact e3
        · rw [a2 157 i (by decide) (by decide) (Nat.ble_eq_true_of_le hi)]
          show _ = S0 P i
          by_cases z1 : i < 6
          · rw [s6 i z1]; exact eFH7.2.1 i z1
          · by_cases z2 : 18 ≤ i ∧ i < 23
            · have q := eFH7.1 (i - 18) (by omega)
              rw [show 18 + (i - 18) = i by omega] at q
              have q2 := s18 (i - 18) (by omega)
              rw [show 18 + (i - 18) = i by omega] at q2
              rw [q2]; exact q
            · rw [sz i (by omega) (by omega)]
              exact eFH7.2.2 i (by omega) hi (by omega)
        · rw [a2 150 22 (by decide) (by decide) rfl]; exact e22
        · rw [a2 150 23 (by decide) (by decide) rfl]; exact e23
end BST
