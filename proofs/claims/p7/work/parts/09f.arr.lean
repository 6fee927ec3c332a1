/-! the checker's arrays -/
section ARR9
variable {P : Pk} {ms : Md3} {M0 : Mm × Int} {av : List Value} {r0 : List Int} {kr : KR} {A : ASt} {L : List (Nat × ASt)} {pc : Nat}
/-- an index within all of the arrays -/
def oki (P : Pk) (c : Nat) (ns : List Nat) (b : Int × Int) : Bool := decide (0 ≤ b.1) && (decide (b.2 < 1000) && ns.all (fun n => okn P c n && decide (b.2 < ((P.1 n).2 : Int))))
theorem oki_ok {M : Mm} {c n : Nat} {ns : List Nat} {b : Int × Int} {i : Int32} (hI : Iv P M) (h : oki P c ns b = true) (hm : n ∈ ns) (hb : b.1 ≤ i.toInt ∧ i.toInt ≤ b.2) : okn P c n = true ∧ (i = nI i.toInt.toNat ∧ i.toInt.toNat < 1000 ∧ i.toInt.toNat < (mK M n).2) ∧ b.1.toNat ≤ i.toInt.toNat ∧ i.toInt.toNat ≤ b.2.toNat := by
  obtain ⟨h1, h2⟩ := andT h
  obtain ⟨h3, h4⟩ := andT h2
  obtain ⟨h5, h6⟩ := andT (List.all_eq_true.mp h4 n hm)
  have e1 := of_decide_eq_true h1
  have e3 := of_decide_eq_true h3
  have e6 := of_decide_eq_true h6
  refine ⟨h5, ⟨nI_at (by omega) (by omega), by omega, ?_⟩, by omega, by omega⟩
  rw [hI.2.1 n (okn_le h5)]
  omega
/-- an element: of ints (9) or bytes (8) -/
def aIal (P : Pk) (pc c : Nat) (A : ASt) : Option (List (Nat × ASt)) := match A.2.1 with
  | i :: a :: sk => cond (Nat.beq i.1 0 && Nat.beq a.1 2) (match ab A.2.2.1 i with
    | some b => cond (oki P c a.2.2.2 b) (match a.2.2.2 with
      | [n] => cond (Nat.beq b.1.toNat b.2.toNat) (match cgt A.2.2.2 n b.1.toNat 0 with
        | some v => some [(pc + 1, (A.1, v :: sk, A.2.2))]
        | none => some [(pc + 1, frd A [n] b.1.toNat true sk (rwB (P.2.2 n) b.1.toNat))]) (some [(pc + 1, frd A [n] 0 false sk (rwR (P.2.2 n) b.1.toNat b.2.toNat))])
      | ns => some [(pc + 1, frd A ns 0 false sk (jb (fun n => rwR (P.2.2 n) b.1.toNat b.2.toNat) ns))]) none
    | none => none) none
  | _ => none
theorem aIal_in {c : Nat} {ls : Ls} {st : List Value} {M : Mm} {kn : KN} (he : aIal P pc c A = some L) (hJ : Jv P ms M0 M) (hg : gX av r0 M ls st A) (hn : Nx (Jv P ms M0) av r0 kn L) : ∃ (i : Int32) (n : Nat) (t : List Value), st = .int i :: .ref n :: t ∧ kk M n c = true ∧ ∃ j : Nat, (i = nI j ∧ j < 1000 ∧ j < (mK M n).2) ∧ kn (pc + 1) ls (.int (mI M n j) :: t) M := by
  obtain ⟨rho, hg⟩ := hg
  have hI := hJ.2.1
  unfold aIal at he
  split at he
  · rename_i i a sk hs
    obtain ⟨h0, he⟩ := condN he
    obtain ⟨h1, h2⟩ := andT h0
    have hl := hg.2.2.2.1
    rw [hs] at hl
    obtain ⟨x, u, rfl, hxa, hl2⟩ := gl_i hl h1
    obtain ⟨n, u, rfl, hm, hl3⟩ := gl_r hl2 h2
    cases hb : ab A.2.2.1 i with
    | none => rw [hb] at he; cases he
    | some b =>
      rw [hb] at he
      obtain ⟨h5, he⟩ := condN he
      obtain ⟨k1, k2, k3, k4⟩ := oki_ok hI h5 hm (ab_ok hg.1 hxa hb)
      refine ⟨x, n, u, rfl, kk_ok hI k1, _, k2, ?_⟩
      have hi := hI.2.2.2 n x.toInt.toNat (okn_le k1)
      split at he
      · rename_i m hns
        rw [hns] at hm
        have e : n = m := List.mem_singleton.mp hm
        subst e
        cases hq : Nat.beq b.1.toNat b.2.toNat with
        | true =>
          rw [hq] at he
          have e1 := Nat.eq_of_beq_eq_true hq
          have e2 : x.toInt.toNat = b.1.toNat := by omega
          rw [e2] at hi ⊢
          have he : (match cgt A.2.2.2 n b.1.toNat 0 with
            | some v => some [(pc + 1, (A.1, v :: sk, A.2.2))]
            | none => some [(pc + 1, frd A [n] b.1.toNat true sk (rwB (P.2.2 n) b.1.toNat))]) = some L := he
          split at he
          · rename_i v hv
            cases he
            exact hn.one hJ ⟨rho, gA_stk hg ⟨(cgt_ok hg.2.2.2.2 hv).1, hl3⟩⟩
          · cases he
            exact hn.one hJ (frd_ok hg hl3 (List.mem_singleton.mpr rfl) (fun _ => rfl) hi.1 hi.2)
        | false =>
          rw [hq] at he
          cases he
          have hb := rwR_ok (rs := P.2.2 n) k3 k4
          exact hn.one hJ (frd_ok hg hl3 (List.mem_singleton.mpr rfl) (fun z => by cases z) (Int.le_trans hb.1 hi.1) (Int.le_trans hi.2 hb.2))
      · cases he
        have hb := rwR_ok (rs := P.2.2 n) k3 k4
        have hb2 := jb_ok (f := fun n => rwR (P.2.2 n) b.1.toNat b.2.toNat) hm
        exact hn.one hJ (frd_ok hg hl3 hm (fun z => by cases z) (Int.le_trans hb2.1 (Int.le_trans hb.1 hi.1)) (Int.le_trans hi.2 (Int.le_trans hb.2 hb2.2)))
  · cases he
theorem aIal_ok (he : aIal P pc 9 A = some L) : Sd (Jv P ms M0) av r0 kr (oIal pc) A L := by
  intro ls st M kn hJ hg hn
  obtain ⟨i, n, t, rfl, hk, h⟩ := aIal_in he hJ hg hn
  simp only [oIal, hk, cond_true]
  exact h
theorem aBal_ok (he : aIal P pc 8 A = some L) : Sd (Jv P ms M0) av r0 kr (oBal pc) A L := by
  intro ls st M kn hJ hg hn
  obtain ⟨i, n, t, rfl, hk, h⟩ := aIal_in he hJ hg hn
  simp only [oBal, hk, cond_true]
  exact h
/-- an int into an array: within the bounds of every place it may come to -/
def aIas (P : Pk) (ms : Md3) (pc : Nat) (A : ASt) : Option (List (Nat × ASt)) := match A.2.1 with
  | v :: i :: a :: sk => cond (Nat.beq v.1 0 && (Nat.beq i.1 0 && Nat.beq a.1 2)) (match ab A.2.2.1 i, ab A.2.2.1 v with
    | some b, some w => cond (oki P 9 a.2.2.2 b && a.2.2.2.all (fun n => rwW (P.2.2 n) b.1.toNat b.2.toNat w && inw ms n b.1.toNat b.2.toNat)) (some [(pc + 1, (A.1, sk, A.2.2.1, cpt A.2.2.2 a.2.2.2 b.1.toNat b.2.toNat v))]) none
    | _, _ => none) none
  | _ => none
theorem aIas_ok (he : aIas P ms pc A = some L) : Sd (Jv P ms M0) av r0 kr (oIas pc) A L := by
  intro ls st M kn hJ hg hn
  obtain ⟨rho, hg⟩ := hg
  have hI := hJ.2.1
  unfold aIas at he
  split at he
  · rename_i v i a sk hs
    obtain ⟨h0, he⟩ := condN he
    obtain ⟨h1, h2⟩ := andT h0
    obtain ⟨h3, h4⟩ := andT h2
    have hl := hg.2.2.2.1
    rw [hs] at hl
    obtain ⟨z, u, rfl, hza, hl2⟩ := gl_i hl h1
    obtain ⟨x, u, rfl, hxa, hl3⟩ := gl_i hl2 h3
    obtain ⟨n, u, rfl, hm, hl4⟩ := gl_r hl3 h4
    cases hb : ab A.2.2.1 i with
    | none => rw [hb] at he; cases he
    | some b =>
      cases hw : ab A.2.2.1 v with
      | none => rw [hb, hw] at he; cases he
      | some w =>
        rw [hb, hw] at he
        obtain ⟨h5, he⟩ := condN he
        cases he
        obtain ⟨h6, h7⟩ := andT h5
        obtain ⟨k1, k2, k3, k4⟩ := oki_ok hI h6 hm (ab_ok hg.1 hxa hb)
        obtain ⟨h8, h9⟩ := andT (List.all_eq_true.mp h7 n hm)
        have hz := ab_ok hg.1 hza hw
        simp only [oIas, kk_ok hI k1, cond_true]
        exact ⟨_, k2, hn.one (hJ.wI (rwW_ok ⟨i32_lo z, i32_hi z⟩ hz h8 k3 k4) (inw_in h9 k3 k4) (inw_ne h9)) ⟨rho, hg.1, hg.2.1, hg.2.2.1, hl4, cpt_wI hg.2.2.2.2 hm k3 k4 hza⟩⟩
  · cases he
theorem gC_cdr {rho : List Int} {M : Mm} {C : List (Nat × Nat × AV)} {ns : List Nat} {lo hi n k : Nat} {x : Int32} (hC : gC rho M C) (hm : n ∈ ns) (h1 : lo ≤ k) (h2 : k ≤ hi) : gC rho (wI M n k x) (cdr C ns lo hi) := by
  intro e he
  obtain ⟨g1, g2⟩ := cdr_ne he hm h1 h2
  rw [cvl_wI g2]
  exact hC e g1
def aBas (P : Pk) (ms : Md3) (pc : Nat) (A : ASt) : Option (List (Nat × ASt)) := match A.2.1 with
  | v :: i :: a :: sk => cond (Nat.beq v.1 0 && (Nat.beq i.1 0 && Nat.beq a.1 2)) (match ab A.2.2.1 i with
    | some b => cond (oki P 8 a.2.2.2 b && a.2.2.2.all (fun n => rwW (P.2.2 n) b.1.toNat b.2.toNat (iLo, iHi) && inw ms n b.1.toNat b.2.toNat)) (some [(pc + 1, (A.1, sk, A.2.2.1, cdr A.2.2.2 a.2.2.2 b.1.toNat b.2.toNat))]) none
    | none => none) none
  | _ => none
theorem aBas_ok (he : aBas P ms pc A = some L) : Sd (Jv P ms M0) av r0 kr (oBas pc) A L := by
  intro ls st M kn hJ hg hn
  obtain ⟨rho, hg⟩ := hg
  have hI := hJ.2.1
  unfold aBas at he
  split at he
  · rename_i v i a sk hs
    obtain ⟨h0, he⟩ := condN he
    obtain ⟨h1, h2⟩ := andT h0
    obtain ⟨h3, h4⟩ := andT h2
    have hl := hg.2.2.2.1
    rw [hs] at hl
    obtain ⟨z, u, rfl, hza, hl2⟩ := gl_i hl h1
    obtain ⟨x, u, rfl, hxa, hl3⟩ := gl_i hl2 h3
    obtain ⟨n, u, rfl, hm, hl4⟩ := gl_r hl3 h4
    cases hb : ab A.2.2.1 i with
    | none => rw [hb] at he; cases he
    | some b =>
      rw [hb] at he
      obtain ⟨h5, he⟩ := condN he
      cases he
      obtain ⟨h6, h7⟩ := andT h5
      obtain ⟨k1, k2, k3, k4⟩ := oki_ok hI h6 hm (ab_ok hg.1 hxa hb)
      obtain ⟨h8, h9⟩ := andT (List.all_eq_true.mp h7 n hm)
      simp only [oBas, kk_ok hI k1, cond_true]
      exact ⟨_, k2, hn.one (hJ.wI (rwW_ok ⟨i32_lo _, i32_hi _⟩ ⟨i32_lo _, i32_hi _⟩ h8 k3 k4) (inw_in h9 k3 k4) (inw_ne h9)) ⟨rho, hg.1, hg.2.1, hg.2.2.1, hl4, gC_cdr hg.2.2.2.2 hm k3 k4⟩⟩
  · cases he
def aLal (P : Pk) (pc : Nat) (A : ASt) : Option (List (Nat × ASt)) := match A.2.1 with
  | i :: a :: sk => cond (Nat.beq i.1 0 && Nat.beq a.1 2) (match ab A.2.2.1 i with
    | some b => cond (oki P 10 a.2.2.2 b) (some [(pc + 1, fsh A 1 sk lLo lHi)]) none
    | none => none) none
  | _ => none
theorem aLal_ok (he : aLal P pc A = some L) : Sd (Jv P ms M0) av r0 kr (oLal pc) A L := by
  intro ls st M kn hJ hg hn
  obtain ⟨rho, hg⟩ := hg
  have hI := hJ.2.1
  unfold aLal at he
  split at he
  · rename_i i a sk hs
    obtain ⟨h0, he⟩ := condN he
    obtain ⟨h1, h2⟩ := andT h0
    have hl := hg.2.2.2.1
    rw [hs] at hl
    obtain ⟨x, u, rfl, hxa, hl2⟩ := gl_i hl h1
    obtain ⟨n, u, rfl, hm, hl3⟩ := gl_r hl2 h2
    cases hb : ab A.2.2.1 i with
    | none => rw [hb] at he; cases he
    | some b =>
      rw [hb] at he
      obtain ⟨h5, he⟩ := condN he
      cases he
      obtain ⟨k1, k2, -, -⟩ := oki_ok hI h5 hm (ab_ok hg.1 hxa hb)
      simp only [oLal, kk_ok hI k1, cond_true]
      exact ⟨_, k2, hn.one hJ (gA_freshL hg hl3 (i64_lo _) (i64_hi _))⟩
  · cases he
def aLas (P : Pk) (ms : Md3) (pc : Nat) (A : ASt) : Option (List (Nat × ASt)) := match A.2.1 with
  | v :: i :: a :: sk => cond (Nat.beq v.1 1 && (Nat.beq i.1 0 && Nat.beq a.1 2)) (match ab A.2.2.1 i with
    | some b => cond (oki P 10 a.2.2.2 b && a.2.2.2.all (fun n => ina ms n b.1.toNat b.2.toNat)) (some [(pc + 1, (A.1, sk, A.2.2.1, cdr A.2.2.2 a.2.2.2 b.1.toNat b.2.toNat))]) none
    | none => none) none
  | _ => none
theorem aLas_ok (he : aLas P ms pc A = some L) : Sd (Jv P ms M0) av r0 kr (oLas pc) A L := by
  intro ls st M kn hJ hg hn
  obtain ⟨rho, hg⟩ := hg
  have hI := hJ.2.1
  unfold aLas at he
  split at he
  · rename_i v i a sk hs
    obtain ⟨h0, he⟩ := condN he
    obtain ⟨h1, h2⟩ := andT h0
    obtain ⟨h3, h4⟩ := andT h2
    have hl := hg.2.2.2.1
    rw [hs] at hl
    obtain ⟨z, u, rfl, hza, hl2⟩ := gl_l hl h1
    obtain ⟨x, u, rfl, hxa, hl3⟩ := gl_i hl2 h3
    obtain ⟨n, u, rfl, hm, hl4⟩ := gl_r hl3 h4
    cases hb : ab A.2.2.1 i with
    | none => rw [hb] at he; cases he
    | some b =>
      rw [hb] at he
      obtain ⟨h5, he⟩ := condN he
      cases he
      obtain ⟨h5, h6⟩ := andT h5
      obtain ⟨k1, k2, k3, k4⟩ := oki_ok hI h5 hm (ab_ok hg.1 hxa hb)
      simp only [oLas, kk_ok hI k1, cond_true]
      exact ⟨_, k2, hn.one (M := wL M n _ z) (hJ.wL (ina_in (List.all_eq_true.mp h6 n hm) k3 k4)) ⟨rho, hg.1, hg.2.1, hg.2.2.1, hl4, gC_wL hg.2.2.2.2 hm k3 k4⟩⟩
  · cases he
/-- natural numbers of a range -/
def jdx (lo hi : Nat) : List Nat := (List.range (hi - lo + 1)).map (fun j => j + lo)
theorem jdx_ok {lo hi j : Nat} (h1 : lo ≤ j) (h2 : j ≤ hi) : j ∈ jdx lo hi :=
  List.mem_map.mpr ⟨j - lo, List.mem_range.mpr (by omega), by omega⟩
def aAal (P : Pk) (pc c : Nat) (A : ASt) : Option (List (Nat × ASt)) := match A.2.1 with
  | i :: a :: sk => cond (Nat.beq i.1 0 && Nat.beq a.1 2) (match ab A.2.2.1 i with
    | some b => cond (oki P c a.2.2.2 b) (some [(pc + 1, (A.1, (2, 0, 0, a.2.2.2.flatMap (fun n => (jdx b.1.toNat b.2.toNat).flatMap (fun k => P.2.1 n k))) :: sk, A.2.2))]) none
    | none => none) none
  | _ => none
theorem aAal_ok {c : Nat} (he : aAal P pc c A = some L) : Sd (Jv P ms M0) av r0 kr (oAal pc c) A L := by
  intro ls st M kn hJ hg hn
  obtain ⟨rho, hg⟩ := hg
  have hI := hJ.2.1
  unfold aAal at he
  split at he
  · rename_i i a sk hs
    obtain ⟨h0, he⟩ := condN he
    obtain ⟨h1, h2⟩ := andT h0
    have hl := hg.2.2.2.1
    rw [hs] at hl
    obtain ⟨x, u, rfl, hxa, hl2⟩ := gl_i hl h1
    obtain ⟨n, u, rfl, hm, hl3⟩ := gl_r hl2 h2
    cases hb : ab A.2.2.1 i with
    | none => rw [hb] at he; cases he
    | some b =>
      rw [hb] at he
      obtain ⟨h5, he⟩ := condN he
      cases he
      obtain ⟨k1, k2, k3, k4⟩ := oki_ok hI h5 hm (ab_ok hg.1 hxa hb)
      simp only [oAal, kk_ok hI k1, cond_true]
      exact ⟨_, k2, hn.one hJ ⟨rho, gA_stk hg ⟨⟨rfl, List.mem_flatMap.mpr ⟨n, hm, List.mem_flatMap.mpr ⟨_, jdx_ok k3 k4, hI.2.2.1 n _ (okn_le k1)⟩⟩⟩, hl3⟩⟩⟩
  · cases he
/-! copies of rows: from place x of a name to place y of another, z places -/
def acs : List AV → Nat
  | [] => 0
  | a :: t => acat a + acs t
theorem acs_ok {rho : List Int} : ∀ {st : List Value} {sk : List AV}, gl rho st sk → cs st = acs sk
  | [], [], _ => rfl
  | v :: t, a :: u, h => by
    show v.category + cs t = acat a + acs u
    rw [gv_cat h.1, acs_ok h.2]
  | [], _ :: _, h => h.elim
  | _ :: _, [], h => h.elim
/-- a number that is known -/
def akn (S : Sto) (a : AV) : Option Nat := match ab S a with
  | some b => cond (Nat.beq a.1 0 && (decide (0 ≤ b.1) && (decide (b.1 = b.2) && decide (b.2 < 1000)))) (some b.1.toNat) none
  | none => none
theorem akn_ok {r0 rho : List Int} {S : Sto} {v : Value} {a : AV} {n : Nat} (hs : gs r0 rho S) (h : gv rho v a) (hk : akn S a = some n) : v = .int (nI n) ∧ n < 1000 := by
  unfold akn at hk
  cases hb : ab S a with
  | none => rw [hb] at hk; cases hk
  | some b =>
    rw [hb] at hk
    obtain ⟨h0, he⟩ := condN hk
    obtain ⟨h1, h2⟩ := andT h0
    obtain ⟨h2, h3⟩ := andT h2
    obtain ⟨h3, h4⟩ := andT h3
    have h2 := of_decide_eq_true h2
    have h3 := of_decide_eq_true h3
    have h4 := of_decide_eq_true h4
    obtain ⟨x, rfl⟩ := gv_int h h1
    have hx := ab_ok hs h hb
    have e : b.1.toNat = n := Option.some.inj he
    refine ⟨?_, by omega⟩
    rw [nI_at (i := x) (by omega) (by omega)]
    rw [show x.toInt.toNat = n by omega]
def cpC (C : List (Nat × Nat × AV)) (ns0 ns1 : List Nat) (x y z : Nat) : List (Nat × Nat × AV) := match ns0, ns1 with
  | [n0], [n1] => ((C.filter (fun e => Nat.beq e.1 n0 && (Nat.beq e.2.2.1 0 && (Nat.ble x e.2.1 && Nat.blt e.2.1 (x + z))))).map (fun e => (n1, y + (e.2.1 - x), e.2.2))) ++ cdr C ns1 y (y + z - 1)
  | _, _ => cdr C ns1 y (y + z - 1)
def cpB (P : Pk) (n0 n1 x y : Nat) : Nat → Bool
  | 0 => true
  | z + 1 => (decide ((rwB (P.2.2 n1) (y + z)).1 ≤ (rwB (P.2.2 n0) (x + z)).1) && decide ((rwB (P.2.2 n0) (x + z)).2 ≤ (rwB (P.2.2 n1) (y + z)).2)) && cpB P n0 n1 x y z
theorem cpB_ok {n0 n1 x y i : Nat} : ∀ {z : Nat}, cpB P n0 n1 x y z = true → i < z → (rwB (P.2.2 n1) (y + i)).1 ≤ (rwB (P.2.2 n0) (x + i)).1 ∧ (rwB (P.2.2 n0) (x + i)).2 ≤ (rwB (P.2.2 n1) (y + i)).2
  | 0, _, h => absurd h (Nat.not_lt_zero _)
  | z + 1, h, hi => by
    obtain ⟨h1, h2⟩ := andT h
    by_cases e : i = z
    · subst e
      obtain ⟨h3, h4⟩ := andT h1
      exact ⟨of_decide_eq_true h3, of_decide_eq_true h4⟩
    · exact cpB_ok h2 (by omega)
def aCp (P : Pk) (ms : Md3) (pc : Nat) (A : ASt) : Option (List (Nat × ASt)) := match A.2.1 with
  | n :: dp :: a1 :: sp :: a0 :: sk => match akn A.2.2.1 sp, akn A.2.2.1 dp, akn A.2.2.1 n with
    | some x, some y, some z => cond (Nat.beq a0.1 2 && (Nat.beq a1.1 2 && (Nat.ble (acs sk) 8 && ((Nat.blt 0 z && (Nat.ble (x + z) 1000 && Nat.ble (y + z) 1000)) && (a0.2.2.2.all (fun n0 => okn P 9 n0 && Nat.ble (x + z) (P.1 n0).2) && (a1.2.2.2.all (fun n1 => okn P 9 n1 && (Nat.ble (y + z) (P.1 n1).2 && inw ms n1 y (y + z - 1))) && a0.2.2.2.all (fun n0 => a1.2.2.2.all (fun n1 => !(Nat.beq n0 n1) && cpB P n0 n1 x y z)))))))) (some [(pc + 3, (A.1, sk, A.2.2.1, cpC A.2.2.2 a0.2.2.2 a1.2.2.2 x y z))]) none
    | _, _, _ => none
  | _ => none
theorem mI_wF {M : Mm} {a b j : Nat} {f : Nat → Int32} : mI (wF M a f) b j = if b = a then f j else mI M b j := rfl
theorem Jv.wF {M : Mm} {n0 n1 x y z : Nat} (h : Jv P ms M0 M) (h0 : n0 ≤ 167) (hz : 0 < z) (hb : cpB P n0 n1 x y z = true) (hm : inw ms n1 y (y + z - 1) = true) : Jv P ms M0 (wF M n1 (va_cpy (mI M n0) (mI M n1) x y z)) := by
  refine ⟨h.1, ⟨h.2.1.1, h.2.1.2.1, h.2.1.2.2.1, fun b j hbj => ?_⟩, fun b j hbj => ?_, ?_⟩
  · rw [mI_wF]
    by_cases e : b = n1
    · subst e
      rw [if_pos rfl]
      unfold va_cpy
      split
      · rename_i hj
        have h3 := cpB_ok hb (i := j - y) (by omega)
        rw [show y + (j - y) = j by omega] at h3
        have h4 := h.2.1.2.2.2 n0 (x + (j - y)) h0
        exact ⟨Int.le_trans h3.1 h4.1, Int.le_trans h4.2 h3.2⟩
      · exact h.2.1.2.2.2 b j hbj
    · rw [if_neg e]
      exact h.2.1.2.2.2 b j hbj
  · rw [mI_wF]
    by_cases e : b = n1
    · subst e
      rw [if_pos rfl]
      unfold va_cpy
      split
      · rename_i hj
        rw [inw_in hm (k := j) (by omega) (by omega)] at hbj
        cases hbj
      · exact h.2.2.1 b j hbj
    · rw [if_neg e]
      exact h.2.2.1 b j hbj
  · exact eO_cg (fun j => by rw [mI_wF, if_neg (inw_ne hm)]) h.2.2.2
theorem gC_cpC {rho : List Int} {M : Mm} {C : List (Nat × Nat × AV)} {ns0 ns1 : List Nat} {n0 n1 x y z : Nat} (hC : gC rho M C) (hz : 0 < z) (h0 : n0 ∈ ns0) (h1 : n1 ∈ ns1) : gC rho (wF M n1 (va_cpy (mI M n0) (mI M n1) x y z)) (cpC C ns0 ns1 x y z) := by
  have hd : gC rho (wF M n1 (va_cpy (mI M n0) (mI M n1) x y z)) (cdr C ns1 y (y + z - 1)) := by
    intro e he
    obtain ⟨g1, g2⟩ := List.mem_filter.mp he
    have h3 := hC e g1
    have e1 : cvl (wF M n1 (va_cpy (mI M n0) (mI M n1) x y z)) e.1 e.2.1 e.2.2.1 = cvl M e.1 e.2.1 e.2.2.1 := by
      unfold cvl
      rw [mI_wF]
      by_cases q : e.1 = n1
      · rw [if_pos q]
        unfold va_cpy
        split
        · rename_i hj
          rw [q, List.any_eq_true.mpr ⟨n1, h1, beq_self n1⟩, Nat.ble_eq_true_of_le hj.1, Nat.ble_eq_true_of_le (show e.2.1 ≤ y + z - 1 by omega)] at g2
          cases g2
        · rw [q]; rfl
      · rw [if_neg q]; rfl
    rw [e1]
    exact h3
  unfold cpC
  split
  · rename_i m0 m1
    have e0 : n0 = m0 := List.mem_singleton.mp h0
    have e1 : n1 = m1 := List.mem_singleton.mp h1
    subst e0
    subst e1
    intro e he
    rcases List.mem_append.mp he with he | he
    · obtain ⟨e', h2, rfl⟩ := List.mem_map.mp he
      obtain ⟨h2, h3⟩ := List.mem_filter.mp h2
      obtain ⟨h3, h4⟩ := andT h3
      obtain ⟨h4, h5⟩ := andT h4
      obtain ⟨h5, h6⟩ := andT h5
      have q3 := Nat.eq_of_beq_eq_true h3
      have q4 := Nat.eq_of_beq_eq_true h4
      have q5 := Nat.le_of_ble_eq_true h5
      have q6 : e'.2.1 < x + z := Nat.le_of_ble_eq_true h6
      have h7 := hC e' h2
      rw [q3, q4] at h7
      show gv rho (cvl _ n1 (y + (e'.2.1 - x)) e'.2.2.1) e'.2.2
      rw [q4]
      show gv rho (.int (mI (wF M n1 (va_cpy (mI M n0) (mI M n1) x y z)) n1 (y + (e'.2.1 - x)))) e'.2.2
      rw [mI_wF, if_pos rfl]
      unfold va_cpy
      rw [if_pos (by omega), show x + (y + (e'.2.1 - x) - y) = e'.2.1 by omega]
      exact h7
    · exact hd e he
  · exact hd
theorem aCp_in {ls : Ls} {st : List Value} {M : Mm} {kn : KN} (he : aCp P ms pc A = some L) (hJ : Jv P ms M0 M) (hg : gX av r0 M ls st A) (hn : Nx (Jv P ms M0) av r0 kn L) : ∃ (n0 n1 x y z : Nat) (t : List Value), st = .int (nI z) :: .int (nI y) :: .ref n1 :: .int (nI x) :: .ref n0 :: t ∧ (kk M n0 9 = true ∧ kk M n1 9 = true ∧ cs t ≤ 8 ∧ n0 ≠ n1 ∧ x + z ≤ 1000 ∧ y + z ≤ 1000) ∧ (x < 1000 ∧ y < 1000 ∧ z < 1000 ∧ x + z ≤ (mK M n0).2 ∧ y + z ≤ (mK M n1).2) ∧ kn (pc + 3) ls t (wF M n1 (va_cpy (mI M n0) (mI M n1) x y z)) := by
  obtain ⟨rho, hg⟩ := hg
  have hI := hJ.2.1
  unfold aCp at he
  split at he
  · rename_i n dp a1 sp a0 sk hs
    split at he
    · rename_i x y z hx hy hz
      obtain ⟨h0, he⟩ := condN he
      obtain ⟨c0, h0⟩ := andT h0
      obtain ⟨c1, h0⟩ := andT h0
      obtain ⟨c2, h0⟩ := andT h0
      obtain ⟨c3, h0⟩ := andT h0
      obtain ⟨c4, h0⟩ := andT h0
      obtain ⟨c5, c6⟩ := andT h0
      cases he
      have hl := hg.2.2.2.1
      rw [hs] at hl
      obtain ⟨vz, u, rfl, gz, hl2⟩ := gl_1 hl
      obtain ⟨vy, u, rfl, gy, hl3⟩ := gl_1 hl2
      obtain ⟨n1, u, rfl, m1, hl4⟩ := gl_r hl3 c1
      obtain ⟨vx, u, rfl, gx, hl5⟩ := gl_1 hl4
      obtain ⟨n0, u, rfl, m0, hl6⟩ := gl_r hl5 c0
      obtain ⟨rfl, x1⟩ := akn_ok hg.1 gx hx
      obtain ⟨rfl, y1⟩ := akn_ok hg.1 gy hy
      obtain ⟨rfl, z1⟩ := akn_ok hg.1 gz hz
      obtain ⟨d1, d2⟩ := andT (List.all_eq_true.mp c4 n0 m0)
      obtain ⟨d3, d4⟩ := andT (List.all_eq_true.mp c5 n1 m1)
      obtain ⟨d4, d5⟩ := andT d4
      obtain ⟨d6, d7⟩ := andT (List.all_eq_true.mp (List.all_eq_true.mp c6 n0 m0) n1 m1)
      obtain ⟨c3, c7⟩ := andT c3
      obtain ⟨c7, c8⟩ := andT c7
      have z0 : 0 < z := Nat.le_of_ble_eq_true c3
      have hne : n0 ≠ n1 := by
        intro e
        rw [e, beq_self] at d6
        cases d6
      refine ⟨n0, n1, x, y, z, u, rfl, ⟨kk_ok hI d1, kk_ok hI d3, by rw [acs_ok hl6]; exact Nat.le_of_ble_eq_true c2, hne, Nat.le_of_ble_eq_true c7, Nat.le_of_ble_eq_true c8⟩, ⟨x1, y1, z1, by rw [hI.2.1 n0 (okn_le d1)]; exact Nat.le_of_ble_eq_true d2, by rw [hI.2.1 n1 (okn_le d3)]; exact Nat.le_of_ble_eq_true d4⟩, ?_⟩
      exact hn.one (hJ.wF (okn_le d1) z0 d7 d5) ⟨rho, hg.1, hg.2.1, hg.2.2.1, hl6, gC_cpC hg.2.2.2.2 z0 m0 m1⟩
    · cases he
  · cases he
theorem aAc_ok (he : aCp P ms pc A = some L) : Sd (Jv P ms M0) av r0 kr (oAc pc) A L := by
  intro ls st M kn hJ hg hn
  obtain ⟨n0, n1, x, y, z, t, rfl, ⟨h1, h2, h3, h4⟩, h5, h6⟩ := aCp_in he hJ hg hn
  simp only [oAc, h1, h2, Nat.ble_eq_true_of_le h3, Bool.and_self, cond_true]
  exact ⟨x, y, z, ⟨rfl, rfl, rfl, h5⟩, h6⟩
end ARR9
