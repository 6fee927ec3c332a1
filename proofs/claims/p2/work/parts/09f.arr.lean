/-! the checker's arrays of ints and of bytes -/
def jdx (lo hi : Int) : List Nat := (List.range ((hi - lo).toNat + 1)).map (fun j => j + lo.toNat)
theorem jdx_ok {lo hi : Int} {j : Nat} (h0 : 0 ≤ lo) (h1 : lo ≤ j) (h2 : (j : Int) ≤ hi) : j ∈ jdx lo hi :=
  List.mem_map.mpr ⟨j - lo.toNat, List.mem_range.mpr (by omega), by omega⟩
theorem nI_at {i : Int32} (h0 : 0 ≤ i.toInt) (h1 : i.toInt < 1000) : i = nI i.toInt.toNat := by
  refine Int32.toInt_inj.mp ?_
  rw [nI_toInt (by omega)]
  omega
/-- an index within all of the arrays -/
def oki (P : Pk) (c : Nat) (ns : List Nat) (b : Int × Int) : Bool := decide (0 ≤ b.1) && (decide (b.2 < 1000) && ns.all (fun n => okn P c n && decide (b.2 < ((P.1 n).2 : Int))))
theorem oki_ok {P : Pk} {M : Mm} {c n : Nat} {ns : List Nat} {b : Int × Int} {i : Int32} (hI : Iv P M) (h : oki P c ns b = true) (hm : n ∈ ns) (hb : b.1 ≤ i.toInt ∧ i.toInt ≤ b.2) : okn P c n = true ∧ (i = nI i.toInt.toNat ∧ i.toInt.toNat < 1000 ∧ i.toInt.toNat < (mK M n).2) ∧ i.toInt.toNat ∈ jdx b.1 b.2 := by
  obtain ⟨h1, h2⟩ := Bool.and_eq_true_iff.mp h
  obtain ⟨h3, h4⟩ := Bool.and_eq_true_iff.mp h2
  obtain ⟨h5, h6⟩ := Bool.and_eq_true_iff.mp (List.all_eq_true.mp h4 n hm)
  have e1 := of_decide_eq_true h1
  have e3 := of_decide_eq_true h3
  have e6 := of_decide_eq_true h6
  refine ⟨h5, ⟨nI_at (by omega) (by omega), by omega, ?_⟩, jdx_ok e1 (by omega) (by omega)⟩
  rw [hI.2.1 n (okn_le h5)]
  omega
/-- an element: of ints (9) or bytes (8) -/
def aIal (P : Pk) (pc c : Nat) (A : ASt) : Option (List (Nat × ASt)) := match A.2.1 with
  | i :: a :: sk => cond (Nat.beq i.1 0 && Nat.beq a.1 2) (match ab A.2.2 i with
    | some b => cond (oki P c a.2.2.2 b) (some [(pc + 1, fsh A sk (jb (fun n => jb (P.2.2 n) (jdx b.1 b.2)) a.2.2.2).1 (jb (fun n => jb (P.2.2 n) (jdx b.1 b.2)) a.2.2.2).2)]) none
    | none => none) none
  | _ => none
theorem aIal_in {r0 : List Int} {P : Pk} {pc c : Nat} {A : ASt} {L : List (Nat × ASt)} {ls : Ls} {st : List Value} {M : Mm} {kn : KN} (he : aIal P pc c A = some L) (hI : Iv P M) (h : gX r0 ls st A) (hn : ∀ z ∈ L, ∀ ls' st', gX r0 ls' st' z.2 → kn z.1 ls' st' M) : ∃ (i : Int32) (n : Nat) (t : List Value), st = .int i :: .ref n :: t ∧ kk M n c = true ∧ ∃ j : Nat, (i = nI j ∧ j < 1000 ∧ j < (mK M n).2) ∧ kn (pc + 1) ls (.int (mI M n j) :: t) M := by
  obtain ⟨rho, hg⟩ := h
  unfold aIal at he
  split at he
  · rename_i i a sk hs
    obtain ⟨h0, he⟩ := condN he
    obtain ⟨h1, h2⟩ := Bool.and_eq_true_iff.mp h0
    have hl := hg.2.2.2
    rw [hs] at hl
    obtain ⟨x, u, rfl, hxa, hl2⟩ := gl_1 hl
    obtain ⟨y, u, rfl, hya, hl3⟩ := gl_1 hl2
    obtain ⟨x, rfl⟩ := gv_int hxa h1
    obtain ⟨n, rfl, hm⟩ := gv_ref hya h2
    cases hb : ab A.2.2 i with
    | none => rw [hb] at he; cases he
    | some b =>
      rw [hb] at he
      obtain ⟨h5, he⟩ := condN he
      cases he
      obtain ⟨k1, k2, k3⟩ := oki_ok hI h5 hm (ab_ok hg.1 hxa hb)
      refine ⟨x, n, u, rfl, kk_ok hI k1, _, k2, ?_⟩
      have b1 := jb_ok (f := fun n => jb (P.2.2 n) (jdx b.1 b.2)) hm
      have b2 := jb_ok (f := P.2.2 n) k3
      have hi := hI.2.2.2 n x.toInt.toNat (okn_le k1)
      exact hn _ (List.mem_singleton.mpr rfl) _ _ (gA_fresh hg hl3 (Int.le_trans b1.1 (Int.le_trans b2.1 hi.1)) (Int.le_trans hi.2 (Int.le_trans b2.2 b1.2)))
  · cases he
theorem aIal_ok {r0 : List Int} {P : Pk} {pc : Nat} {A : ASt} {L : List (Nat × ASt)} {ls : Ls} {st : List Value} {M : Mm} {kn : KN} {kr : KR} (he : aIal P pc 9 A = some L) (hI : Iv P M) (h : gX r0 ls st A) (hn : ∀ z ∈ L, ∀ ls' st', gX r0 ls' st' z.2 → kn z.1 ls' st' M) : oIal pc kn kr ls st M := by
  obtain ⟨i, n, t, rfl, hk, h⟩ := aIal_in he hI h hn
  simp only [oIal, hk, cond_true]
  exact h
theorem aBal_ok {r0 : List Int} {P : Pk} {pc : Nat} {A : ASt} {L : List (Nat × ASt)} {ls : Ls} {st : List Value} {M : Mm} {kn : KN} {kr : KR} (he : aIal P pc 8 A = some L) (hI : Iv P M) (h : gX r0 ls st A) (hn : ∀ z ∈ L, ∀ ls' st', gX r0 ls' st' z.2 → kn z.1 ls' st' M) : oBal pc kn kr ls st M := by
  obtain ⟨i, n, t, rfl, hk, h⟩ := aIal_in he hI h hn
  simp only [oBal, hk, cond_true]
  exact h
/-- an int into an array: within the bounds of every place it may come to -/
def aIas (P : Pk) (pc : Nat) (A : ASt) : Option (List (Nat × ASt)) := match A.2.1 with
  | v :: i :: a :: sk => cond (Nat.beq v.1 0 && (Nat.beq i.1 0 && Nat.beq a.1 2)) (match ab A.2.2 i, ab A.2.2 v with
    | some b, some w => cond (oki P 9 a.2.2.2 b && a.2.2.2.all (fun n => (jdx b.1 b.2).all (fun j => decide ((P.2.2 n j).1 ≤ w.1 ∧ w.2 ≤ (P.2.2 n j).2)))) (some [(pc + 1, (A.1, sk, A.2.2))]) none
    | _, _ => none) none
  | _ => none
theorem aIas_ok {r0 : List Int} {P : Pk} {pc : Nat} {A : ASt} {L : List (Nat × ASt)} {ls : Ls} {st : List Value} {M : Mm} {kn : KN} {kr : KR} (he : aIas P pc A = some L) (hI : Iv P M) (h : gX r0 ls st A) (hn : ∀ z ∈ L, ∀ ls' st' M', Iv P M' → gX r0 ls' st' z.2 → kn z.1 ls' st' M') : oIas pc kn kr ls st M := by
  obtain ⟨rho, hg⟩ := h
  unfold aIas at he
  split at he
  · rename_i v i a sk hs
    obtain ⟨h0, he⟩ := condN he
    obtain ⟨h1, h2⟩ := Bool.and_eq_true_iff.mp h0
    obtain ⟨h3, h4⟩ := Bool.and_eq_true_iff.mp h2
    have hl := hg.2.2.2
    rw [hs] at hl
    obtain ⟨z, u, rfl, hza, hl2⟩ := gl_1 hl
    obtain ⟨x, u, rfl, hxa, hl3⟩ := gl_1 hl2
    obtain ⟨y, u, rfl, hya, hl4⟩ := gl_1 hl3
    obtain ⟨z, rfl⟩ := gv_int hza h1
    obtain ⟨x, rfl⟩ := gv_int hxa h3
    obtain ⟨n, rfl, hm⟩ := gv_ref hya h4
    cases hb : ab A.2.2 i with
    | none => rw [hb] at he; cases he
    | some b =>
      cases hw : ab A.2.2 v with
      | none => rw [hb, hw] at he; cases he
      | some w =>
        rw [hb, hw] at he
        obtain ⟨h5, he⟩ := condN he
        cases he
        obtain ⟨h6, h7⟩ := Bool.and_eq_true_iff.mp h5
        obtain ⟨k1, k2, k3⟩ := oki_ok hI h6 hm (ab_ok hg.1 hxa hb)
        have hd := of_decide_eq_true (List.all_eq_true.mp (List.all_eq_true.mp h7 n hm) _ k3)
        have hz := ab_ok hg.1 hza hw
        simp only [oIas, kk_ok hI k1, cond_true]
        exact ⟨_, k2, hn _ (List.mem_singleton.mpr rfl) _ _ _ (Iv_wI hI (fun _ => ⟨Int.le_trans hd.1 hz.1, Int.le_trans hz.2 hd.2⟩)) ⟨rho, hg.1, hg.2.1, hg.2.2.1, hl4⟩⟩
  · cases he
