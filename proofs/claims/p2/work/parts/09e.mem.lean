/-! the checker's memory: kinds and references of names 1 .. 167 are known, ints lie within a table's bounds -/
abbrev Pk : Type := (Nat → Nat × Nat) × (Nat → Nat → Nat) × (Nat → Nat → Int × Int)
def Iv (P : Pk) (M : Mm) : Prop := 167 ≤ mN M ∧ (∀ a, a ≤ 167 → mK M a = P.1 a) ∧ (∀ a k, a ≤ 167 → mR M a k = P.2.1 a k) ∧ ∀ a k, a ≤ 167 → (P.2.2 a k).1 ≤ (mI M a k).toInt ∧ (mI M a k).toInt ≤ (P.2.2 a k).2
theorem Iv_wI {P : Pk} {M : Mm} {a k : Nat} {v : Int32} (h : Iv P M) (hv : a ≤ 167 → (P.2.2 a k).1 ≤ v.toInt ∧ v.toInt ≤ (P.2.2 a k).2) : Iv P (wI M a k v) := by
  refine ⟨h.1, h.2.1, h.2.2.1, fun b j hb => ?_⟩
  show (P.2.2 b j).1 ≤ (if b = a ∧ j = k then v else M.2.1 b j).toInt ∧ (if b = a ∧ j = k then v else M.2.1 b j).toInt ≤ (P.2.2 b j).2
  by_cases he : b = a ∧ j = k
  · rw [if_pos he, he.1, he.2]
    exact hv (by rw [← he.1]; exact hb)
  · rw [if_neg he]
    exact h.2.2.2 b j hb
theorem Iv_wL {P : Pk} {M : Mm} {a k : Nat} {v : Int64} (h : Iv P M) : Iv P (wL M a k v) := h
def okn (P : Pk) (c n : Nat) : Bool := Nat.blt 0 n && (Nat.ble n 167 && Nat.beq (P.1 n).1 c)
theorem okn_le {P : Pk} {c n : Nat} (h : okn P c n = true) : n ≤ 167 := Nat.le_of_ble_eq_true (Bool.and_eq_true_iff.mp (Bool.and_eq_true_iff.mp h).2).1
theorem kk_ok {P : Pk} {M : Mm} {c n : Nat} (hI : Iv P M) (h : okn P c n = true) : kk M n c = true := by
  have hl := okn_le h
  obtain ⟨h1, h2⟩ := Bool.and_eq_true_iff.mp h
  obtain ⟨-, h3⟩ := Bool.and_eq_true_iff.mp h2
  unfold kk
  rw [h1, hI.2.1 n hl, h3, show Nat.ble n (mN M) = true from Nat.ble_eq_true_of_le (Nat.le_trans hl hI.1)]
  rfl
/-- bounds that hold for all of a list -/
def jb (f : Nat → Int × Int) : List Nat → Int × Int
  | [] => (iHi, iLo)
  | n :: t => (min (f n).1 (jb f t).1, max (f n).2 (jb f t).2)
theorem jb_ok {f : Nat → Int × Int} {n : Nat} : ∀ {ns : List Nat}, n ∈ ns → (jb f ns).1 ≤ (f n).1 ∧ (f n).2 ≤ (jb f ns).2
  | [], h => absurd h List.not_mem_nil
  | m :: t, h => by
    show min (f m).1 (jb f t).1 ≤ (f n).1 ∧ (f n).2 ≤ max (f m).2 (jb f t).2
    rcases List.mem_cons.mp h with e | h
    · subst e; omega
    · have := jb_ok (f := f) h; omega
theorem gv_ref {rho : List Int} {v : Value} {a : AV} (h : gv rho v a) (h0 : Nat.beq a.1 2 = true) : ∃ n, v = .ref n ∧ n ∈ a.2.2.2 := by
  have e : a.1 = 2 := Nat.eq_of_beq_eq_true h0
  cases v with
  | int x => have h1 := h.1; omega
  | long x => have h1 : a.1 = 1 := h; omega
  | ref n => exact ⟨n, rfl, h.2⟩
  | _ => exact h.elim
/-- getfield -/
def aG (P : Pk) (pc c k t : Nat) (A : ASt) : Option (List (Nat × ASt)) := match A.2.1 with
  | a :: sk => cond (Nat.beq a.1 2 && a.2.2.2.all (okn P c)) (match t with
    | 0 => some [(pc + 3, fsh A sk (jb (fun n => P.2.2 n k) a.2.2.2).1 (jb (fun n => P.2.2 n k) a.2.2.2).2)]
    | 1 => some [(pc + 3, (A.1, (1, 0, 0, []) :: sk, A.2.2))]
    | _ => some [(pc + 3, (A.1, (2, 0, 0, a.2.2.2.map (fun n => P.2.1 n k)) :: sk, A.2.2))]) none
  | [] => none
theorem aG_ok {r0 : List Int} {P : Pk} {pc c k t : Nat} {A : ASt} {L : List (Nat × ASt)} {ls : Ls} {st : List Value} {M : Mm} {kn : KN} {kr : KR} (he : aG P pc c k t A = some L) (hI : Iv P M) (h : gX r0 ls st A) (hn : ∀ z ∈ L, ∀ ls' st', gX r0 ls' st' z.2 → kn z.1 ls' st' M) : oG pc c k t kn kr ls st M := by
  obtain ⟨rho, hg⟩ := h
  unfold aG at he
  split at he
  · rename_i a sk hs
    obtain ⟨h0, he⟩ := condN he
    obtain ⟨h1, h2⟩ := Bool.and_eq_true_iff.mp h0
    have hl := hg.2.2.2
    rw [hs] at hl
    obtain ⟨v, u, rfl, hva, hl2⟩ := gl_1 hl
    obtain ⟨n, rfl, hm⟩ := gv_ref hva h1
    have ho := List.all_eq_true.mp h2 n hm
    simp only [oG, kk_ok hI ho, cond_true]
    match t with
    | 0 =>
      cases he
      have hb := jb_ok (f := fun n => P.2.2 n k) hm
      have hi := hI.2.2.2 n k (okn_le ho)
      exact hn _ (List.mem_singleton.mpr rfl) _ _ (gA_fresh hg hl2 (Int.le_trans hb.1 hi.1) (Int.le_trans hi.2 hb.2))
    | 1 =>
      cases he
      exact hn _ (List.mem_singleton.mpr rfl) _ _ ⟨rho, hg.1, hg.2.1, hg.2.2.1, rfl, hl2⟩
    | t + 2 =>
      cases he
      exact hn _ (List.mem_singleton.mpr rfl) _ _ ⟨rho, hg.1, hg.2.1, hg.2.2.1, ⟨rfl, List.mem_map.mpr ⟨n, hm, (hI.2.2.1 n k (okn_le ho)).symm⟩⟩, hl2⟩
  · cases he
/-- putfield of an int -/
def aPI (P : Pk) (pc c k : Nat) (A : ASt) : Option (List (Nat × ASt)) := match A.2.1 with
  | v :: a :: sk => cond (Nat.beq v.1 0 && (Nat.beq a.1 2 && a.2.2.2.all (okn P c))) (match ab A.2.2 v with
    | some b => cond (a.2.2.2.all (fun n => decide ((P.2.2 n k).1 ≤ b.1 ∧ b.2 ≤ (P.2.2 n k).2))) (some [(pc + 3, (A.1, sk, A.2.2))]) none
    | none => none) none
  | _ => none
theorem aPI_ok {r0 : List Int} {P : Pk} {pc c k : Nat} {A : ASt} {L : List (Nat × ASt)} {ls : Ls} {st : List Value} {M : Mm} {kn : KN} {kr : KR} (he : aPI P pc c k A = some L) (hI : Iv P M) (h : gX r0 ls st A) (hn : ∀ z ∈ L, ∀ ls' st' M', Iv P M' → gX r0 ls' st' z.2 → kn z.1 ls' st' M') : oPI pc c k kn kr ls st M := by
  obtain ⟨rho, hg⟩ := h
  unfold aPI at he
  split at he
  · rename_i v a sk hs
    obtain ⟨h0, he⟩ := condN he
    obtain ⟨h1, h2⟩ := Bool.and_eq_true_iff.mp h0
    obtain ⟨h3, h4⟩ := Bool.and_eq_true_iff.mp h2
    have hl := hg.2.2.2
    rw [hs] at hl
    obtain ⟨x, u, rfl, hxa, hl2⟩ := gl_1 hl
    obtain ⟨y, u, rfl, hya, hl3⟩ := gl_1 hl2
    obtain ⟨x, rfl⟩ := gv_int hxa h1
    obtain ⟨n, rfl, hm⟩ := gv_ref hya h3
    have ho := List.all_eq_true.mp h4 n hm
    cases hb : ab A.2.2 v with
    | none => rw [hb] at he; cases he
    | some b =>
      rw [hb] at he
      obtain ⟨h5, he⟩ := condN he
      cases he
      have hd := of_decide_eq_true (List.all_eq_true.mp h5 n hm)
      have hx := ab_ok hg.1 hxa hb
      simp only [oPI, kk_ok hI ho, cond_true]
      exact hn _ (List.mem_singleton.mpr rfl) _ _ _ (Iv_wI hI (fun _ => ⟨Int.le_trans hd.1 hx.1, Int.le_trans hx.2 hd.2⟩)) ⟨rho, hg.1, hg.2.1, hg.2.2.1, hl3⟩
  · cases he
