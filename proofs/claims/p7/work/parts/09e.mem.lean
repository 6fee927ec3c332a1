/-! the checker's memory: kinds and references of names 1 .. 167 are known, ints lie within a table's bounds -/
/-- places p .. q of a name: bounds -/
abbrev Row : Type := Nat × Nat × Int × Int
def rIn (r : Row) (k : Nat) : Bool := Nat.ble r.1 k && Nat.ble k r.2.1
def rCv (r : Row) (lo hi : Nat) : Bool := Nat.ble r.1 lo && Nat.ble hi r.2.1
def rDj (r : Row) (lo hi : Nat) : Bool := Nat.blt r.2.1 lo || Nat.blt hi r.1
theorem rCv_in {r : Row} {lo hi k : Nat} (h : rCv r lo hi = true) (h1 : lo ≤ k) (h2 : k ≤ hi) : rIn r k = true := by
  obtain ⟨a, b⟩ := andT h
  exact Bool.and_eq_true_iff.mpr ⟨Nat.ble_eq_true_of_le (Nat.le_trans (Nat.le_of_ble_eq_true a) h1), Nat.ble_eq_true_of_le (Nat.le_trans h2 (Nat.le_of_ble_eq_true b))⟩
theorem rDj_in {r : Row} {lo hi k : Nat} (h : rDj r lo hi = true) (h1 : lo ≤ k) (h2 : k ≤ hi) : rIn r k = false := by
  cases hr : rIn r k with
  | false => rfl
  | true =>
    obtain ⟨a, b⟩ := andT hr
    have a := Nat.le_of_ble_eq_true a
    have b := Nat.le_of_ble_eq_true b
    rcases Bool.or_eq_true_iff.mp h with z | z
    · have z : r.2.1 < lo := Nat.le_of_ble_eq_true z
      omega
    · have z : hi < r.1 := Nat.le_of_ble_eq_true z
      omega
def rwB : List Row → Nat → Int × Int
  | [], _ => (iLo, iHi)
  | r :: t, k => cond (rIn r k) (r.2.2.1, r.2.2.2) (rwB t k)
/-- bounds of all places lo .. hi -/
def rwR : List Row → Nat → Nat → Int × Int
  | [], _, _ => (iLo, iHi)
  | r :: t, lo, hi => cond (rCv r lo hi) (r.2.2.1, r.2.2.2) (cond (rDj r lo hi) (rwR t lo hi) (min r.2.2.1 (rwR t lo hi).1, max r.2.2.2 (rwR t lo hi).2))
theorem rwR_ok {k : Nat} : ∀ {rs : List Row} {lo hi : Nat}, lo ≤ k → k ≤ hi → (rwR rs lo hi).1 ≤ (rwB rs k).1 ∧ (rwB rs k).2 ≤ (rwR rs lo hi).2
  | [], _, _, _, _ => ⟨Int.le_refl _, Int.le_refl _⟩
  | r :: t, lo, hi, h1, h2 => by
    have ih := rwR_ok (rs := t) h1 h2
    unfold rwR rwB
    cases hc : rCv r lo hi with
    | true =>
      rw [rCv_in hc h1 h2]
      exact ⟨Int.le_refl _, Int.le_refl _⟩
    | false =>
      cases hd : rDj r lo hi with
      | true =>
        rw [rDj_in hd h1 h2]
        exact ih
      | false =>
        cases rIn r k with
        | true =>
          show min r.2.2.1 (rwR t lo hi).1 ≤ r.2.2.1 ∧ r.2.2.2 ≤ max r.2.2.2 (rwR t lo hi).2
          omega
        | false =>
          show min r.2.2.1 (rwR t lo hi).1 ≤ (rwB t k).1 ∧ (rwB t k).2 ≤ max r.2.2.2 (rwR t lo hi).2
          omega
/-- a number of these bounds may come to any of the places lo .. hi -/
def rwW : List Row → Nat → Nat → Int × Int → Bool
  | [], _, _, _ => true
  | r :: t, lo, hi, w => (rDj r lo hi || (decide (r.2.2.1 ≤ w.1) && decide (w.2 ≤ r.2.2.2))) && (rCv r lo hi || rwW t lo hi w)
theorem rwW_ok {k : Nat} {x : Int} {w : Int × Int} (hx : iLo ≤ x ∧ x ≤ iHi) (hw : w.1 ≤ x ∧ x ≤ w.2) : ∀ {rs : List Row} {lo hi : Nat}, rwW rs lo hi w = true → lo ≤ k → k ≤ hi → (rwB rs k).1 ≤ x ∧ x ≤ (rwB rs k).2
  | [], _, _, _, _, _ => hx
  | r :: t, lo, hi, h, h1, h2 => by
    obtain ⟨ha, hb⟩ := andT h
    unfold rwB
    cases hi' : rIn r k with
    | true =>
      rcases Bool.or_eq_true_iff.mp ha with z | z
      · rw [rDj_in z h1 h2] at hi'; cases hi'
      · obtain ⟨z1, z2⟩ := andT z
        have z1 := of_decide_eq_true z1
        have z2 := of_decide_eq_true z2
        show r.2.2.1 ≤ x ∧ x ≤ r.2.2.2
        omega
    | false =>
      rcases Bool.or_eq_true_iff.mp hb with z | z
      · rw [rCv_in z h1 h2] at hi'; cases hi'
      · exact rwW_ok hx hw z h1 h2
/-- kinds, references, rows of names -/
abbrev Pk : Type := (Nat → Nat × Nat) × (Nat → Nat → List Nat) × (Nat → List Row)
def Iv (P : Pk) (M : Mm) : Prop := 167 ≤ mN M ∧ (∀ a, a ≤ 167 → mK M a = P.1 a) ∧ (∀ a k, a ≤ 167 → mR M a k ∈ P.2.1 a k) ∧ ∀ a k, a ≤ 167 → (rwB (P.2.2 a) k).1 ≤ (mI M a k).toInt ∧ (mI M a k).toInt ≤ (rwB (P.2.2 a) k).2
/-- places that may be changed: name, first, last -/
abbrev Md3 : Type := List (Nat × Nat × Nat)
def inm (ms : Md3) (a k : Nat) : Bool := ms.any (fun m => Nat.beq m.1 a && (Nat.ble m.2.1 k && Nat.ble k m.2.2))
def ina (ms : Md3) (a lo hi : Nat) : Bool := ms.any (fun m => Nat.beq m.1 a && (Nat.ble m.2.1 lo && Nat.ble hi m.2.2))
theorem ina_in {ms : Md3} {a lo hi k : Nat} (h : ina ms a lo hi = true) (h1 : lo ≤ k) (h2 : k ≤ hi) : inm ms a k = true := by
  obtain ⟨m, hm, h3⟩ := List.any_eq_true.mp h
  obtain ⟨h4, h5⟩ := andT h3
  obtain ⟨h5, h6⟩ := andT h5
  exact List.any_eq_true.mpr ⟨m, hm, Bool.and_eq_true_iff.mpr ⟨h4, Bool.and_eq_true_iff.mpr ⟨Nat.ble_eq_true_of_le (Nat.le_trans (Nat.le_of_ble_eq_true h5) h1), Nat.ble_eq_true_of_le (Nat.le_trans h2 (Nat.le_of_ble_eq_true h6))⟩⟩⟩
def kp (ms : Md3) (M0 M : Mm) : Prop := ∀ a k, inm ms a k = false → mI M a k = mI M0 a k ∧ mR M a k = mR M0 a k ∧ mL M a k = mL M0 a k
/-- each canon that counts is vexed every so many days -/
def eQ (M : Mm) : Prop := ∀ c : Nat, c < 5 → (c : Int) < (mI M 153 5).toInt → 1 ≤ (mI M 153 (36 + 2 * c)).toInt
def eO (e : Int) (M : Mm) : Prop := e = 1 → eQ M
theorem eO_cg {e : Int} {M M' : Mm} (h : ∀ k, mI M' 153 k = mI M 153 k) (he : eO e M) : eO e M' := by
  intro z c hc h5
  rw [h] at h5 ⊢
  exact he z c hc h5
/-- what holds of the memory while a method runs -/
def Jv (P : Pk) (ms : Md3) (M0 : Mm × Int) (M : Mm) : Prop := M.1 = M0.1.1 ∧ Iv P M ∧ kp ms M0.1 M ∧ eO M0.2 M
theorem Jv.rf {P : Pk} {ms : Md3} {M : Mm} {e : Int} (h : Iv P M) (he : eO e M) : Jv P ms (M, e) M := ⟨rfl, h, fun _ _ _ => ⟨rfl, rfl, rfl⟩, he⟩
/-- places that a method itself may change: all but the reference's r -/
def inw (ms : Md3) (a lo hi : Nat) : Bool := ina ms a lo hi && !(Nat.beq a 153)
theorem inw_in {ms : Md3} {a lo hi k : Nat} (h : inw ms a lo hi = true) (h1 : lo ≤ k) (h2 : k ≤ hi) : inm ms a k = true := ina_in (andT h).1 h1 h2
theorem inw_ne {ms : Md3} {a lo hi : Nat} (h : inw ms a lo hi = true) : ¬ 153 = a := by
  intro e
  subst e
  have h3 := (andT h).2
  cases h3
theorem mI_w {M : Mm} {a i b j : Nat} {v : Int32} : mI (wI M a i v) b j = if b = a ∧ j = i then v else mI M b j := rfl
theorem mL_w {M : Mm} {a i b j : Nat} {v : Int64} : mL (wL M a i v) b j = if b = a ∧ j = i then v else mL M b j := rfl
theorem mR_w {M : Mm} {a i b j : Nat} {v : Nat} : mR (wR M a i v) b j = if b = a ∧ j = i then v else mR M b j := rfl
theorem Jv.wI {P : Pk} {ms : Md3} {M0 : Mm × Int} {M : Mm} {a k : Nat} {v : Int32} (h : Jv P ms M0 M) (hv : (rwB (P.2.2 a) k).1 ≤ v.toInt ∧ v.toInt ≤ (rwB (P.2.2 a) k).2) (hm : inm ms a k = true) (hn : ¬ 153 = a) : Jv P ms M0 (wI M a k v) := by
  refine ⟨h.1, ⟨h.2.1.1, h.2.1.2.1, h.2.1.2.2.1, fun b j hb => ?_⟩, fun b j hb => ?_, eO_cg (fun j => by rw [mI_w, if_neg (fun z => hn z.1)]) h.2.2.2⟩
  · rw [mI_w]
    by_cases he : b = a ∧ j = k
    · rw [if_pos he, he.1, he.2]
      exact hv
    · rw [if_neg he]
      exact h.2.1.2.2.2 b j hb
  · rw [mI_w]
    have he : ¬ (b = a ∧ j = k) := by
      intro e
      rw [e.1, e.2, hm] at hb
      cases hb
    rw [if_neg he]
    exact h.2.2.1 b j hb
theorem Jv.wL {P : Pk} {ms : Md3} {M0 : Mm × Int} {M : Mm} {a k : Nat} {v : Int64} (h : Jv P ms M0 M) (hm : inm ms a k = true) : Jv P ms M0 (wL M a k v) := by
  refine ⟨h.1, h.2.1, fun b j hb => ?_, h.2.2.2⟩
  have he : ¬ (b = a ∧ j = k) := by
    intro e
    rw [e.1, e.2, hm] at hb
    cases hb
  rw [mL_w, if_neg he]
  exact h.2.2.1 b j hb
theorem Jv.wR {P : Pk} {ms : Md3} {M0 : Mm × Int} {M : Mm} {a k v : Nat} (h : Jv P ms M0 M) (hv : v ∈ P.2.1 a k) (hm : inm ms a k = true) : Jv P ms M0 (wR M a k v) := by
  refine ⟨h.1, ⟨h.2.1.1, h.2.1.2.1, fun b j hb => ?_, h.2.1.2.2.2⟩, fun b j hb => ?_, h.2.2.2⟩
  · rw [mR_w]
    by_cases he : b = a ∧ j = k
    · rw [if_pos he, he.1, he.2]
      exact hv
    · rw [if_neg he]
      exact h.2.1.2.2.1 b j hb
  · rw [mR_w]
    have he : ¬ (b = a ∧ j = k) := by
      intro e
      rw [e.1, e.2, hm] at hb
      cases hb
    rw [if_neg he]
    exact h.2.2.1 b j hb
def okn (P : Pk) (c n : Nat) : Bool := Nat.blt 0 n && (Nat.ble n 167 && Nat.beq (P.1 n).1 c)
theorem okn_le {P : Pk} {c n : Nat} (h : okn P c n = true) : n ≤ 167 := Nat.le_of_ble_eq_true (andT (andT h).2).1
theorem kk_ok {P : Pk} {M : Mm} {c n : Nat} (hI : Iv P M) (h : okn P c n = true) : kk M n c = true := by
  have hl := okn_le h
  obtain ⟨h1, h2⟩ := andT h
  obtain ⟨-, h3⟩ := andT h2
  unfold kk
  rw [h1, hI.2.1 n hl, h3, show Nat.ble n (mN M) = true from Nat.ble_eq_true_of_le (Nat.le_trans hl hI.1)]
  rfl
/-- bounds that hold for all of a list -/
def jb (f : Nat → Int × Int) : List Nat → Int × Int
  | [] => (iHi, iLo)
  | n :: t => match t with
    | [] => f n
    | _ => (min (f n).1 (jb f t).1, max (f n).2 (jb f t).2)
theorem jb_ok {f : Nat → Int × Int} {n : Nat} : ∀ {ns : List Nat}, n ∈ ns → (jb f ns).1 ≤ (f n).1 ∧ (f n).2 ≤ (jb f ns).2
  | [], h => absurd h List.not_mem_nil
  | m :: [], h => by
    rw [List.mem_singleton.mp h]
    exact ⟨Int.le_refl _, Int.le_refl _⟩
  | m :: k :: t, h => by
    show min (f m).1 (jb f (k :: t)).1 ≤ (f n).1 ∧ (f n).2 ≤ max (f m).2 (jb f (k :: t)).2
    rcases List.mem_cons.mp h with e | h
    · subst e; omega
    · have := jb_ok (f := f) h; omega
/-- what is known of a place -/
def cgt : List (Nat × Nat × AV) → Nat → Nat → Nat → Option AV
  | [], _, _, _ => none
  | e :: t, n, k, ty => cond (Nat.beq e.1 n && (Nat.beq e.2.1 k && Nat.beq e.2.2.1 ty)) (some e.2.2) (cgt t n k ty)
theorem cgt_ok {rho : List Int} {M : Mm} {n k ty : Nat} {a : AV} : ∀ {C : List (Nat × Nat × AV)}, gC rho M C → cgt C n k ty = some a → gv rho (cvl M n k ty) a ∧ a.1 = ty
  | [], _, h => by cases h
  | e :: t, hC, h => by
    unfold cgt at h
    cases hb : (Nat.beq e.1 n && (Nat.beq e.2.1 k && Nat.beq e.2.2.1 ty)) with
    | true =>
      rw [hb] at h
      obtain ⟨h1, h2⟩ := andT hb
      obtain ⟨h2, h3⟩ := andT h2
      have e1 := Nat.eq_of_beq_eq_true h1
      have e2 := Nat.eq_of_beq_eq_true h2
      have e3 := Nat.eq_of_beq_eq_true h3
      have e4 : e.2.2 = a := Option.some.inj h
      have := hC e List.mem_cons_self
      rw [e1, e2, e3, e4] at this
      exact ⟨this, by rw [← e4]; exact e3⟩
    | false =>
      rw [hb] at h
      exact cgt_ok (fun x hx => hC x (List.mem_cons_of_mem _ hx)) h
/-- a fresh symbol for a place that is read; remembered if the place is one alone -/
def frd (A : ASt) (ns : List Nat) (k : Nat) (one : Bool) (sk : List AV) (b : Int × Int) : ASt := (A.1, (0, A.2.2.1.length, 0, []) :: sk, A.2.2.1 ++ [b], match ns with
  | [n] => cond one ((n, k, (0, A.2.2.1.length, 0, [])) :: A.2.2.2) A.2.2.2
  | _ => A.2.2.2)
theorem frd_ok {av : List Value} {r0 rho : List Int} {M : Mm} {ls : Ls} {st st' : List Value} {A : ASt} {sk : List AV} {ns : List Nat} {n k j : Nat} {one : Bool} {b : Int × Int} (h : gA av r0 rho M ls st A) (hk : gl rho st' sk) (hm : n ∈ ns) (hone : one = true → j = k) (h1 : b.1 ≤ (mI M n j).toInt) (h2 : (mI M n j).toInt ≤ b.2) : gX av r0 M ls (.int (mI M n j) :: st') (frd A ns k one sk b) := by
  have hv : gv (rho ++ [(mI M n j).toInt]) (.int (mI M n j)) (0, A.2.2.1.length, 0, []) := ⟨rfl, _, at_end h.1, by show _ = (mI M n j).toInt + 0; omega⟩
  have hC := gC_app (e := (mI M n j).toInt) h.2.2.2.2
  refine ⟨rho ++ [(mI M n j).toInt], gs_app h.1 h1 h2, r0_app h.2.1, gm_app h.2.2.1, ⟨hv, gl_app hk⟩, ?_⟩
  unfold frd
  dsimp only
  split
  · rename_i m
    have e : n = m := List.mem_singleton.mp hm
    subst e
    cases one with
    | false => exact hC
    | true =>
      have e2 := hone rfl
      subst e2
      intro x hx
      rcases List.mem_cons.mp hx with e | hx
      · subst e; exact hv
      · exact hC x hx
  · exact hC
/-- getfield -/
def aG (P : Pk) (pc c k t : Nat) (A : ASt) : Option (List (Nat × ASt)) := match A.2.1 with
  | a :: sk => cond (Nat.beq a.1 2 && a.2.2.2.all (okn P c)) (match t with
    | 0 => match a.2.2.2 with
      | [n] => match cgt A.2.2.2 n k 0 with
        | some v => some [(pc + 3, (A.1, v :: sk, A.2.2))]
        | none => some [(pc + 3, frd A [n] k true sk (rwB (P.2.2 n) k))]
      | ns => some [(pc + 3, frd A ns k true sk (jb (fun n => rwB (P.2.2 n) k) ns))]
    | 1 => match a.2.2.2 with
      | [n] => match cgt A.2.2.2 n k 1 with
        | some v => some [(pc + 3, (A.1, v :: sk, A.2.2))]
        | none => some [(pc + 3, fsh A 1 sk lLo lHi)]
      | _ => some [(pc + 3, fsh A 1 sk lLo lHi)]
    | _ => match a.2.2.2 with
      | [n] => match cgt A.2.2.2 n k 2 with
        | some v => some [(pc + 3, (A.1, v :: sk, A.2.2))]
        | none => some ((P.2.1 n k).map (fun x => (pc + 3, (A.1, (2, 0, 0, [x]) :: sk, A.2.2.1, (n, k, (2, 0, 0, [x])) :: A.2.2.2))))
      | ns => some [(pc + 3, (A.1, (2, 0, 0, ns.flatMap (fun n => P.2.1 n k)) :: sk, A.2.2))]) none
  | [] => none
section MEM9
variable {P : Pk} {ms : Md3} {M0 : Mm × Int} {av : List Value} {r0 : List Int} {kr : KR} {A : ASt} {L : List (Nat × ASt)} {pc : Nat}
theorem aG_ok {c k t : Nat} (he : aG P pc c k t A = some L) : Sd (Jv P ms M0) av r0 kr (oG pc c k t) A L := by
  intro ls st M kn hJ hg hn
  obtain ⟨rho, hg⟩ := hg
  have hI := hJ.2.1
  unfold aG at he
  split at he
  · rename_i a sk hs
    obtain ⟨h0, he⟩ := condN he
    obtain ⟨h1, h2⟩ := andT h0
    have hl := hg.2.2.2.1
    rw [hs] at hl
    obtain ⟨n, u, rfl, hm, hl2⟩ := gl_r hl h1
    have ho := List.all_eq_true.mp h2 n hm
    simp only [oG, kk_ok hI ho, cond_true]
    have hi := hI.2.2.2 n k (okn_le ho)
    split at he
    · split at he
      · rename_i m hns
        rw [hns] at hm
        have e : n = m := List.mem_singleton.mp hm
        subst e
        split at he
        · rename_i v hv
          cases he
          exact hn.one hJ ⟨rho, gA_stk hg ⟨(cgt_ok hg.2.2.2.2 hv).1, hl2⟩⟩
        · cases he
          exact hn.one hJ (frd_ok hg hl2 (List.mem_singleton.mpr rfl) (fun _ => rfl) hi.1 hi.2)
      · cases he
        have hb := jb_ok (f := fun n => rwB (P.2.2 n) k) hm
        exact hn.one hJ (frd_ok hg hl2 hm (fun _ => rfl) (Int.le_trans hb.1 hi.1) (Int.le_trans hi.2 hb.2))
    · split at he
      · rename_i m hns
        rw [hns] at hm
        have e : n = m := List.mem_singleton.mp hm
        subst e
        split at he
        · rename_i v hv
          cases he
          exact hn.one hJ ⟨rho, gA_stk hg ⟨(cgt_ok hg.2.2.2.2 hv).1, hl2⟩⟩
        · cases he
          exact hn.one hJ (gA_freshL hg hl2 (i64_lo _) (i64_hi _))
      · cases he
        exact hn.one hJ (gA_freshL hg hl2 (i64_lo _) (i64_hi _))
    · rename_i t0 t1
      have hR := hI.2.2.1 n k (okn_le ho)
      have hsv : sv M n k t = .ref (mR M n k) := by
        match t with
        | 0 => exact absurd rfl t0
        | 1 => exact absurd rfl t1
        | t + 2 => rfl
      rw [hsv]
      split at he
      · rename_i m hns
        rw [hns] at hm
        have e : n = m := List.mem_singleton.mp hm
        subst e
        split at he
        · rename_i v hv
          cases he
          exact hn.one hJ ⟨rho, gA_stk hg ⟨(cgt_ok hg.2.2.2.2 hv).1, hl2⟩⟩
        · cases he
          refine hn _ (List.mem_map.mpr ⟨_, hR, rfl⟩) ls _ M hJ ⟨rho, hg.1, hg.2.1, hg.2.2.1, ⟨⟨rfl, List.mem_singleton.mpr rfl⟩, hl2⟩, fun e he => ?_⟩
          rcases List.mem_cons.mp he with z | z
          · subst z
            exact ⟨rfl, List.mem_singleton.mpr rfl⟩
          · exact hg.2.2.2.2 e z
      · cases he
        exact hn.one hJ ⟨rho, gA_stk hg ⟨⟨rfl, List.mem_flatMap.mpr ⟨n, hm, hR⟩⟩, hl2⟩⟩
  · cases he
/-- what is known behind a write to places lo .. hi of some names -/
def cdr (C : List (Nat × Nat × AV)) (ns : List Nat) (lo hi : Nat) : List (Nat × Nat × AV) := C.filter (fun e => !(ns.any (Nat.beq e.1) && (Nat.ble lo e.2.1 && Nat.ble e.2.1 hi)))
def cpt (C : List (Nat × Nat × AV)) (ns : List Nat) (lo hi : Nat) (v : AV) : List (Nat × Nat × AV) := match ns with
  | [n] => cond (Nat.beq lo hi) ((n, lo, v) :: cdr C ns lo hi) (cdr C ns lo hi)
  | _ => cdr C ns lo hi
theorem cdr_ne {C : List (Nat × Nat × AV)} {ns : List Nat} {lo hi n k : Nat} {e : Nat × Nat × AV} (h : e ∈ cdr C ns lo hi) (hm : n ∈ ns) (h1 : lo ≤ k) (h2 : k ≤ hi) : e ∈ C ∧ ¬ (e.1 = n ∧ e.2.1 = k) := by
  obtain ⟨ha, hb⟩ := List.mem_filter.mp h
  refine ⟨ha, fun z => ?_⟩
  rw [z.1, z.2, Nat.ble_eq_true_of_le h1, Nat.ble_eq_true_of_le h2, List.any_eq_true.mpr ⟨n, hm, beq_self n⟩] at hb
  cases hb
theorem cvl_wI {M : Mm} {a i n k t : Nat} {v : Int32} (h : ¬ (n = a ∧ k = i)) : cvl (wI M a i v) n k t = cvl M n k t := by
  unfold cvl
  rw [mI_w, if_neg h]
  rfl
theorem cvl_wR {M : Mm} {a i n k t v : Nat} (h : ¬ (n = a ∧ k = i)) : cvl (wR M a i v) n k t = cvl M n k t := by
  unfold cvl
  rw [mR_w, if_neg h]
  rfl
theorem cpt_wI {rho : List Int} {M : Mm} {C : List (Nat × Nat × AV)} {ns : List Nat} {lo hi n k : Nat} {v : AV} {x : Int32} (hC : gC rho M C) (hm : n ∈ ns) (h1 : lo ≤ k) (h2 : k ≤ hi) (hv : gv rho (.int x) v) : gC rho (wI M n k x) (cpt C ns lo hi v) := by
  have hd : gC rho (wI M n k x) (cdr C ns lo hi) := by
    intro e he
    obtain ⟨g1, g2⟩ := cdr_ne he hm h1 h2
    rw [cvl_wI g2]
    exact hC e g1
  unfold cpt
  split
  · rename_i m
    have e : n = m := List.mem_singleton.mp hm
    subst e
    cases hb : Nat.beq lo hi with
    | false => exact hd
    | true =>
      have e1 := Nat.eq_of_beq_eq_true hb
      have e2 : k = lo := by omega
      subst e2
      intro e he
      rcases List.mem_cons.mp he with z | z
      · subst z
        have e0 : v.1 = 0 := hv.1
        show gv rho (cvl _ n k v.1) v
        rw [e0]
        show gv rho (.int (mI (wI M n k x) n k)) v
        rw [mI_w, if_pos ⟨rfl, rfl⟩]
        exact hv
      · exact hd e z
  · exact hd
theorem cpt_wR {rho : List Int} {M : Mm} {C : List (Nat × Nat × AV)} {ns : List Nat} {lo hi n k x : Nat} {v : AV} (hC : gC rho M C) (hm : n ∈ ns) (h1 : lo ≤ k) (h2 : k ≤ hi) (hv : gv rho (.ref x) v) : gC rho (wR M n k x) (cpt C ns lo hi v) := by
  have hd : gC rho (wR M n k x) (cdr C ns lo hi) := by
    intro e he
    obtain ⟨g1, g2⟩ := cdr_ne he hm h1 h2
    rw [cvl_wR g2]
    exact hC e g1
  unfold cpt
  split
  · rename_i m
    have e : n = m := List.mem_singleton.mp hm
    subst e
    cases hb : Nat.beq lo hi with
    | false => exact hd
    | true =>
      have e1 := Nat.eq_of_beq_eq_true hb
      have e2 : k = lo := by omega
      subst e2
      intro e he
      rcases List.mem_cons.mp he with z | z
      · subst z
        have e0 : v.1 = 2 := hv.1
        show gv rho (cvl _ n k v.1) v
        rw [e0]
        show gv rho (.ref (mR (wR M n k x) n k)) v
        rw [mR_w, if_pos ⟨rfl, rfl⟩]
        exact hv
      · exact hd e z
  · exact hd
theorem gC_wL {rho : List Int} {M : Mm} {C : List (Nat × Nat × AV)} {ns : List Nat} {lo hi n k : Nat} {x : Int64} (hC : gC rho M C) (hm : n ∈ ns) (h1 : lo ≤ k) (h2 : k ≤ hi) : gC rho (wL M n k x) (cdr C ns lo hi) := by
  intro e he
  obtain ⟨g1, g2⟩ := cdr_ne he hm h1 h2
  have e1 : cvl (wL M n k x) e.1 e.2.1 e.2.2.1 = cvl M e.1 e.2.1 e.2.2.1 := by
    unfold cvl
    rw [mL_w, if_neg g2]
    rfl
  rw [e1]
  exact hC e g1
/-- putfield of an int -/
def aPI (P : Pk) (ms : Md3) (z : Bool) (pc c k : Nat) (A : ASt) : Option (List (Nat × ASt)) := match A.2.1 with
  | v :: a :: sk => cond (Nat.beq v.1 0 && (Nat.beq a.1 2 && a.2.2.2.all (okn P c))) (match ab A.2.2.1 v with
    | some b => cond (a.2.2.2.all (fun n => rwW (P.2.2 n) k k b && inw ms n k k) && (!z || (decide (0 ≤ b.1) && decide (b.2 ≤ 1)))) (some [(pc + 3, (A.1, sk, A.2.2.1, cpt A.2.2.2 a.2.2.2 k k v))]) none
    | none => none) none
  | _ => none
theorem aPI_in {z : Bool} {c k : Nat} {ls : Ls} {st : List Value} {M : Mm} {kn : KN} (he : aPI P ms z pc c k A = some L) (hJ : Jv P ms M0 M) (hg : gX av r0 M ls st A) (hn : Nx (Jv P ms M0) av r0 kn L) : ∃ x n t, st = .int x :: .ref n :: t ∧ kk M n c = true ∧ (z = true → x = 0 ∨ x = 1) ∧ kn (pc + 3) ls t (wI M n k x) := by
  obtain ⟨rho, hg⟩ := hg
  have hI := hJ.2.1
  unfold aPI at he
  split at he
  · rename_i v a sk hs
    obtain ⟨h0, he⟩ := condN he
    obtain ⟨h1, h2⟩ := andT h0
    obtain ⟨h3, h4⟩ := andT h2
    have hl := hg.2.2.2.1
    rw [hs] at hl
    obtain ⟨x, u, rfl, hxa, hl2⟩ := gl_i hl h1
    obtain ⟨n, u, rfl, hm, hl3⟩ := gl_r hl2 h3
    have ho := List.all_eq_true.mp h4 n hm
    cases hb : ab A.2.2.1 v with
    | none => rw [hb] at he; cases he
    | some b =>
      rw [hb] at he
      obtain ⟨h5, he⟩ := condN he
      cases he
      obtain ⟨h5, h7⟩ := andT h5
      obtain ⟨h5, h6⟩ := andT (List.all_eq_true.mp h5 n hm)
      have hx := ab_ok hg.1 hxa hb
      refine ⟨x, n, u, rfl, kk_ok hI ho, fun e => ?_, ?_⟩
      · subst e
        have h7 : (decide (0 ≤ b.1) && decide (b.2 ≤ 1)) = true := h7
        obtain ⟨h8, h9⟩ := andT h7
        have h8 := of_decide_eq_true h8
        have h9 := of_decide_eq_true h9
        have e0 : (0 : Int32).toInt = 0 := rfl
        have e1 : (1 : Int32).toInt = 1 := rfl
        rcases (show x.toInt = 0 ∨ x.toInt = 1 by omega) with q | q
        · exact Or.inl (Int32.toInt_inj.mp (q.trans e0.symm))
        · exact Or.inr (Int32.toInt_inj.mp (q.trans e1.symm))
      · exact hn.one (hJ.wI (rwW_ok ⟨i32_lo x, i32_hi x⟩ hx h5 (Nat.le_refl _) (Nat.le_refl _)) (inw_in h6 (Nat.le_refl _) (Nat.le_refl _)) (inw_ne h6)) ⟨rho, hg.1, hg.2.1, hg.2.2.1, hl3, cpt_wI hg.2.2.2.2 hm (Nat.le_refl _) (Nat.le_refl _) hxa⟩
  · cases he
theorem aPI_ok {c k : Nat} (he : aPI P ms false pc c k A = some L) : Sd (Jv P ms M0) av r0 kr (oPI pc c k) A L := by
  intro ls st M kn hJ hg hn
  obtain ⟨x, n, t, rfl, h1, -, h2⟩ := aPI_in he hJ hg hn
  simp only [oPI, h1, cond_true]
  exact h2
theorem aPZ_ok {c k : Nat} (he : aPI P ms true pc c k A = some L) : Sd (Jv P ms M0) av r0 kr (oPZ pc c k) A L := by
  intro ls st M kn hJ hg hn
  obtain ⟨x, n, t, rfl, h1, h3, h2⟩ := aPI_in he hJ hg hn
  simp only [oPZ, h1, cond_true]
  exact ⟨h3 rfl, h2⟩
def aPL (P : Pk) (ms : Md3) (pc c k : Nat) (A : ASt) : Option (List (Nat × ASt)) := match A.2.1 with
  | v :: a :: sk => cond (Nat.beq v.1 1 && (Nat.beq a.1 2 && a.2.2.2.all (fun n => okn P c n && ina ms n k k))) (some [(pc + 3, (A.1, sk, A.2.2.1, cdr A.2.2.2 a.2.2.2 k k))]) none
  | _ => none
theorem aPL_ok {c k : Nat} (he : aPL P ms pc c k A = some L) : Sd (Jv P ms M0) av r0 kr (oPL pc c k) A L := by
  intro ls st M kn hJ hg hn
  obtain ⟨rho, hg⟩ := hg
  unfold aPL at he
  split at he
  · rename_i v a sk hs
    obtain ⟨h0, he⟩ := condN he
    obtain ⟨h1, h2⟩ := andT h0
    obtain ⟨h3, h4⟩ := andT h2
    cases he
    have hl := hg.2.2.2.1
    rw [hs] at hl
    obtain ⟨x, u, rfl, hxa, hl2⟩ := gl_l hl h1
    obtain ⟨n, u, rfl, hm, hl3⟩ := gl_r hl2 h3
    obtain ⟨h5, h6⟩ := andT (List.all_eq_true.mp h4 n hm)
    simp only [oPL, kk_ok hJ.2.1 h5, cond_true]
    exact hn.one (M := wL M n k x) (hJ.wL (ina_in h6 (Nat.le_refl _) (Nat.le_refl _))) ⟨rho, hg.1, hg.2.1, hg.2.2.1, hl3, gC_wL hg.2.2.2.2 hm (Nat.le_refl _) (Nat.le_refl _)⟩
  · cases he
def aPR (P : Pk) (ms : Md3) (pc c k : Nat) (A : ASt) : Option (List (Nat × ASt)) := match A.2.1 with
  | v :: a :: sk => cond (Nat.beq v.1 2 && (Nat.beq a.1 2 && (a.2.2.2.all (fun n => okn P c n && (ina ms n k k && v.2.2.2.all (fun x => (P.2.1 n k).any (Nat.beq x)))) && v.2.2.2.all (fun x => Nat.blt 0 x && Nat.ble x 167)))) (some [(pc + 3, (A.1, sk, A.2.2.1, cpt A.2.2.2 a.2.2.2 k k v))]) none
  | _ => none
theorem aPR_ok {c k : Nat} (he : aPR P ms pc c k A = some L) : Sd (Jv P ms M0) av r0 kr (oPR pc c k) A L := by
  intro ls st M kn hJ hg hn
  obtain ⟨rho, hg⟩ := hg
  have hI := hJ.2.1
  unfold aPR at he
  split at he
  · rename_i v a sk hs
    obtain ⟨h0, he⟩ := condN he
    obtain ⟨h1, h2⟩ := andT h0
    obtain ⟨h3, h4⟩ := andT h2
    obtain ⟨h4, h5⟩ := andT h4
    cases he
    have hl := hg.2.2.2.1
    rw [hs] at hl
    obtain ⟨x, u, rfl, hxa, hl2⟩ := gl_r hl h1
    obtain ⟨n, u, rfl, hm, hl3⟩ := gl_r hl2 h3
    obtain ⟨h6, h7⟩ := andT (List.all_eq_true.mp h4 n hm)
    obtain ⟨h7, h8⟩ := andT h7
    obtain ⟨h9, h10⟩ := andT (List.all_eq_true.mp h5 x hxa)
    obtain ⟨y, hy, hxy⟩ := List.any_eq_true.mp (List.all_eq_true.mp h8 x hxa)
    have exy := Nat.eq_of_beq_eq_true hxy
    subst exy
    have hx1 : Nat.ble x (mN M) = true := Nat.ble_eq_true_of_le (Nat.le_trans (Nat.le_of_ble_eq_true h10) hI.1)
    simp only [oPR, kk_ok hI h6, h9, hx1, Bool.and_self, cond_true]
    have e2 : v.1 = 2 := Nat.eq_of_beq_eq_true h1
    exact hn.one (M := wR M n k x) (hJ.wR hy (ina_in h7 (Nat.le_refl _) (Nat.le_refl _))) ⟨rho, hg.1, hg.2.1, hg.2.2.1, hl3, cpt_wR hg.2.2.2.2 hm (Nat.le_refl _) (Nat.le_refl _) ⟨e2, hxa⟩⟩
  · cases he
end MEM9
