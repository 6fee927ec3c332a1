/-! the checker's run: n steps at most, up to the places where 'stop' speaks (a head, told apart by the state there) -/
def run (stp : Nat → ASt → Option (List (Nat × ASt))) (stop : Nat → ASt → Option Bool) : Nat → Nat → ASt → Bool
  | 0, _, _ => false
  | n + 1, pc, A => match stp pc A with
    | some L => L.all (fun z => match stop z.1 z.2 with
      | some ok => ok
      | none => run stp stop n z.1 z.2)
    | none => false
theorem run_ok {l : Launch} {X : Nat × (Nat → Int32)} {q : Md} {d : Nat} {na : Bool} {b : Nat × Nat} {tb : List (Nat × OP)} {kr : KR} {stp : Nat → ASt → Option (List (Nat × ASt))} {stop : Nat → ASt → Option Bool} {J : Mm → Prop} {av : List Value} {r0 : List Int} (ht : ∀ x ∈ tb, OK l X q d na b x.1 x.2)
    (hS : ∀ (pc : Nat) (A : ASt) (L : List (Nat × ASt)), stp pc A = some L → Sd J av r0 kr (lo tb pc) A L)
    (hstop : ∀ (pc : Nat) (A : ASt), stop pc A = some true → ∀ ls st M, J M → gX av r0 M ls st A → Wf l X q d na b pc ls st M kr) : ∀ (n pc : Nat) (A : ASt), run stp stop n pc A = true → ∀ ls st M, J M → gX av r0 M ls st A → Wf l X q d na b pc ls st M kr
  | 0, _, _, h => by cases h
  | n + 1, pc, A, h => by
    intro ls st M hI hg
    unfold run at h
    cases hs : stp pc A with
    | none => rw [hs] at h; cases h
    | some L =>
      rw [hs] at h
      refine lo_ok ht pc (fun pc' ls' st' M' => Wf l X q d na b pc' ls' st' M' kr) kr ls st M (fun _ _ _ _ h' => h') ?_
      refine hS pc A L hs ls st M _ hI hg (fun z hz ls' st' M' hI' hg' => ?_)
      have hz2 := List.all_eq_true.mp h z hz
      cases hp : stop z.1 z.2 with
      | some ok =>
        rw [hp] at hz2
        have e : ok = true := hz2
        subst e
        exact hstop _ _ hp ls' st' M' hI' hg'
      | none =>
        rw [hp] at hz2
        exact run_ok ht hS hstop n z.1 z.2 hz2 ls' st' M' hI' hg'
/-! heads: ((pc, a symbol whose values are gone through one by one, or 0), state, where its symbols come from, rank) -/
abbrev Lf : Type := Int × List (Nat × Int)
/-- the last: what more holds of the symbols, numbers not below 0 -/
abbrev Hd : Type := (Nat × Nat) × ASt × List (Nat × Nat × Nat) × (Int × List (Nat × Int)) × List Lf
def hsr (A : ASt) (s : Nat × Nat × Nat) : AV := match s.1 with
  | 0 => (ag A.1 s.2.1).getD (9, 0, 0, [])
  | 1 => (A.2.1[s.2.1]?).getD (9, 0, 0, [])
  | _ => (cgt A.2.2.2 s.2.1 s.2.2 0).getD (9, 0, 0, [])
def hmp (h : Hd) (A : ASt) : List AV := cst 0 :: h.2.2.1.map (hsr A)
def hrho (m : List AV) (rho : List Int) : List Int := m.map (fun u => (rho[u.2.1]?).getD 0 + u.2.2.1)
/-- w is v, the symbols being taken as m says -/
def heq (m : List AV) (v w : AV) : Bool := Nat.beq v.1 w.1 && cond (Nat.beq v.1 2) (w.2.2.2.all (fun n => v.2.2.2.any (Nat.beq n))) (match m[v.2.1]? with
  | some u => Nat.beq w.2.1 u.2.1 && decide (w.2.2.1 = u.2.2.1 + v.2.2.1)
  | none => false)
theorem heq_ok {m : List AV} {rho : List Int} {x : Value} {v w : AV} (h : gv rho x w) (he : heq m v w = true) : gv (hrho m rho) x v := by
  obtain ⟨h1, h2⟩ := andT he
  have h1 := Nat.eq_of_beq_eq_true h1
  have num : ∀ e, rho[w.2.1]? = some e → Nat.beq v.1 2 = false → ∀ z : Int, z = e + w.2.2.1 → ∃ e', (hrho m rho)[v.2.1]? = some e' ∧ z = e' + v.2.2.1 := by
    intro e h3 h4 z h5
    rw [h4] at h2
    cases hm : m[v.2.1]? with
    | none => rw [hm] at h2; cases h2
    | some u =>
      rw [hm] at h2
      obtain ⟨h6, h7⟩ := andT h2
      have h6 := Nat.eq_of_beq_eq_true h6
      have h7 := of_decide_eq_true h7
      refine ⟨(rho[u.2.1]?).getD 0 + u.2.2.1, ?_, ?_⟩
      · unfold hrho
        rw [List.getElem?_map, hm]
        rfl
      · rw [← h6, h3]
        show z = e + u.2.2.1 + v.2.2.1
        omega
  cases x with
  | int y =>
    have h0 := h.1
    obtain ⟨e, h3, h4⟩ := h.2
    exact ⟨h1.trans h0, num e h3 (by rw [h1, h0]; rfl) _ h4⟩
  | long y =>
    have h0 := h.1
    obtain ⟨e, h3, h4⟩ := h.2
    exact ⟨h1.trans h0, num e h3 (by rw [h1, h0]; rfl) _ h4⟩
  | ref n =>
    have h0 := h.1
    rw [show Nat.beq v.1 2 = true by rw [h1, h0]; rfl] at h2
    obtain ⟨y, hy, hxy⟩ := List.any_eq_true.mp (List.all_eq_true.mp h2 n h.2)
    have exy := Nat.eq_of_beq_eq_true hxy
    subst exy
    exact ⟨h1.trans h0, hy⟩
  | _ => exact h.elim
def hst (m : List AV) : List AV → List AV → Bool
  | [], [] => true
  | v :: t, w :: u => heq m v w && hst m t u
  | _, _ => false
theorem hst_ok {m : List AV} {rho : List Int} : ∀ {st : List Value} {vs ws : List AV}, gl rho st ws → hst m vs ws = true → gl (hrho m rho) st vs
  | [], [], [], _, _ => trivial
  | x :: t, v :: u, w :: z, h, hk => ⟨heq_ok h.1 (andT hk).1, hst_ok h.2 (andT hk).2⟩
  | [], _, _ :: _, h, _ => h.elim
  | _ :: _, _, [], h, _ => h.elim
  | [], _ :: _, [], _, hk => by cases hk
  | _ :: _, [], _ :: _, _, hk => by cases hk
/-! ranks -/
def lin (rho : List Int) : List (Nat × Int) → Int
  | [] => 0
  | x :: t => x.2 * (rho[x.1]?).getD 0 + lin rho t
def trl (m : List AV) : List (Nat × Int) → Int × List (Nat × Int)
  | [] => (0, [])
  | x :: t => match m[x.1]? with
    | some u => (x.2 * u.2.2.1 + (trl m t).1, (u.2.1, x.2) :: (trl m t).2)
    | none => trl m t
theorem trl_ok {m : List AV} {rho : List Int} : ∀ {L : List (Nat × Int)}, lin (hrho m rho) L = (trl m L).1 + lin rho (trl m L).2
  | [] => rfl
  | x :: t => by
    have ih := trl_ok (m := m) (rho := rho) (L := t)
    show x.2 * ((hrho m rho)[x.1]?).getD 0 + lin (hrho m rho) t = _
    cases hm : m[x.1]? with
    | none =>
      have e : (hrho m rho)[x.1]? = none := by
        unfold hrho
        rw [List.getElem?_map, hm]
        rfl
      have e2 : trl m (x :: t) = trl m t := by
        show (match m[x.1]? with
          | some u => (x.2 * u.2.2.1 + (trl m t).1, (u.2.1, x.2) :: (trl m t).2)
          | none => trl m t) = trl m t
        rw [hm]
      rw [e, e2]
      show x.2 * 0 + lin (hrho m rho) t = _
      rw [ih, Int.mul_zero, Int.zero_add]
    | some u =>
      have e : (hrho m rho)[x.1]? = some ((rho[u.2.1]?).getD 0 + u.2.2.1) := by
        unfold hrho
        rw [List.getElem?_map, hm]
        rfl
      have e2 : trl m (x :: t) = (x.2 * u.2.2.1 + (trl m t).1, (u.2.1, x.2) :: (trl m t).2) := by
        show (match m[x.1]? with
          | some u => (x.2 * u.2.2.1 + (trl m t).1, (u.2.1, x.2) :: (trl m t).2)
          | none => trl m t) = _
        rw [hm]
      rw [e, e2]
      show x.2 * ((rho[u.2.1]?).getD 0 + u.2.2.1) + lin (hrho m rho) t = x.2 * u.2.2.1 + (trl m t).1 + (x.2 * (rho[u.2.1]?).getD 0 + lin rho (trl m t).2)
      rw [ih, Int.mul_add]
      omega
def ins1 (s : Nat) (c : Int) : List (Nat × Int) → List (Nat × Int)
  | [] => [(s, c)]
  | y :: t => cond (Nat.beq y.1 s) ((s, y.2 + c) :: t) (y :: ins1 s c t)
theorem lin_ins {rho : List Int} {s : Nat} {c : Int} : ∀ {L : List (Nat × Int)}, lin rho (ins1 s c L) = c * (rho[s]?).getD 0 + lin rho L
  | [] => rfl
  | y :: t => by
    unfold ins1
    cases hb : Nat.beq y.1 s with
    | true =>
      have e := Nat.eq_of_beq_eq_true hb
      show (y.2 + c) * (rho[s]?).getD 0 + lin rho t = c * (rho[s]?).getD 0 + (y.2 * (rho[y.1]?).getD 0 + lin rho t)
      rw [e, Int.add_mul]
      omega
    | false =>
      show y.2 * (rho[y.1]?).getD 0 + lin rho (ins1 s c t) = c * (rho[s]?).getD 0 + (y.2 * (rho[y.1]?).getD 0 + lin rho t)
      rw [lin_ins]
      omega
def mrg : List (Nat × Int) → List (Nat × Int)
  | [] => []
  | x :: t => ins1 x.1 x.2 (mrg t)
theorem lin_mrg {rho : List Int} : ∀ {L : List (Nat × Int)}, lin rho (mrg L) = lin rho L
  | [] => rfl
  | x :: t => by
    unfold mrg
    rw [lin_ins, lin_mrg]
    rfl
theorem lin_app {rho : List Int} {K : List (Nat × Int)} : ∀ {L : List (Nat × Int)}, lin rho (L ++ K) = lin rho L + lin rho K
  | [] => (Int.zero_add _).symm
  | x :: t => by
    show x.2 * (rho[x.1]?).getD 0 + lin rho (t ++ K) = x.2 * (rho[x.1]?).getD 0 + lin rho t + lin rho K
    rw [lin_app]
    omega
def neg1 (L : List (Nat × Int)) : List (Nat × Int) := L.map (fun x => (x.1, -x.2))
theorem lin_neg {rho : List Int} : ∀ {L : List (Nat × Int)}, lin rho (neg1 L) = - lin rho L
  | [] => rfl
  | x :: t => by
    show -x.2 * (rho[x.1]?).getD 0 + lin rho (neg1 t) = -(x.2 * (rho[x.1]?).getD 0 + lin rho t)
    rw [lin_neg, Int.neg_mul]
    omega
def ubd (S : Sto) : List (Nat × Int) → Option Int
  | [] => some 0
  | x :: t => match S[x.1]?, ubd S t with
    | some b, some u => some ((if 0 ≤ x.2 then x.2 * b.2 else x.2 * b.1) + u)
    | _, _ => none
theorem ubd_ok {r0 rho : List Int} {S : Sto} (hs : gs r0 rho S) : ∀ {L : List (Nat × Int)} {u : Int}, ubd S L = some u → lin rho L ≤ u
  | [], u, h => by
    cases h
    exact Int.le_refl _
  | x :: t, u, h => by
    unfold ubd at h
    cases hk : S[x.1]? with
    | none => rw [hk] at h; cases h
    | some b =>
      cases hu : ubd S t with
      | none => rw [hk, hu] at h; cases h
      | some w =>
        rw [hk, hu] at h
        have ih := ubd_ok hs hu
        obtain ⟨e, h1, h2, h3⟩ := hs.2 _ b hk
        have h4 : (if 0 ≤ x.2 then x.2 * b.2 else x.2 * b.1) + w = u := Option.some.inj h
        show x.2 * (rho[x.1]?).getD 0 + lin rho t ≤ u
        rw [h1]
        show x.2 * e + lin rho t ≤ u
        split at h4
        · rename_i h5
          have := Int.mul_le_mul_of_nonneg_left h3 h5
          omega
        · rename_i h5
          have := Int.mul_le_mul_of_nonpos_left (a := x.2) (by omega) h2
          omega
/-- a number's upper bound by what holds of the symbols -/
def ubq (S : Sto) (cs : List Lf) (u : AV) (hi : Int) : Bool := cs.any (fun q => match ubd S (mrg ((u.2.1, 1) :: q.2)) with
  | some w => decide (w + q.1 - hi + u.2.2.1 ≤ 0)
  | none => false)
def gq (rho : List Int) (cs : List Lf) : Prop := ∀ q ∈ cs, 0 ≤ q.1 + lin rho q.2
theorem ubq_ok {r0 rho : List Int} {S : Sto} {cs : List Lf} {u : AV} {hi : Int} (hs : gs r0 rho S) (hq : gq rho cs) (h : ubq S cs u hi = true) : (rho[u.2.1]?).getD 0 + u.2.2.1 ≤ hi := by
  obtain ⟨q, hm, h1⟩ := List.any_eq_true.mp h
  cases hu : ubd S (mrg ((u.2.1, 1) :: q.2)) with
  | none => rw [hu] at h1; cases h1
  | some w =>
    rw [hu] at h1
    have h1 := of_decide_eq_true h1
    have h2 := ubd_ok hs hu
    rw [lin_mrg] at h2
    have h2 : 1 * (rho[u.2.1]?).getD 0 + lin rho q.2 ≤ w := h2
    have h3 := hq q hm
    omega
def hbd (S : Sto) (cs : List Lf) : List AV → Sto → Bool
  | [], [] => true
  | u :: t, b :: z => (match ab S u with
    | some c => decide (b.1 ≤ c.1) && (decide (c.2 ≤ b.2) || ubq S cs u b.2)
    | none => false) && hbd S cs t z
  | _, _ => false
theorem hbd_ok {r0 rho : List Int} {S : Sto} {cs : List Lf} (hs : gs r0 rho S) (hq : gq rho cs) : ∀ {m : List AV} {T : Sto}, hbd S cs m T = true → (hrho m rho).length = T.length ∧ ∀ (k : Nat) (b : Int × Int), T[k]? = some b → ∃ e, (hrho m rho)[k]? = some e ∧ b.1 ≤ e ∧ e ≤ b.2
  | [], [], _ => ⟨rfl, fun k b h => by cases h⟩
  | [], _ :: _, h => by cases h
  | _ :: _, [], h => by cases h
  | u :: t, b :: z, h => by
    obtain ⟨h1, h2⟩ := andT h
    obtain ⟨i1, i2⟩ := hbd_ok hs hq h2
    refine ⟨by show (hrho t rho).length + 1 = z.length + 1; rw [i1], fun k c hk => ?_⟩
    cases k with
    | succ k => exact i2 k c hk
    | zero =>
      cases hk
      cases hc : ab S u with
      | none => rw [hc] at h1; cases h1
      | some c =>
        rw [hc] at h1
        obtain ⟨h3, h4⟩ := andT h1
        have h3 := of_decide_eq_true h3
        refine ⟨(rho[u.2.1]?).getD 0 + u.2.2.1, rfl, ?_⟩
        unfold ab at hc
        cases hk : S[u.2.1]? with
        | none => rw [hk] at hc; cases hc
        | some s =>
          rw [hk] at hc
          cases hc
          obtain ⟨e, h5, h6, h7⟩ := hs.2 _ s hk
          have h3 : b.1 ≤ s.1 + u.2.2.1 := h3
          refine ⟨by rw [h5]; show b.1 ≤ e + u.2.2.1; omega, ?_⟩
          rcases Bool.or_eq_true_iff.mp h4 with z | z
          · have z := of_decide_eq_true z
            have z : s.2 + u.2.2.1 ≤ b.2 := z
            rw [h5]
            show e + u.2.2.1 ≤ b.2
            omega
          · exact ubq_ok hs hq z
/-- a state is within a head's -/
def sub (cs : List Lf) (h : Hd) (A : ASt) : Bool := h.2.1.1.all (fun x => match ag A.1 x.1 with
  | some w => heq (hmp h A) x.2 w
  | none => false) && (hst (hmp h A) h.2.1.2.1 A.2.1 && (h.2.1.2.2.2.all (fun e => match cgt A.2.2.2 e.1 e.2.1 e.2.2.1 with
    | some w => heq (hmp h A) e.2.2 w
    | none => false) && hbd A.2.2.1 cs (hmp h A) h.2.1.2.2.1))
theorem sub_ok {av : List Value} {r0 rho : List Int} {M : Mm} {ls : Ls} {st : List Value} {A : ASt} {h : Hd} {cs : List Lf} (hg : gA av r0 rho M ls st A) (hq : gq rho cs) (hk : sub cs h A = true) : gA av (hrho (hmp h A) rho) (hrho (hmp h A) rho) M ls st h.2.1 := by
  obtain ⟨h1, h2⟩ := andT hk
  obtain ⟨h2, h3⟩ := andT h2
  obtain ⟨h3, h4⟩ := andT h3
  obtain ⟨i1, i2⟩ := hbd_ok hg.1 hq h4
  refine ⟨⟨⟨i1, [], (List.append_nil _).symm⟩, i2⟩, ?_, fun x hx => ?_, hst_ok hg.2.2.2.1 h2, fun e he => ?_⟩
  · show some ((rho[0]?).getD 0 + 0) = some 0
    rw [hg.2.1]
    rfl
  · have h5 := List.all_eq_true.mp h1 x hx
    cases ha : ag A.1 x.1 with
    | none => rw [ha] at h5; cases h5
    | some w =>
      rw [ha] at h5
      obtain ⟨v, h6, h7⟩ := hg.2.2.1 _ (ag_mem ha)
      exact ⟨v, h6, heq_ok h7 h5⟩
  · have h5 := List.all_eq_true.mp h3 e he
    cases hc : cgt A.2.2.2 e.1 e.2.1 e.2.2.1 with
    | none => rw [hc] at h5; cases h5
    | some w =>
      rw [hc] at h5
      exact heq_ok (cgt_ok hg.2.2.2.2 hc).1 h5
def rkv (h : Hd) (rho : List Int) : Int := h.2.2.2.1.1 + lin rho h.2.2.2.1.2
/-- the rank falls -/
def rkl (lim : Option Lf) (S : Sto) (m : List AV) (h : Hd) : Bool := match lim with
  | none => true
  | some c => match ubd S (mrg ((trl m h.2.2.2.1.2).2 ++ neg1 c.2)) with
    | some u => decide (h.2.2.2.1.1 + (trl m h.2.2.2.1.2).1 - c.1 + u < 0)
    | none => false
/-- what more is to hold of the symbols of a head does: by itself, or by what held at the start -/
def cql (cs : List Lf) (S : Sto) (m : List AV) (q : Lf) : Bool := (match ubd S (mrg (neg1 (trl m q.2).2)) with
  | some u => decide (0 ≤ q.1 + (trl m q.2).1 - u)
  | none => false) || cs.any (fun c => match ubd S (mrg (neg1 (trl m q.2).2 ++ c.2)) with
    | some u => decide (c.1 + u ≤ q.1 + (trl m q.2).1)
    | none => false)
theorem cql_ok {r0 rho : List Int} {S : Sto} {cs : List Lf} {m : List AV} {q : Lf} (hs : gs r0 rho S) (hq : gq rho cs) (h : cql cs S m q = true) : 0 ≤ q.1 + lin (hrho m rho) q.2 := by
  rw [trl_ok]
  rcases Bool.or_eq_true_iff.mp h with z | z
  · cases hu : ubd S (mrg (neg1 (trl m q.2).2)) with
    | none => rw [hu] at z; cases z
    | some u =>
      rw [hu] at z
      have z := of_decide_eq_true z
      have h2 := ubd_ok hs hu
      rw [lin_mrg, lin_neg] at h2
      omega
  · obtain ⟨c, hm, z⟩ := List.any_eq_true.mp z
    cases hu : ubd S (mrg (neg1 (trl m q.2).2 ++ c.2)) with
    | none => rw [hu] at z; cases z
    | some u =>
      rw [hu] at z
      have z := of_decide_eq_true z
      have h2 := ubd_ok hs hu
      rw [lin_mrg, lin_app, lin_neg] at h2
      have h3 := hq c hm
      omega
def hsp (Hs : List Hd) (lim : Option Lf) (cs : List Lf) (pc : Nat) (A : ASt) : Option Bool := cond (Hs.any (fun h => Nat.beq h.1.1 pc)) (some (Hs.any (fun h => Nat.beq h.1.1 pc && (sub cs h A && (rkl lim A.2.2.1 (hmp h A) h && h.2.2.2.2.all (cql cs A.2.2.1 (hmp h A))))))) none
theorem hsp_ok {Hs : List Hd} {lim : Option Lf} {cs : List Lf} {pc : Nat} {A : ASt} (hh : hsp Hs lim cs pc A = some true) : ∃ h ∈ Hs, h.1.1 = pc ∧ sub cs h A = true ∧ rkl lim A.2.2.1 (hmp h A) h = true ∧ ∀ q ∈ h.2.2.2.2, cql cs A.2.2.1 (hmp h A) q = true := by
  unfold hsp at hh
  obtain ⟨-, h1⟩ := condN hh
  obtain ⟨h, hm, h2⟩ := List.any_eq_true.mp (Option.some.inj h1)
  obtain ⟨h3, h4⟩ := andT h2
  obtain ⟨h4, h5⟩ := andT h4
  obtain ⟨h5, h6⟩ := andT h5
  exact ⟨h, hm, Nat.eq_of_beq_eq_true h3, h4, h5, fun q hq => List.all_eq_true.mp h6 q hq⟩
def lfo (n : Nat) (q : Lf) : Bool := q.2.all (fun x => Nat.blt x.1 n)
/-- all that is checked of a head -/
def hrun (stp : Nat → ASt → Option (List (Nat × ASt))) (Hs : List Hd) (n : Nat) (h : Hd) : Bool := (lfo h.2.1.2.2.1.length h.2.2.2.1 && h.2.2.2.2.all (lfo h.2.1.2.2.1.length)) && ((match ubd h.2.1.2.2.1 (neg1 h.2.2.2.1.2) with
  | some u => decide (0 ≤ h.2.2.2.1.1 - u)
  | none => false) && cond (Nat.beq h.1.2 0) (run stp (hsp Hs (some h.2.2.2.1) h.2.2.2.2) n h.1.1 h.2.1) (match h.2.1.2.2.1[h.1.2]? with
    | some b => decide (0 ≤ b.1) && (jdx b.1.toNat b.2.toNat).all (fun (v : Nat) => run stp (hsp Hs (some h.2.2.2.1) h.2.2.2.2) n h.1.1 (h.2.1.1, h.2.1.2.1, nar h.2.1.2.2.1 h.1.2 (v : Int) (v : Int), h.2.1.2.2.2))
    | none => false))
theorem lin_pre {r0 t : List Int} : ∀ {L : List (Nat × Int)}, (∀ x ∈ L, x.1 < r0.length) → lin (r0 ++ t) L = lin r0 L
  | [], _ => rfl
  | x :: u, h => by
    show x.2 * ((r0 ++ t)[x.1]?).getD 0 + lin (r0 ++ t) u = x.2 * (r0[x.1]?).getD 0 + lin r0 u
    rw [List.getElem?_append_left (h x List.mem_cons_self), lin_pre (fun y hy => h y (List.mem_cons_of_mem _ hy))]
theorem lfo_pre {r0 rho : List Int} {S : Sto} {q : Lf} {n : Nat} (hs : gs r0 rho S) (hl : r0.length = n) (h : lfo n q = true) : lin rho q.2 = lin r0 q.2 := by
  obtain ⟨t, ht⟩ := hs.1.2
  rw [ht]
  refine lin_pre (fun x hx => ?_)
  rw [hl]
  exact Nat.le_of_ble_eq_true (List.all_eq_true.mp h x hx)
section HEADS
variable {l : Launch} {X : Nat × (Nat → Int32)} {q : Md} {d : Nat} {na : Bool} {b : Nat × Nat} {tb : List (Nat × OP)} {kr : KR} {stp : Nat → ASt → Option (List (Nat × ASt))} {J : Mm → Prop} {av : List Value} {Hs : List Hd} {fuel : Nat}
theorem heads_ok (ht : ∀ x ∈ tb, OK l X q d na b x.1 x.2) (hS : ∀ (r0 : List Int) (pc : Nat) (A : ASt) (L : List (Nat × ASt)), stp pc A = some L → Sd J av r0 kr (lo tb pc) A L) (hall : ∀ h ∈ Hs, hrun stp Hs fuel h = true) : ∀ (n : Nat) (h : Hd), h ∈ Hs → ∀ rho ls st M, J M → gA av rho rho M ls st h.2.1 → gq rho h.2.2.2.2 → (rkv h rho).toNat < n → Wf l X q d na b h.1.1 ls st M kr := by
  intro n
  induction n with
  | zero => intro h hm rho ls st M hJ hg hq hr; exact absurd hr (Nat.not_lt_zero _)
  | succ n ih =>
    intro h hm rho ls st M hJ hg hq hr
    obtain ⟨c1, c2⟩ := andT (hall h hm)
    obtain ⟨c1, c0⟩ := andT c1
    obtain ⟨c2, c3⟩ := andT c2
    have hlen : rho.length = h.2.1.2.2.1.length := hg.1.1.1
    have hstop : ∀ (pc : Nat) (A : ASt), hsp Hs (some h.2.2.2.1) h.2.2.2.2 pc A = some true → ∀ ls st M, J M → gX av rho M ls st A → Wf l X q d na b pc ls st M kr := by
      intro pc A hh ls st M hJ hg2
      obtain ⟨h', hm', e1, h1, h2, h3⟩ := hsp_ok hh
      subst e1
      obtain ⟨rho2, hg2⟩ := hg2
      have hq2 : gq rho2 h.2.2.2.2 := by
        intro x hx
        rw [lfo_pre hg2.1 hlen (List.all_eq_true.mp c0 x hx)]
        exact hq x hx
      have g := sub_ok hg2 hq2 h1
      refine ih h' hm' _ ls st M hJ g (fun x hx => cql_ok hg2.1 hq2 (h3 x hx)) ?_
      have e3 : lin rho2 h.2.2.2.1.2 = lin rho h.2.2.2.1.2 := lfo_pre hg2.1 hlen c1
      obtain ⟨d1, d2⟩ := andT (hall h' hm')
      obtain ⟨d2, d3⟩ := andT d2
      have lower : 0 ≤ rkv h' (hrho (hmp h' A) rho2) := by
        cases hu : ubd h'.2.1.2.2.1 (neg1 h'.2.2.2.1.2) with
        | none => rw [hu] at d2; cases d2
        | some u =>
          rw [hu] at d2
          have d2 := of_decide_eq_true d2
          have := ubd_ok g.1 hu
          rw [lin_neg] at this
          unfold rkv
          omega
      have less : rkv h' (hrho (hmp h' A) rho2) < rkv h rho := by
        unfold rkl at h2
        dsimp only at h2
        cases hu : ubd A.2.2.1 (mrg ((trl (hmp h' A) h'.2.2.2.1.2).2 ++ neg1 h.2.2.2.1.2)) with
        | none => rw [hu] at h2; cases h2
        | some u =>
          rw [hu] at h2
          have h2 := of_decide_eq_true h2
          have := ubd_ok hg2.1 hu
          rw [lin_mrg, lin_app, lin_neg, e3] at this
          unfold rkv
          rw [trl_ok]
          omega
      omega
    cases hs : Nat.beq h.1.2 0 with
    | true =>
      rw [hs] at c3
      exact run_ok ht (hS rho) hstop fuel h.1.1 h.2.1 c3 ls st M hJ ⟨rho, hg⟩
    | false =>
      rw [hs] at c3
      cases hb : h.2.1.2.2.1[h.1.2]? with
      | none => rw [hb] at c3; cases c3
      | some bb =>
        rw [hb] at c3
        obtain ⟨c4, c5⟩ := andT c3
        have c4 := of_decide_eq_true c4
        obtain ⟨e, e1, e2, e3⟩ := hg.1.2 _ bb hb
        have c6 := List.all_eq_true.mp c5 e.toNat (jdx_ok (by omega) (by omega))
        have e4 : ((e.toNat : Nat) : Int) = e := by omega
        rw [e4] at c6
        exact run_ok ht (hS rho) hstop fuel h.1.1 _ c6 ls st M hJ ⟨rho, gs_nar hg.1 e1 (Int.le_refl _) (Int.le_refl _), hg.2.1, hg.2.2.1, hg.2.2.2.1, hg.2.2.2.2⟩
/-- from a state: a run up to the heads -/
theorem from_ok (ht : ∀ x ∈ tb, OK l X q d na b x.1 x.2) (hS : ∀ (r0 : List Int) (pc : Nat) (A : ASt) (L : List (Nat × ASt)), stp pc A = some L → Sd J av r0 kr (lo tb pc) A L) (hall : ∀ h ∈ Hs, hrun stp Hs fuel h = true) {pc : Nat} {A : ASt} (hr : run stp (hsp Hs none []) fuel pc A = true) {r0 : List Int} {ls : Ls} {st : List Value} {M : Mm} (hJ : J M) (hg : gX av r0 M ls st A) : Wf l X q d na b pc ls st M kr := by
  refine run_ok ht (hS r0) (fun pc A hh ls st M hJ hg2 => ?_) fuel pc A hr ls st M hJ hg
  obtain ⟨h', hm', e1, h1, h2, h3⟩ := hsp_ok hh
  subst e1
  obtain ⟨rho2, hg2⟩ := hg2
  have hq : gq rho2 [] := fun x hx => absurd hx List.not_mem_nil
  exact heads_ok ht hS hall ((rkv h' (hrho (hmp h' A) rho2)).toNat + 1) h' hm' _ ls st M hJ (sub_ok hg2 hq h1) (fun x hx => cql_ok hg2.1 hq (h3 x hx)) (Nat.lt_succ_self _)
end HEADS
