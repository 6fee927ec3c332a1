/-! contracts, calls by contract, returns -/
/-- bounds of a value: (0, lo, hi, _) an int, (1, lo, hi, _) a long, (2, _, _, names) a reference -/
abbrev AB : Type := Nat × Int × Int × List Nat
def gb (v : Value) (b : AB) : Prop := match v with
  | .int x => b.1 = 0 ∧ b.2.1 ≤ x.toInt ∧ x.toInt ≤ b.2.2.1
  | .long x => b.1 = 1 ∧ b.2.1 ≤ x.toInt ∧ x.toInt ≤ b.2.2.1
  | .ref n => b.1 = 2 ∧ n ∈ b.2.2.2
  | _ => False
/-- a fact: name, place, bounds -/
abbrev Fa : Type := Nat × Nat × AB
def gf (M : Mm) (f : Fa) : Prop := gb (cvl M f.1 f.2.1 f.2.2.1) f.2.2
/-- an end: the answer, arguments made narrower, facts -/
abbrev Po : Type := Option AB × List (Nat × Int × Int) × List Fa
/-- a contract: (method, arguments, facts), places changed, ends -/
abbrev Con : Type := (Nat × List AB × List Fa) × Md3 × List Po
def gbs : List Value → List AB → Prop
  | [], [] => True
  | v :: t, b :: u => gb v b ∧ gbs t u
  | _, _ => False
def gre (r : Option Value) (b : Option AB) : Prop := match r, b with
  | none, none => True
  | some v, some b => gb v b
  | _, _ => False
def gpo (av : List Value) (r : Option Value) (M : Mm) (p : Po) : Prop := gre r p.1 ∧ (∀ x ∈ p.2.1, ∃ y, av[x.1]? = some (.int y) ∧ x.2.1 ≤ y.toInt ∧ y.toInt ≤ x.2.2) ∧ ∀ f ∈ p.2.2, gf M f
def gps (av : List Value) (r : Option Value) (M : Mm) (ps : List Po) : Prop := ∃ p ∈ ps, gpo av r M p
/-- the contract holds -/
def Vc (l : Launch) (X : Nat × (Nat → Int32)) (U : Nat → Md) (P : Pk) (e : Int) (d : Nat) (K : Con) : Prop := ∀ (av : List Value) (M : Mm) (kr : KR), Iv P M → eO e M → gbs av K.1.2.1 → (∀ f ∈ K.1.2.2, gf M f) → (∀ r M', Jv P K.2.1 (M, e) M' → gps av r M' K.2.2 → kr r M') → Ev l X (U K.1.1) d true 0 0 av M kr
/-- an abstract value within bounds -/
def abk (S : Sto) (a : AV) (b : AB) : Bool := Nat.beq a.1 b.1 && (cond (Nat.beq b.1 2) (a.2.2.2.all (fun n => b.2.2.2.any (Nat.beq n))) (match ab S a with
  | some c => decide (b.2.1 ≤ c.1) && decide (c.2 ≤ b.2.2.1)
  | none => false))
theorem abk_ok {r0 rho : List Int} {S : Sto} {v : Value} {a : AV} {b : AB} (hs : gs r0 rho S) (h : gv rho v a) (hk : abk S a b = true) : gb v b := by
  obtain ⟨h1, h2⟩ := andT hk
  have h1 := Nat.eq_of_beq_eq_true h1
  cases v with
  | int x =>
    have h0 := h.1
    rw [show Nat.beq b.1 2 = false by rw [← h1, h0]; rfl] at h2
    cases hc : ab S a with
    | none => rw [hc] at h2; cases h2
    | some c =>
      rw [hc] at h2
      obtain ⟨h3, h4⟩ := andT h2
      have h3 := of_decide_eq_true h3
      have h4 := of_decide_eq_true h4
      have := ab_ok hs h hc
      exact ⟨by rw [← h1]; exact h0, by omega, by omega⟩
  | long x =>
    have h0 := h.1
    rw [show Nat.beq b.1 2 = false by rw [← h1, h0]; rfl] at h2
    cases hc : ab S a with
    | none => rw [hc] at h2; cases h2
    | some c =>
      rw [hc] at h2
      obtain ⟨h3, h4⟩ := andT h2
      have h3 := of_decide_eq_true h3
      have h4 := of_decide_eq_true h4
      have : c.1 ≤ x.toInt ∧ x.toInt ≤ c.2 := ab_num (v := .long x) hs h.2 hc
      exact ⟨by rw [← h1]; exact h0, by omega, by omega⟩
  | ref n =>
    have h0 := h.1
    rw [show Nat.beq b.1 2 = true by rw [← h1, h0]; rfl] at h2
    obtain ⟨y, hy, hxy⟩ := List.any_eq_true.mp (List.all_eq_true.mp h2 n h.2)
    have exy := Nat.eq_of_beq_eq_true hxy
    subst exy
    exact ⟨by rw [← h1]; exact h0, hy⟩
  | _ => exact h.elim
/-- the arguments off the stack, the first first -/
def apn : Nat → List AV → List AV → Option (List AV × List AV)
  | 0, sk, acc => some (acc, sk)
  | n + 1, sk, acc => match sk with
    | [] => none
    | a :: t => apn n t (a :: acc)
theorem apn_ok {rho : List Int} : ∀ {n : Nat} {st acc : List Value} {sk acs as rs : List AV}, gl rho st sk → gl rho acc acs → apn n sk acs = some (as, rs) → ∃ av rest, pn n st acc = some (av, rest) ∧ gl rho av as ∧ gl rho rest rs
  | 0, st, acc, sk, acs, as, rs, h1, h2, h => by
    cases h
    exact ⟨acc, st, rfl, h2, h1⟩
  | n + 1, st, acc, [], acs, as, rs, h1, h2, h => by cases h
  | n + 1, st, acc, a :: t, acs, as, rs, h1, h2, h => by
    obtain ⟨v, u, rfl, h3, h4⟩ := gl_1 h1
    exact apn_ok (n := n) (st := u) (acc := v :: acc) (acs := a :: acs) h4 ⟨h3, h2⟩ h
def aks (S : Sto) : List AV → List AB → Bool
  | [], [] => true
  | a :: t, b :: u => abk S a b && aks S t u
  | _, _ => false
theorem aks_ok {r0 rho : List Int} {S : Sto} (hs : gs r0 rho S) : ∀ {vs : List Value} {as : List AV} {bs : List AB}, gl rho vs as → aks S as bs = true → gbs vs bs
  | [], [], [], _, _ => trivial
  | v :: t, a :: u, b :: w, h, hk => ⟨abk_ok hs h.1 (andT hk).1, aks_ok hs h.2 (andT hk).2⟩
  | [], _ :: _, _, h, _ => h.elim
  | _ :: _, [], _, h, _ => h.elim
  | [], [], _ :: _, _, hk => by cases hk
  | _ :: _, _ :: _, [], _, hk => by cases hk
/-- a fact is known: of the place, or by the table -/
def afk (P : Pk) (A : ASt) (f : Fa) : Bool := match cgt A.2.2.2 f.1 f.2.1 f.2.2.1 with
  | some v => abk A.2.2.1 v f.2.2
  | none => cond (Nat.beq f.2.2.1 0 && Nat.ble f.1 167) (decide (f.2.2.2.1 ≤ (rwB (P.2.2 f.1) f.2.1).1) && decide ((rwB (P.2.2 f.1) f.2.1).2 ≤ f.2.2.2.2.1)) false
theorem afk_ok {P : Pk} {av : List Value} {r0 rho : List Int} {M : Mm} {ls : Ls} {st : List Value} {A : ASt} {f : Fa} (hI : Iv P M) (h : gA av r0 rho M ls st A) (hk : afk P A f = true) : gf M f := by
  unfold afk at hk
  cases hc : cgt A.2.2.2 f.1 f.2.1 f.2.2.1 with
  | some v =>
    rw [hc] at hk
    exact abk_ok h.1 (cgt_ok h.2.2.2.2 hc).1 hk
  | none =>
    rw [hc] at hk
    cases hb : (Nat.beq f.2.2.1 0 && Nat.ble f.1 167) with
    | false => rw [hb] at hk; cases hk
    | true =>
      rw [hb] at hk
      obtain ⟨h1, h2⟩ := andT hb
      obtain ⟨h3, h4⟩ := andT hk
      have h1 := Nat.eq_of_beq_eq_true h1
      have h3 := of_decide_eq_true h3
      have h4 := of_decide_eq_true h4
      have hi := hI.2.2.2 f.1 f.2.1 (Nat.le_of_ble_eq_true h2)
      unfold gf
      rw [h1]
      exact ⟨h1, Int.le_trans h3 hi.1, Int.le_trans hi.2 h4⟩
/-- a fact comes to a state -/
def adf (A : ASt) (f : Fa) : ASt := cond (Nat.beq f.2.2.1 2) (A.1, A.2.1, A.2.2.1, (f.1, f.2.1, (2, 0, 0, f.2.2.2.2.2)) :: A.2.2.2) (A.1, A.2.1, A.2.2.1 ++ [(f.2.2.2.1, f.2.2.2.2.1)], (f.1, f.2.1, (f.2.2.1, A.2.2.1.length, 0, [])) :: A.2.2.2)
theorem adf_ok {av : List Value} {r0 : List Int} {M : Mm} {ls : Ls} {st : List Value} {A : ASt} {f : Fa} (h : gX av r0 M ls st A) (hf : gf M f) : gX av r0 M ls st (adf A f) := by
  obtain ⟨rho, h⟩ := h
  unfold adf
  cases hb : Nat.beq f.2.2.1 2 with
  | true =>
    refine ⟨rho, h.1, h.2.1, h.2.2.1, h.2.2.2.1, fun e he => ?_⟩
    rcases List.mem_cons.mp he with z | z
    · subst z
      unfold gf at hf
      have e2 := Nat.eq_of_beq_eq_true hb
      rw [e2] at hf
      exact ⟨rfl, hf.2⟩
    · exact h.2.2.2.2 e z
  | false =>
    unfold gf cvl at hf
    rw [hb] at hf
    cases h1b : Nat.beq f.2.2.1 1 with
    | true =>
      rw [h1b] at hf
      obtain ⟨h1, h2, h3⟩ := hf
      refine ⟨rho ++ [(mL M f.1 f.2.1).toInt], gs_app h.1 h2 h3, r0_app h.2.1, gm_app h.2.2.1, gl_app h.2.2.2.1, fun e he => ?_⟩
      rcases List.mem_cons.mp he with z | z
      · subst z
        show gv _ (cvl M f.1 f.2.1 f.2.2.1) (f.2.2.1, A.2.2.1.length, 0, [])
        unfold cvl
        rw [hb, h1b]
        exact ⟨h1, _, at_end h.1, by show (mL M f.1 f.2.1).toInt = (mL M f.1 f.2.1).toInt + 0; omega⟩
      · exact gC_app h.2.2.2.2 e z
    | false =>
      rw [h1b] at hf
      obtain ⟨h1, h2, h3⟩ := hf
      refine ⟨rho ++ [(mI M f.1 f.2.1).toInt], gs_app h.1 h2 h3, r0_app h.2.1, gm_app h.2.2.1, gl_app h.2.2.2.1, fun e he => ?_⟩
      rcases List.mem_cons.mp he with z | z
      · subst z
        show gv _ (cvl M f.1 f.2.1 f.2.2.1) (f.2.2.1, A.2.2.1.length, 0, [])
        unfold cvl
        rw [hb, h1b]
        exact ⟨h1, _, at_end h.1, by show (mI M f.1 f.2.1).toInt = (mI M f.1 f.2.1).toInt + 0; omega⟩
      · exact gC_app h.2.2.2.2 e z
def afs (A : ASt) : List Fa → ASt
  | [] => A
  | f :: t => afs (adf A f) t
theorem afs_ok {av : List Value} {r0 : List Int} {M : Mm} {ls : Ls} {st : List Value} : ∀ {fs : List Fa} {A : ASt}, gX av r0 M ls st A → (∀ f ∈ fs, gf M f) → gX av r0 M ls st (afs A fs)
  | [], _, h, _ => h
  | f :: t, A, h, hf => afs_ok (fs := t) (adf_ok h (hf f List.mem_cons_self)) (fun x hx => hf x (List.mem_cons_of_mem _ hx))
/-- arguments made narrower -/
def anr (S : Sto) (as : List AV) : List (Nat × Int × Int) → Sto
  | [] => S
  | x :: t => anr (match as[x.1]? with
    | some a => rfn S a (x.2.1, x.2.2)
    | none => S) as t
theorem gl_at {rho : List Int} : ∀ {vs : List Value} {as : List AV} {j : Nat} {a : AV}, gl rho vs as → as[j]? = some a → ∃ v, vs[j]? = some v ∧ gv rho v a
  | [], [], _, _, _, h => by cases h
  | v :: t, b :: u, 0, a, h, ha => by
    cases ha
    exact ⟨v, rfl, h.1⟩
  | v :: t, b :: u, j + 1, a, h, ha => gl_at (vs := t) (as := u) (j := j) h.2 ha
  | [], _ :: _, _, _, h, _ => h.elim
  | _ :: _, [], _, _, h, _ => h.elim
theorem anr_ok {r0 rho : List Int} {vs : List Value} {as : List AV} (hl : gl rho vs as) : ∀ {xs : List (Nat × Int × Int)} {S : Sto}, gs r0 rho S → (∀ x ∈ xs, ∃ y, vs[x.1]? = some (.int y) ∧ x.2.1 ≤ y.toInt ∧ y.toInt ≤ x.2.2) → gs r0 rho (anr S as xs)
  | [], S, h, _ => h
  | x :: t, S, h, hx => by
    unfold anr
    refine anr_ok hl (xs := t) ?_ (fun z hz => hx z (List.mem_cons_of_mem _ hz))
    obtain ⟨y, h1, h2, h3⟩ := hx x List.mem_cons_self
    cases ha : as[x.1]? with
    | none => exact h
    | some a =>
      obtain ⟨v, h4, h5⟩ := gl_at hl ha
      cases h1.symm.trans h4
      exact rfn_ok h h5 h2 h3
def cfm (C : List (Nat × Nat × AV)) (ms : Md3) : List (Nat × Nat × AV) := C.filter (fun e => !(inm ms e.1 e.2.1))
theorem cfm_ok {rho : List Int} {M M' : Mm} {C : List (Nat × Nat × AV)} {ms : Md3} (hk : kp ms M M') (h : gC rho M C) : gC rho M' (cfm C ms) := by
  intro e he
  obtain ⟨h1, h2⟩ := List.mem_filter.mp he
  have h3 : inm ms e.1 e.2.1 = false := by
    cases hq : inm ms e.1 e.2.1 with
    | false => rfl
    | true => rw [hq] at h2; cases h2
  have h4 := h e h1
  unfold cvl at h4 ⊢
  rw [(hk _ _ h3).1, (hk _ _ h3).2.1, (hk _ _ h3).2.2]
  exact h4
/-- an answer comes to the stack -/
def are (A : ASt) (rs : List AV) (r : Option AB) : ASt := match r with
  | none => (A.1, rs, A.2.2)
  | some b => cond (Nat.beq b.1 2) (A.1, (2, 0, 0, b.2.2.2) :: rs, A.2.2) (fsh A b.1 rs b.2.1 b.2.2.1)
theorem are_ok {av : List Value} {r0 rho : List Int} {M : Mm} {ls : Ls} {st rest : List Value} {A : ASt} {rs : List AV} {r : Option Value} {b : Option AB} (h : gA av r0 rho M ls st A) (hl : gl rho rest rs) (hr : gre r b) : gX av r0 M ls (r.toList ++ rest) (are A rs b) := by
  cases b with
  | none =>
    cases r with
    | none => exact ⟨rho, gA_stk h hl⟩
    | some v => exact hr.elim
  | some b =>
    cases r with
    | none => exact hr.elim
    | some v =>
      show gX av r0 M ls (v :: rest) (cond (Nat.beq b.1 2) (A.1, (2, 0, 0, b.2.2.2) :: rs, A.2.2) (fsh A b.1 rs b.2.1 b.2.2.1))
      cases v with
      | int x =>
        have hr : b.1 = 0 ∧ b.2.1 ≤ x.toInt ∧ x.toInt ≤ b.2.2.1 := hr
        rw [show Nat.beq b.1 2 = false by rw [hr.1]; rfl, hr.1]
        exact gA_fresh h hl hr.2.1 hr.2.2
      | long x =>
        have hr : b.1 = 1 ∧ b.2.1 ≤ x.toInt ∧ x.toInt ≤ b.2.2.1 := hr
        rw [show Nat.beq b.1 2 = false by rw [hr.1]; rfl, hr.1]
        exact gA_freshL h hl hr.2.1 hr.2.2
      | ref n =>
        have hr : b.1 = 2 ∧ n ∈ b.2.2.2 := hr
        rw [show Nat.beq b.1 2 = true by rw [hr.1]; rfl]
        exact ⟨rho, gA_stk h ⟨⟨rfl, hr.2⟩, hl⟩⟩
      | _ => exact hr.elim
/-- the stack of a state is left as it is by facts -/
theorem gX_split {av : List Value} {r0 : List Int} {M : Mm} {ls : Ls} {st : List Value} {A : ASt} (h : gX av r0 M ls st A) : ∃ rho, gA av r0 rho M ls st A ∧ gl rho st A.2.1 := by
  obtain ⟨rho, h⟩ := h
  exact ⟨rho, h, h.2.2.2.1⟩
/-- the ways on behind a call -/
def acl (pc : Nat) (A : ASt) (as rs : List AV) (K : Con) : List (Nat × ASt) := K.2.2.flatMap (fun p => on1 (pc + 3) (are (afs (A.1, rs, anr A.2.2.1 as p.2.1, cfm A.2.2.2 K.2.1) p.2.2) (afs (A.1, rs, anr A.2.2.1 as p.2.1, cfm A.2.2.2 K.2.1) p.2.2).2.1 p.1))
def acp (P : Pk) (A : ASt) (as : List AV) (ms : Md3) (K : Con) : Bool := aks A.2.2.1 as K.1.2.1 && (K.1.2.2.all (afk P A) && K.2.1.all (fun m => ina ms m.1 m.2.1 m.2.2))
def aCl (P : Pk) (ms : Md3) (Ks : List Con) (pc mi n : Nat) (A : ASt) : Option (List (Nat × ASt)) := match apn n A.2.1 [] with
  | some (as, rs) => cond (Nat.ble (acs rs) 8) (match Ks.find? (fun K => Nat.beq K.1.1 mi && acp P A as ms K) with
    | some K => some (acl pc A as rs K)
    | none => none) none
  | none => none
section CALL9
variable {l : Launch} {X : Nat × (Nat → Int32)} {U : Nat → Md} {P : Pk} {ms : Md3} {M0 : Mm × Int} {av : List Value} {r0 : List Int} {kr : KR} {A : ASt} {L : List (Nat × ASt)} {pc d : Nat}
theorem acl_ok {M M' : Mm} {ls : Ls} {st rest : List Value} {vs : List Value} {as rs : List AV} {rho : List Int} {K : Con} {r : Option Value} {kn : KN} (hg : gA av r0 rho M ls st A) (ha : gl rho vs as) (hl : gl rho rest rs) (hJ : Jv P ms M0 M) (hsub : ∀ m ∈ K.2.1, ina ms m.1 m.2.1 m.2.2 = true) (hM : Jv P K.2.1 (M, M0.2) M') (hp : gps vs r M' K.2.2) (hn : Nx (Jv P ms M0) av r0 kn (acl pc A as rs K)) : kn (pc + 3) ls (r.toList ++ rest) M' := by
  obtain ⟨p, hp, h1, h2, h3⟩ := hp
  have hJ' : Jv P ms M0 M' := by
    refine ⟨hM.1.trans hJ.1, hM.2.1, fun a k hk => ?_, hM.2.2.2⟩
    have hk2 : inm K.2.1 a k = false := by
      cases hq : inm K.2.1 a k with
      | false => rfl
      | true =>
        obtain ⟨m, hm, h4⟩ := List.any_eq_true.mp hq
        obtain ⟨h4, h5⟩ := andT h4
        obtain ⟨h5, h6⟩ := andT h5
        have h7 := ina_in (hsub m hm) (Nat.le_of_ble_eq_true h5) (Nat.le_of_ble_eq_true h6)
        rw [Nat.eq_of_beq_eq_true h4] at h7
        rw [h7] at hk
        cases hk
    obtain ⟨h4, h5, h8⟩ := hM.2.2.1 a k hk2
    obtain ⟨h6, h7, h9⟩ := hJ.2.2.1 a k hk
    exact ⟨h4.trans h6, h5.trans h7, h8.trans h9⟩
  have g1 : gX av r0 M' ls rest (A.1, rs, anr A.2.2.1 as p.2.1, cfm A.2.2.2 K.2.1) := ⟨rho, anr_ok ha hg.1 h2, hg.2.1, hg.2.2.1, hl, cfm_ok hM.2.2.1 hg.2.2.2.2⟩
  obtain ⟨rho2, g2, g3⟩ := gX_split (afs_ok (fs := p.2.2) g1 h3)
  have g4 := are_ok (r := r) (b := p.1) g2 g3 h1
  exact hn _ (List.mem_flatMap.mpr ⟨p, hp, on1_in (pc := pc + 3) g4⟩) _ _ _ hJ' g4
theorem find_ok {α : Type} {p : α → Bool} {xs : List α} {x : α} (h : xs.find? p = some x) : x ∈ xs ∧ p x = true := ⟨List.mem_of_find?_eq_some h, List.find?_some h⟩
theorem aCl_in {Ks : List Con} {mi n : Nat} {ls : Ls} {st : List Value} {M : Mm} {kn : KN} (hK : ∀ K ∈ Ks, Vc l X U P M0.2 d K) (he : aCl P ms Ks pc mi n A = some L) (hJ : Jv P ms M0 M) (hg : gX av r0 M ls st A) (hn : Nx (Jv P ms M0) av r0 kn L) : ∃ as rs vs rest rho, apn n A.2.1 [] = some (as, rs) ∧ gl rho vs as ∧ pn n st [] = some (vs, rest) ∧ cs rest ≤ 8 ∧ Ev l X (U mi) d true 0 0 vs M (fun r M' => kn (pc + 3) ls (r.toList ++ rest) M') := by
  obtain ⟨rho, hg⟩ := hg
  unfold aCl at he
  split at he
  · rename_i as rs hap
    obtain ⟨h0, he⟩ := condN he
    split at he
    · rename_i K hf
      cases he
      obtain ⟨hm, hp⟩ := find_ok hf
      obtain ⟨h1, h2⟩ := andT hp
      obtain ⟨h2, h3⟩ := andT h2
      obtain ⟨h3, h4⟩ := andT h3
      have e1 := Nat.eq_of_beq_eq_true h1
      obtain ⟨vs, rest, g1, g2, g3⟩ := apn_ok hg.2.2.2.1 (show gl rho [] [] from trivial) hap
      refine ⟨as, rs, vs, rest, rho, hap, g2, g1, by rw [acs_ok g3]; exact Nat.le_of_ble_eq_true h0, ?_⟩
      rw [← e1]
      exact hK K hm vs M _ hJ.2.1 hJ.2.2.2 (aks_ok hg.1 g2 h2) (fun f hfm => afk_ok hJ.2.1 hg (List.all_eq_true.mp h3 f hfm)) (fun r M' hM hps => acl_ok hg g2 g3 hJ (fun m hm => List.all_eq_true.mp h4 m hm) hM hps hn)
    · cases he
  · cases he
/-- a method of one of the known objects: the first argument must be of its class -/
def aCv (P : Pk) (ms : Md3) (Ks : List Con) (pc mi c n : Nat) (A : ASt) : Option (List (Nat × ASt)) := match apn (n + 1) A.2.1 [] with
  | some (a :: _, _) => cond (Nat.beq a.1 2 && a.2.2.2.all (okn P c)) (aCl P ms Ks pc mi (n + 1) A) none
  | _ => none
theorem aCv_ok {Ks : List Con} {mi c n : Nat} (hK : ∀ K ∈ Ks, Vc l X U P M0.2 d K) (he : aCv P ms Ks pc mi c n A = some L) : Sd (Jv P ms M0) av r0 kr (oCv l X d pc (U mi) c n) A L := by
  intro ls st M kn hJ hg hn
  unfold aCv at he
  split at he
  · rename_i a t rs0 hap
    obtain ⟨h0, he⟩ := condN he
    obtain ⟨h1, h2⟩ := andT h0
    obtain ⟨as, rs, vs, rest, rho, g0, g1, g2, g3, g4⟩ := aCl_in hK he hJ hg hn
    rw [hap] at g0
    cases g0
    obtain ⟨k, u, rfl, g5, g6⟩ := gl_r g1 h1
    simp only [oCv, g2, kk_ok hJ.2.1 (List.all_eq_true.mp h2 k g5), Nat.ble_eq_true_of_le g3, Bool.and_self, cond_true]
    exact g4
  · cases he
theorem aCs_ok {Ks : List Con} {mi n : Nat} (hK : ∀ K ∈ Ks, Vc l X U P M0.2 d K) (he : aCl P ms Ks pc mi n A = some L) : Sd (Jv P ms M0) av r0 kr (oCs l X d pc (U mi) n) A L := by
  intro ls st M kn hJ hg hn
  obtain ⟨as, rs, vs, rest, rho, g0, g1, g2, g3, g4⟩ := aCl_in hK he hJ hg hn
  simp only [oCs, g2, Nat.ble_eq_true_of_le g3, cond_true]
  exact g4
/-- a String constant's method -/
def aCq (P : Pk) (ms : Md3) (Ks : List Con) (pc mi n : Nat) (A : ASt) : Option (List (Nat × ASt)) := match apn (n + 1) A.2.1 [] with
  | some (a :: _, _) => cond (Nat.beq a.1 2 && a.2.2.2.all (fun k => Nat.ble 5000 k && Nat.blt k 5042)) (aCl P ms Ks pc mi (n + 1) A) none
  | _ => none
theorem aCq_ok {Ks : List Con} {mi n : Nat} (hK : ∀ K ∈ Ks, Vc l X U P M0.2 d K) (he : aCq P ms Ks pc mi n A = some L) : Sd (Jv P ms M0) av r0 kr (oCq l X d pc (U mi) n) A L := by
  intro ls st M kn hJ hg hn
  unfold aCq at he
  split at he
  · rename_i a t rs0 hap
    obtain ⟨h0, he⟩ := condN he
    obtain ⟨h1, h2⟩ := andT h0
    obtain ⟨as, rs, vs, rest, rho, g0, g1, g2, g3, g4⟩ := aCl_in hK he hJ hg hn
    rw [hap] at g0
    cases g0
    obtain ⟨k, u, rfl, g5, g6⟩ := gl_r g1 h1
    obtain ⟨g7, g8⟩ := andT (List.all_eq_true.mp h2 k g5)
    simp only [oCq, g2, Nat.ble_eq_true_of_le g3, cond_true]
    exact ⟨Nat.le_of_ble_eq_true g7, Nat.le_of_ble_eq_true g8, g4⟩
  · cases he
/-- the reference's own copy of rows -/
def Cpy (l : Launch) (X : Nat × (Nat → Int32)) (d : Nat) (q : Md) : Prop := ∀ (n0 n1 x y z : Nat) (M : Mm) (kr : KR), kk M n0 9 = true → kk M n1 9 = true → n0 ≠ n1 → (x + z ≤ 1000 ∧ y + z ≤ 1000) → (x < 1000 ∧ y < 1000 ∧ z < 1000 ∧ x + z ≤ (mK M n0).2 ∧ y + z ≤ (mK M n1).2) → kr none (wF M n1 (va_cpy (mI M n0) (mI M n1) x y z)) → Ev l X q d true 0 0 [.ref n0, .int (nI x), .ref n1, .int (nI y), .int (nI z)] M kr
theorem aCy_ok {q : Md} (hC : Cpy l X d q) (he : aCp P ms pc A = some L) : Sd (Jv P ms M0) av r0 kr (oCs l X d pc q 5) A L := by
  intro ls st M kn hJ hg hn
  obtain ⟨n0, n1, x, y, z, t, rfl, ⟨h1, h2, h3, h4⟩, h5, h6⟩ := aCp_in he hJ hg hn
  have hp : pn 5 (.int (nI z) :: .int (nI y) :: .ref n1 :: .int (nI x) :: .ref n0 :: t) [] = some ([.ref n0, .int (nI x), .ref n1, .int (nI y), .int (nI z)], t) := rfl
  simp only [oCs, hp, Nat.ble_eq_true_of_le h3, cond_true]
  exact hC n0 n1 x y z M _ h1 h2 h4.1 h4.2 h5 h6
/-! returns -/
def apo (A : ASt) (r : Option AV) (p : Po) : Bool := (match r, p.1 with
  | none, none => true
  | some a, some b => abk A.2.2.1 a b
  | _, _ => false) && (p.2.1.all (fun x => match ag A.1 (1000 + x.1) with
    | some a => abk A.2.2.1 a (0, x.2.1, x.2.2, [])
    | none => false) && p.2.2.all (fun f => match cgt A.2.2.2 f.1 f.2.1 f.2.2.1 with
      | some v => abk A.2.2.1 v f.2.2
      | none => false))
theorem apo_ok {rho : List Int} {M : Mm} {ls : Ls} {st : List Value} {r : Option AV} {v : Option Value} {p : Po} (hg : gA av r0 rho M ls st A) (hv : match v, r with
  | none, none => True
  | some v, some a => gv rho v a
  | _, _ => False) (h : apo A r p = true) : gpo av v M p := by
  obtain ⟨h1, h2⟩ := andT h
  obtain ⟨h2, h3⟩ := andT h2
  refine ⟨?_, fun x hx => ?_, fun f hf => ?_⟩
  · cases r with
    | none =>
      cases v with
      | some v => exact hv.elim
      | none =>
        cases hb : p.1 with
        | none => exact trivial
        | some b => rw [hb] at h1; cases h1
    | some a =>
      cases v with
      | none => exact hv.elim
      | some v =>
        cases hb : p.1 with
        | none => rw [hb] at h1; cases h1
        | some b =>
          rw [hb] at h1
          exact abk_ok hg.1 hv h1
  · have h4 := List.all_eq_true.mp h2 x hx
    cases ha : ag A.1 (1000 + x.1) with
    | none => rw [ha] at h4; cases h4
    | some a =>
      rw [ha] at h4
      obtain ⟨w, h5, h6⟩ := hg.2.2.1 _ (ag_mem ha)
      unfold lz at h5
      rw [show Nat.blt (1000 + x.1) 999 = false from by
        cases hq : Nat.blt (1000 + x.1) 999 with
        | false => rfl
        | true =>
          have : 1000 + x.1 < 999 := Nat.le_of_ble_eq_true hq
          omega] at h5
      have h5 : av[1000 + x.1 - 1000]? = some w := h5
      rw [show 1000 + x.1 - 1000 = x.1 by omega] at h5
      have h7 := abk_ok hg.1 h6 h4
      cases w with
      | int y => exact ⟨y, h5, h7.2⟩
      | long y => have := h7.1; cases this
      | ref y => have := h7.1; cases this
      | _ => exact h7.elim
  · have h4 := List.all_eq_true.mp h3 f hf
    cases hc : cgt A.2.2.2 f.1 f.2.1 f.2.2.1 with
    | none => rw [hc] at h4; cases h4
    | some v =>
      rw [hc] at h4
      exact abk_ok hg.1 (cgt_ok hg.2.2.2.2 hc).1 h4
/-- the method's end: 0 an int, 1 a truth, 2 a long, 3 nothing -/
def aRt (ps : List Po) (t : Nat) (A : ASt) : Option (List (Nat × ASt)) := match t with
  | 3 => match A.2.1 with
    | [] => cond (ps.any (apo A none)) (some []) none
    | _ => none
  | t => match A.2.1 with
    | [a] => cond (Nat.beq a.1 (cond (Nat.beq t 2) 1 0) && ((!(Nat.beq t 1) || abk A.2.2.1 a (0, 0, 1, [])) && ps.any (apo A (some a)))) (some []) none
    | _ => none
theorem aRt_in {ps : List Po} {t : Nat} {ls : Ls} {st : List Value} {M : Mm} (ht : t ≠ 3) (hr : ∀ r M', Jv P ms M0 M' → gps av r M' ps → kr r M') (he : aRt ps t A = some L) (hJ : Jv P ms M0 M) (hg : gX av r0 M ls st A) : ∃ v a rho, st = [v] ∧ gv rho v a ∧ Nat.beq a.1 (cond (Nat.beq t 2) 1 0) = true ∧ (t = 1 → gb v (0, 0, 1, [])) ∧ kr (some v) M := by
  obtain ⟨rho, hg⟩ := hg
  unfold aRt at he
  split at he
  · exact absurd rfl ht
  · split at he
    · rename_i a hs
      obtain ⟨h0, he⟩ := condN he
      obtain ⟨h1, h2⟩ := andT h0
      obtain ⟨h2, h3⟩ := andT h2
      have hl := hg.2.2.2.1
      rw [hs] at hl
      obtain ⟨v, u, rfl, h4, h5⟩ := gl_1 hl
      have hu : u = [] := by
        cases u with
        | nil => rfl
        | cons _ _ => exact h5.elim
      subst hu
      refine ⟨v, a, rho, rfl, h4, h1, fun e => ?_, ?_⟩
      · subst e
        exact abk_ok hg.1 h4 h2
      · obtain ⟨p, hp, h6⟩ := List.any_eq_true.mp h3
        exact hr _ _ hJ ⟨p, hp, apo_ok hg (v := some v) h4 h6⟩
    · cases he
theorem aIr_ok {ps : List Po} (hr : ∀ r M', Jv P ms M0 M' → gps av r M' ps → kr r M') (he : aRt ps 0 A = some L) : Sd (Jv P ms M0) av r0 kr oIr A L := by
  intro ls st M kn hJ hg hn
  obtain ⟨v, a, rho, rfl, h1, h2, -, h3⟩ := aRt_in (by decide) hr he hJ hg
  obtain ⟨x, rfl⟩ := gv_int h1 h2
  exact h3
theorem aZr_ok {ps : List Po} (hr : ∀ r M', Jv P ms M0 M' → gps av r M' ps → kr r M') (he : aRt ps 1 A = some L) : Sd (Jv P ms M0) av r0 kr oZr A L := by
  intro ls st M kn hJ hg hn
  obtain ⟨v, a, rho, rfl, h1, h2, h4, h3⟩ := aRt_in (by decide) hr he hJ hg
  obtain ⟨x, rfl⟩ := gv_int h1 h2
  obtain ⟨-, h5, h6⟩ := h4 rfl
  refine ⟨?_, h3⟩
  have e0 : (0 : Int32).toInt = 0 := rfl
  have e1 : (1 : Int32).toInt = 1 := rfl
  rcases (show x.toInt = 0 ∨ x.toInt = 1 by
    have h5 : (0 : Int) ≤ x.toInt := h5
    have h6 : x.toInt ≤ (1 : Int) := h6
    omega) with q | q
  · exact Or.inl (Int32.toInt_inj.mp (q.trans e0.symm))
  · exact Or.inr (Int32.toInt_inj.mp (q.trans e1.symm))
theorem aLr_ok {ps : List Po} (hr : ∀ r M', Jv P ms M0 M' → gps av r M' ps → kr r M') (he : aRt ps 2 A = some L) : Sd (Jv P ms M0) av r0 kr oLr A L := by
  intro ls st M kn hJ hg hn
  obtain ⟨v, a, rho, rfl, h1, h2, -, h3⟩ := aRt_in (by decide) hr he hJ hg
  obtain ⟨x, rfl⟩ := gv_long h1 h2
  exact h3
theorem aVr_ok {ps : List Po} (hr : ∀ r M', Jv P ms M0 M' → gps av r M' ps → kr r M') (he : aRt ps 3 A = some L) : Sd (Jv P ms M0) av r0 kr oVr A L := by
  intro ls st M kn hJ hg hn
  obtain ⟨rho, hg⟩ := hg
  have he : (match A.2.1 with
    | [] => cond (ps.any (apo A none)) (some []) none
    | _ => none) = some L := he
  split at he
  · rename_i hs
    obtain ⟨h0, he⟩ := condN he
    have hl := hg.2.2.2.1
    rw [hs] at hl
    have hu : st = [] := by
      cases st with
      | nil => rfl
      | cons _ _ => exact hl.elim
    subst hu
    obtain ⟨p, hp, h6⟩ := List.any_eq_true.mp h0
    exact hr _ _ hJ ⟨p, hp, apo_ok hg (v := none) trivial h6⟩
  · cases he
end CALL9
