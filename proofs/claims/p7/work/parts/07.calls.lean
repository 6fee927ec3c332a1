section CALLS
variable {l : Launch} {X : Nat × (Nat → Int32)} {q : Md} {d : Nat} {na : Bool} {b : Nat × Nat} {pc : Nat}
def pn : Nat → List Value → List Value → Option (List Value × List Value)
  | 0, st, acc => some (acc, st)
  | n + 1, st, acc => match st with
    | [] => none
    | v :: t => pn n t (v :: acc)
theorem pn_of : ∀ {n : Nat} {st acc av rest : List Value}, pn n st acc = some (av, rest) → ∃ as : List Value, av = as ++ acc ∧ as.length = n ∧ st = as.reverse ++ rest
  | 0, st, acc, av, rest, h => by
    cases h
    exact ⟨[], rfl, rfl, rfl⟩
  | n + 1, [], acc, av, rest, h => by cases h
  | n + 1, v :: t, acc, av, rest, h => by
    obtain ⟨as, h1, h2, h3⟩ := pn_of (n := n) (st := t) (acc := v :: acc) h
    refine ⟨as ++ [v], ?_, ?_, ?_⟩
    · rw [h1]; simp
    · simp [h2]
    · rw [h3]; simp
theorem pn_0 {n : Nat} {st av rest : List Value} (h : pn n st [] = some (av, rest)) : av.length = n ∧ st = av.reverse ++ rest := by
  obtain ⟨as, h1, h2, h3⟩ := pn_of h
  rw [List.append_nil] at h1
  subst h1
  exact ⟨h2, h3⟩
def cs : List Value → Nat
  | [] => 0
  | v :: t => v.category + cs t
theorem cs_of (ad : Nat → Nat) : ∀ st : List Value, ((st.map (iv ad)).map fun v => v.category).sum = cs st
  | [] => rfl
  | v :: t => by
    rw [List.map_cons, List.map_cons, List.sum_cons, cs_of ad t, iv_cat]
    rfl
theorem wB_good {q' : Md} (h : Cond.code q'.1 q'.2.1 q'.2.2.1 q'.2.2.2 ∈ wB) : GoodIn wB (wz q') := by
  have hb : ∀ w ∈ wB, w ∈ wB ∧ ((w.onTables && w.keeps) = true ∨ ∃ ty, w = .arrayClass ty) := fun w hw => ⟨hw, good_of_word (List.mem_filter.mp hw).2⟩
  intro w hw
  rcases List.mem_cons.mp hw with e | hw
  · rw [e]; exact hb _ h
  · exact hb w hw
theorem pz_pre {D : va_G} {g : Nat → ClassId} {ad : Nat → Nat} {A : Nat → Prop} {av : List Value} {M : Mm} {s : State} {H : Heap} (hP : va_P D vwCl (wl g ad M) H) (hD : va_D A (wl g ad M)) (hA : ∀ a, H.size ≤ a → A a) (hk : kO M) (hn : mN M ≤ 4000) (hs : sx D g ad X A s H) :
    FrameBlind (pz D g ad X A av M) ∧ ∀ U : State, U.heap = H → s.WarmedH U.vm → pz D g ad X A av M (av.map (iv ad)).toArray U := by
  refine ⟨fun a U g' mk z => ?_, fun U hU hW => ⟨rfl, by rw [hU]; exact hP, hD, by rw [hU]; exact hA, hk, hn, by rw [hU]; exact sx_warm hW hs⟩⟩
  obtain ⟨z1, z2, z3, z4, z5, z6, z7⟩ := z
  exact ⟨z1, z2, z3, z4, z5, z6, sx_same rfl z7⟩
/-- a call that makes nothing -/
theorem Wf.call {kr kr' : KR} {ls : Ls} {st rest : List Value} {M : Mm} (hk : ∀ r M', kr' r M' → Wf l X q (d + 1) na b (pc + 3) ls (r.toList ++ rest) M' kr)
    (h : ∀ (p : Program) (e : Env) (R : Room) (s : State) (m : MethodId) (args : Array Value) (below : List Frame) (meth : Method) (c : Code) (H : Heap) (locs : List Loc) (cells slots : Nat) (D : va_G) (g : Nat → ClassId) (ad : Nat → Nat) (A : Nat → Prop) (la : Array Slot), p.tables.exec = Jvm.exec → c.code = q.2.1 → c.maxLocals = q.2.2.1 → la.size = q.2.2.1 → s.vm.findClass q.1.cls = some m.cls → (∀ w ∈ wB, w.before args s = true) → d + 1 ≤ R.frames → 64 * (d + 1) ≤ R.locals → cells + 0 ≤ R.cells ∧ slots + 0 ≤ R.slots → va_K D vwCl (tz g) s → (∀ x ∈ wN, va_Nw (.methodLinkNest x.1 x.2.1 x.2.2 RX6) s) → ks ad A s H → va_P D vwCl (wl g ad M) H → (∀ av, FrameBlind (pz D g ad X A av M) ∧ ∀ U : State, U.heap = H → s.WarmedH U.vm → pz D g ad X A av M (av.map (iv ad)).toArray U) →
      ∃ a0 : Array Value, va_Run p l e R s m args below meth c H locs cells slots 0 0 (F0 m pc la (st.map (iv ad))) (rest.map (iv ad)) (qz D g ad A true M kr' a0) A) :
    Wf l X q (d + 1) na b pc ls st M kr := by
  intro p e R s m args below meth c Q D g ad0 A n0 S0 c0 s0 ad H locs la hf g1 g2 g3 g4 g5 g6 g7 g8 hr hl hk2
  obtain ⟨r1, r2, r3, r4, r5, r6, r7, r8⟩ := hr
  have hs := sx_kept (sx_ad (ad' := ad) (fun n hn => r7 n (Or.inr hn)) hf.2.2.2.2.2.2.2.2.2) r3.1 r3.2.1
  have hA := hf.2.2.2.2.2.2.2.2.1
  obtain ⟨a0, hrun⟩ := h p e R s m args below meth c H locs (mC M - c0) (mS M - s0) D g ad A la hf.1 hf.2.1 hf.2.2.1 hl.1 hf.2.2.2.2.2.1 hf.2.2.2.2.2.2.2.1 g1 g2 (by omega) hs.1 hs.2.1 hs.2.2.2.1 r1 (fun av => pz_pre r1 r2 (fun a ha => hA a (Nat.le_trans r3.1 ha)) r4 r6 hs)
  intro T hT Xs
  obtain ⟨v, st₀, t, T', L, h0, X', hL, e1, e2, hq, stp⟩ := hrun T hT Xs
  obtain ⟨r, M', ad', o1, o2, o3, o4, o5, o6, o7, o8, o9, o10⟩ := hq
  obtain ⟨rfl, hM⟩ := o3 rfl
  have ev : v = r.map (iv ad') := by cases o1; rfl
  subst ev
  have eN : mN M' = mN M := congrArg (fun x => x.1) hM
  have eC : mC M' = mC M := congrArg (fun x => x.2.1) hM
  have eS : mS M' = mS M := congrArg (fun x => x.2.2.1) hM
  have hS' : va_S A s.heap t.heap (locs ++ L) := by
    obtain ⟨z1, z2⟩ := o10
    rw [h0] at z1 z2
    exact ⟨Nat.le_trans r3.1 z1, fun a ha hA' => by rw [z2 a (Nat.lt_of_lt_of_le ha r3.1) hA']; exact r3.2.1 a ha hA', fun x hx => by
      rcases List.mem_append.mp hx with z | z
      · exact r3.2.2 x z
      · exact hL x z⟩
  have hw := hk r M' o2 p e R s m args below meth c Q D g ad0 A n0 S0 c0 s0 ad' t.heap (locs ++ L) la hf g1 g2 g3 g4 (by rw [eC]; exact g5) (by rw [eS]; exact g6) (by rw [eC]; exact g7) (by rw [eS]; exact g8) ⟨o8, o9, hS', o7, by rw [eN]; exact r5, by rw [eN]; exact r6, r7, fun z => ⟨(r8 z).1, hM.trans (r8 z).2⟩⟩ hl hk2
  rw [eC, eS] at hw
  obtain ⟨t2, a1, b1⟩ := hw T' e1 X'
  refine ⟨t2, stp t2 ?_, b1⟩
  have es : (r.toList ++ rest).map (iv ad') = (r.map (iv ad')).toList ++ rest.map (iv ad') := by cases r <;> simp
  rw [es] at a1
  exact a1
/-! the calls -/
def oCv (l : Launch) (X : Nat × (Nat → Int32)) (d pc : Nat) (q' : Md) (c n : Nat) : OP := fun kn _ ls st M => match pn (n + 1) st [] with
  | some (.ref a :: as, rest) => cond (kk M a c && Nat.ble (cs rest) 8) (Ev l X q' d true 0 0 (.ref a :: as) M (fun r M' => kn (pc + 3) ls (r.toList ++ rest) M')) False
  | _ => False
def oCs (l : Launch) (X : Nat × (Nat → Int32)) (d pc : Nat) (q' : Md) (n : Nat) : OP := fun kn _ ls st M => match pn n st [] with
  | some (as, rest) => cond (Nat.ble (cs rest) 8) (Ev l X q' d true 0 0 as M (fun r M' => kn (pc + 3) ls (r.toList ++ rest) M')) False
  | _ => False
theorem ok_cv {q' : Md} {c n idx : Nat} {T : u_T} {N : Nat} (hW : cV q' n) (hc : vwCl[c]? = some (q'.1.cls, T, N)) (h8 : c < 8) (hw : Cond.methodLink q.1.cls idx q'.1 ∈ wB) (hd : decode q.2.1 pc = .ok (.invokevirtual idx, 3)) : OK l X q (d + 1) na b pc (oCv l X d pc q' c n) := by
  intro kn kr ls st M hk h
  simp only [oCv] at h
  split at h
  · rename_i a as rest e0
    obtain ⟨h0, h⟩ := condT h
    obtain ⟨h0, h1⟩ := Bool.and_eq_true_iff.mp h0
    obtain ⟨a0, a1, a2⟩ := kk_of h0
    have h1 := Nat.le_of_ble_eq_true h1
    obtain ⟨n1, n2⟩ := pn_0 e0
    refine Wf.call (rest := rest) (kr' := fun r M' => kn (pc + 3) ls (r.toList ++ rest) M') (fun r M' z => hk _ _ _ _ z) (fun p e R s m args below meth c' H locs cells slots D g ad A la hx hb hml hla hown hts g1 g2 g3 hK hN hks hP hp => ?_)
    have he := wl_at (g := g) (ad := ad) a0 a1
    rw [en_o a2 h8] at he
    have hR : (rz d 0 0).frames + 1 ≤ R.frames ∧ 8 + (q'.2.2.1 + 11) + (rz d 0 0).locals ≤ R.locals := ⟨g1, by have := hW.1.2.2.2; show 8 + (q'.2.2.1 + 11) + 64 * d ≤ _; omega⟩
    refine ⟨_, va_runV (As := as.map (iv ad)) (rest := rest.map (iv ad)) (b := ad a) (C := q'.1.cls) ⟨hx, hb, hml, hown, hts⟩ (h D g ad A) ⟨callB_of n hts (wB_good hW.1.1) rfl rfl rfl (hts _ hW.1.2.1) (hts _ hw) hW.1.2.2.1 hR, hts _ hW.2.1, hts _ hW.2.2⟩ ⟨(hp _).1, va_recv hK hP hc he, fun U hU hW' => ?_⟩ rfl (by rw [List.length_map]; simpa using n1) hla ?_ (lv_room (by rw [cs_of]; exact h1)) hd g3⟩
    · have := (hp (.ref a :: as)).2 U hU hW'
      rw [List.map_cons, iv_ref a0] at this
      exact this
    · show st.map (iv ad) = _
      rw [n2, ← iv_ref a0]
      simp
  · exact h.elim
theorem ok_cs {q' : Md} {n idx : Nat} (hW : cT q' n) (hw : Cond.methodLink q.1.cls idx q'.1 ∈ wB) (hd : decode q.2.1 pc = .ok (.invokestatic idx, 3)) : OK l X q (d + 1) na b pc (oCs l X d pc q' n) := by
  intro kn kr ls st M hk h
  simp only [oCs] at h
  split at h
  · rename_i as rest e0
    obtain ⟨h1, h⟩ := condT h
    have h1 := Nat.le_of_ble_eq_true h1
    obtain ⟨n1, n2⟩ := pn_0 e0
    refine Wf.call (rest := rest) (kr' := fun r M' => kn (pc + 3) ls (r.toList ++ rest) M') (fun r M' z => hk _ _ _ _ z) (fun p e R s m args below meth c' H locs cells slots D g ad A la hx hb hml hla hown hts g1 g2 g3 hK hN hks hP hp => ?_)
    have hR : (rz d 0 0).frames + 1 ≤ R.frames ∧ 8 + (q'.2.2.1 + 11) + (rz d 0 0).locals ≤ R.locals := ⟨g1, by have := hW.1.2.2.2; show 8 + (q'.2.2.1 + 11) + 64 * d ≤ _; omega⟩
    refine ⟨_, va_runS (As := as.map (iv ad)) (rest := rest.map (iv ad)) ⟨hx, hb, hml, hown, hts⟩ (h D g ad A) ⟨callB_of n hts (wB_good hW.1.1) rfl rfl rfl (hts _ hW.1.2.1) (hts _ hw) hW.1.2.2.1 hR, hts _ hW.2⟩ (hp _) rfl (by rw [List.length_map]; exact n1) hla ?_ (lv_room (by rw [cs_of]; exact h1)) hd g3⟩
    show st.map (iv ad) = _
    rw [n2]
    simp
  · exact h.elim
/-- a nest mate's static method -/
theorem ok_csN {q' : Md} {n idx : Nat} (hW : cT q' n) (hw : (q.1.cls, idx, q'.1) ∈ wN) (hd : decode q.2.1 pc = .ok (.invokestatic idx, 3)) : OK l X q (d + 1) na b pc (oCs l X d pc q' n) := by
  intro kn kr ls st M hk h
  simp only [oCs] at h
  split at h
  · rename_i as rest e0
    obtain ⟨h1, h⟩ := condT h
    have h1 := Nat.le_of_ble_eq_true h1
    obtain ⟨n1, n2⟩ := pn_0 e0
    refine Wf.call (rest := rest) (kr' := fun r M' => kn (pc + 3) ls (r.toList ++ rest) M') (fun r M' z => hk _ _ _ _ z) (fun p e R s m args below meth c' H locs cells slots D g ad A la hx hb hml hla hown hts g1 g2 g3 hK hN hks hP hp => ?_)
    have hR : (rz d 0 0).frames + 1 ≤ R.frames ∧ 8 + (q'.2.2.1 + 11) + (rz d 0 0).locals ≤ R.locals := ⟨g1, by have := hW.1.2.2.2; show 8 + (q'.2.2.1 + 11) + 64 * d ≤ _; omega⟩
    refine ⟨_, va_runSN (As := as.map (iv ad)) (rest := rest.map (iv ad)) ⟨hx, hb, hml, hown, hts⟩ (h D g ad A) ⟨va_cnB n hts (wB_good hW.1.1) rfl rfl rfl (hN _ hw) (hts _ hW.1.2.1) hW.1.2.2.1 hR, hts _ hW.2, trivial⟩ (hp _) rfl (by rw [List.length_map]; exact n1) hla ?_ (lv_room (by rw [cs_of]; exact h1)) hd g3⟩
    show st.map (iv ad) = _
    rw [n2]
    simp
  · exact h.elim
/-- a String constant's method -/
def oCq (l : Launch) (X : Nat × (Nat → Int32)) (d pc : Nat) (q' : Md) (n : Nat) : OP := fun kn _ ls st M => match pn (n + 1) st [] with
  | some (.ref a :: as, rest) => cond (Nat.ble (cs rest) 8) (5000 ≤ a ∧ a < 5042 ∧ Ev l X q' d true 0 0 (.ref a :: as) M (fun r M' => kn (pc + 3) ls (r.toList ++ rest) M')) False
  | _ => False
theorem ok_cq {q' : Md} {n idx : Nat} (hW : cV q' n) (hcl : q'.1.cls = "java/lang/String") (hw : Cond.methodLink q.1.cls idx q'.1 ∈ wB) (hd : decode q.2.1 pc = .ok (.invokevirtual idx, 3)) : OK l X q (d + 1) na b pc (oCq l X d pc q' n) := by
  intro kn kr ls st M hk h
  simp only [oCq] at h
  split at h
  · rename_i a as rest e0
    obtain ⟨h1, b1, b2, h⟩ := condT h
    obtain ⟨a', ha⟩ : ∃ z : Nat, z = a := ⟨a, rfl⟩
    subst ha
    have a1 : 5000 ≤ a' := b1
    have a2 : a' < 5042 := b2
    have h1 := Nat.le_of_ble_eq_true h1
    have a0 : 0 < a' := by omega
    obtain ⟨n1, n2⟩ := pn_0 e0
    refine Wf.call (rest := rest) (kr' := fun r M' => kn (pc + 3) ls (r.toList ++ rest) M') (fun r M' z => hk _ _ _ _ z) (fun p e R s m args below meth c' H locs cells slots D g ad A la hx hb hml hla hown hts g1 g2 g3 hK hN hks hP hp => ?_)
    have hR : (rz d 0 0).frames + 1 ≤ R.frames ∧ 8 + (q'.2.2.1 + 11) + (rz d 0 0).locals ≤ R.locals := ⟨g1, by have := hW.1.2.2.2; show 8 + (q'.2.2.1 + 11) + 64 * d ≤ _; omega⟩
    obtain ⟨cell, c1, c2, c3, -⟩ := (hks (a' - 5000) (by omega)).1
    rw [show 5000 + (a' - 5000) = a' by omega] at c1
    refine ⟨_, va_runV (As := as.map (iv ad)) (rest := rest.map (iv ad)) (b := ad a') (C := q'.1.cls) ⟨hx, hb, hml, hown, hts⟩ (h D g ad A) ⟨callB_of n hts (wB_good hW.1.1) rfl rfl rfl (hts _ hW.1.2.1) (hts _ hw) hW.1.2.2.1 hR, hts _ hW.2.1, hts _ hW.2.2⟩ ⟨(hp _).1, ⟨cell, c1, c2, by rw [hcl]; exact c3⟩, fun U hU hW' => ?_⟩ rfl (by rw [List.length_map]; simpa using n1) hla ?_ (lv_room (by rw [cs_of]; exact h1)) hd g3⟩
    · have := (hp (.ref a' :: as)).2 U hU hW'
      rw [List.map_cons, iv_ref a0] at this
      exact this
    · show st.map (iv ad) = _
      rw [n2, ← iv_ref a0]
      simp
  · exact h.elim
end CALLS
