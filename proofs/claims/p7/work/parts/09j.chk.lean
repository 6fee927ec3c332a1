section OFF
variable {l : Launch} {X : Nat × (Nat → Int32)} {q : Md} {d : Nat} {na : Bool} {pc : Nat}
/-- a method of the JDK -/
theorem Ev.ofF {mc ms : Nat} {av : List Value} {M : Mm} {kr : KR} (hp : plainFor q.1 = true) (hlen : (lg_sl av).length ≤ q.2.2.1) (h : Wf l X q d na (mC M + mc, mS M + ms) 0 (lv_args 0 av) [] M kr) : Ev l X q d na mc ms av M kr := by
  intro D g ad A
  refine va_MetF (cc := q.2.1) (maxL := q.2.2.1) (ret := q.2.2.2) hp rfl ?_
  intro p e s m args below meth c s₁ B hml hv
  obtain ⟨rfl, hP, hD, hA, hk, hn, hs⟩ := hv
  have hlocks := B.notSynchronized
  have hts := atoms_spec (ws := wz q) B.pre
  have hf : fx X q p s m (av.map (iv ad)).toArray meth c D g ad A := ⟨B.exec, B.bytes, hml, B.returns, hlocks, findClass_of_methodNamed B.named, (name_of_methodNamed B.named B.method).1, fun w hw => hts w (List.mem_cons_of_mem _ hw), hA, hs⟩
  have hl := lv_entry (av.map (iv ad)) (n := q.2.2.1) (by rw [sl_len]; exact hlen)
  rw [lg_entry_eq]
  rw [lv_args_iv] at hl
  generalize (lg_sl (av.map (iv ad)) ++ List.replicate (q.2.2.1 - (lg_sl (av.map (iv ad))).length) Slot.unset).toArray = la at hl ⊢
  have hW := h p e (headSpec (wz q) (rz d mc ms)).room s m (av.map (iv ad)).toArray below meth c (MQ below (qz D g ad A na M kr) (av.map (iv ad)).toArray s mc ms A) D g ad A (mN M) M.1 (mC M) (mS M) ad s.heap [] la hf (Nat.le_refl d) (Nat.le_refl _) (Nat.le_of_eq (Nat.add_comm _ _)) (Nat.le_of_eq (Nat.add_comm _ _)) (Nat.le_refl _) (Nat.le_refl _) (Nat.le_add_right _ _) (Nat.le_add_right _ _) ⟨hP, hD, va_S.rf, hk, Nat.le_refl _, hn, fun _ _ => rfl, fun _ => ⟨rfl, rfl⟩⟩ hl ?_
  · rw [Nat.sub_self, Nat.sub_self] at hW
    exact hW
  · intro pc' r M' ad' H' locs' la' hkr hr h1 h2 h3 h4 ht
    obtain ⟨r1, r2, r3, r4, r5, r6, r7, r8⟩ := hr
    have hq : ∀ t : State, t.heap = H' → s.WarmedH t.vm → qz D g ad A na M kr (av.map (iv ad)).toArray s (.returned (r.map (iv ad'))) t := fun t e1 _ => ⟨r, M', ad', rfl, hkr, r8, r7, r5, r6, r4, by rw [e1]; exact r1, r2, r3.F e1⟩
    have w3 : mC M' ≤ mC M + mc := h3
    have w4 : mS M' ≤ mS M + ms := h4
    refine W.widen (k := mc) (n := ms) (by omega) (by omega) ?_
    rcases ht with ⟨v, ty, rfl, e1, e2, e3⟩ | ⟨v, rfl, e1, e3⟩ | ⟨rfl, e1, e3⟩
    · exact W.zret B.exec B.bytes (B.returns.trans e1) e2 hq r3.2.2 e3 hlocks
    · exact W.lret B.exec B.bytes (B.returns.trans e1) hq r3.2.2 e3 hlocks
    · exact W.vret B.exec B.bytes (B.returns.trans e1) hq r3.2.2 e3 hlocks
end OFF
/-! a method's check -/
def eav (b : AB) (s : Nat) : AV := cond (Nat.beq b.1 2) (2, 0, 0, b.2.2.2) (b.1, s, 0, [])
def entL : List AB → Nat → Nat → List (Nat × AV)
  | [], _, _ => []
  | b :: t, i, j => (i, eav b (j + 1)) :: (1000 + j, eav b (j + 1)) :: entL t (i + cond (Nat.beq b.1 1) 2 1) (j + 1)
def entS (bs : List AB) : Sto := (0, 0) :: bs.map (fun b => cond (Nat.beq b.1 2) (0, 0) (b.2.1, b.2.2.1))
def slb : List AB → Nat
  | [] => 0
  | b :: t => cond (Nat.beq b.1 1) 2 1 + slb t
theorem eav_ok {rho : List Int} {v : Value} {b : AB} {s : Nat} (h : gb v b) (hr : rho[s]? = some (vN v)) : gv rho v (eav b s) := by
  unfold eav
  cases v with
  | int x =>
    have h1 := h.1
    rw [h1]
    exact ⟨rfl, _, hr, by show x.toInt = x.toInt + 0; omega⟩
  | long x =>
    have h1 := h.1
    rw [h1]
    exact ⟨rfl, _, hr, by show x.toInt = x.toInt + 0; omega⟩
  | ref n =>
    have h1 := h.1
    rw [h1]
    exact ⟨rfl, h.2⟩
  | _ => exact h.elim
theorem gb_cat {v : Value} {b : AB} (h : gb v b) : v.category = cond (Nat.beq b.1 1) 2 1 := by
  cases v with
  | int x => have h1 := h.1; rw [h1]; rfl
  | long x => have h1 := h.1; rw [h1]; rfl
  | ref n => have h1 := h.1; rw [h1]; rfl
  | _ => exact h.elim
theorem lg_args_ge : ∀ {vs : List Value} {i k : Nat} {w : Value}, lg (lv_args i vs) k = some w → i ≤ k
  | [], i, k, w, h => by cases h
  | v :: t, i, k, w, h => by
    have h : cond (Nat.beq i k) (some v) (lg (lv_args (if v.category = 2 then i + 2 else i + 1) t) k) = some w := h
    cases hb : Nat.beq i k with
    | true => exact Nat.le_of_eq (Nat.eq_of_beq_eq_true hb)
    | false =>
      rw [hb] at h
      have := lg_args_ge (vs := t) h
      split at this <;> omega
theorem ent_ok {av : List Value} {rho : List Int} {ls : Ls} : ∀ {bs : List AB} {vs : List Value} {i j : Nat}, gbs vs bs → i + slb bs ≤ 900 → (∀ k, av[j + k]? = vs[k]?) → (∀ k v, vs[k]? = some v → rho[j + 1 + k]? = some (vN v)) → (∀ k w, lg (lv_args i vs) k = some w → lg ls k = some w) → gm av rho ls (entL bs i j)
  | [], [], _, _, _, _, _, _, _ => fun x hx => absurd hx List.not_mem_nil
  | [], _ :: _, _, _, h, _, _, _, _ => h.elim
  | _ :: _, [], _, _, h, _, _, _, _ => h.elim
  | b :: bs, v :: vs, i, j, h, hl, ha, hr, hs => by
    have hl : i + (cond (Nat.beq b.1 1) 2 1 + slb bs) ≤ 900 := hl
    have hc := gb_cat h.1
    have hrv := hr 0 v rfl
    have hgv := eav_ok (s := j + 1) h.1 hrv
    intro x hx
    rcases List.mem_cons.mp hx with e | hx
    · subst e
      refine ⟨v, ?_, hgv⟩
      unfold lz
      rw [show Nat.blt i 999 = true from Nat.ble_eq_true_of_le (by omega)]
      refine hs i v ?_
      show cond (Nat.beq i i) (some v) _ = some v
      rw [beq_self]
      rfl
    · rcases List.mem_cons.mp hx with e | hx
      · subst e
        refine ⟨v, ?_, hgv⟩
        unfold lz
        rw [show Nat.blt (1000 + j) 999 = false from by
          cases hq : Nat.blt (1000 + j) 999 with
          | false => rfl
          | true =>
            have : 1000 + j < 999 := Nat.le_of_ble_eq_true hq
            omega]
        show av[1000 + j - 1000]? = some v
        rw [show 1000 + j - 1000 = j + 0 by omega, ha 0]
        rfl
      · refine ent_ok (bs := bs) (vs := vs) h.2 (by omega) (fun k => ?_) (fun k w hk => ?_) (fun k w hk => ?_) x hx
        · rw [show j + 1 + k = j + (k + 1) by omega, ha (k + 1)]
          rfl
        · rw [show j + 1 + 1 + k = j + 1 + (k + 1) by omega]
          exact hr (k + 1) w hk
        · refine hs k w ?_
          have hge := lg_args_ge hk
          have e0 : (if v.category = 2 then i + 2 else i + 1) = i + cond (Nat.beq b.1 1) 2 1 := by
            rw [hc]
            cases Nat.beq b.1 1 <;> rfl
          show cond (Nat.beq i k) (some v) (lg (lv_args (if v.category = 2 then i + 2 else i + 1) vs) k) = some w
          rw [e0, show Nat.beq i k = false from by
            cases hq : Nat.beq i k with
            | false => rfl
            | true =>
              have := Nat.eq_of_beq_eq_true hq
              cases hz : Nat.beq b.1 1 <;> rw [hz] at hge <;> simp at hge <;> omega]
          exact hk
theorem slb_ok : ∀ {vs : List Value} {bs : List AB}, gbs vs bs → (lg_sl vs).length = slb bs
  | [], [], _ => rfl
  | [], _ :: _, h => h.elim
  | _ :: _, [], h => h.elim
  | v :: t, b :: u, h => by
    have ih := slb_ok h.2
    have hc := gb_cat h.1
    show (((if v.category = 2 then [Slot.val v, Slot.second] else [Slot.val v])) ++ lg_sl t).length = cond (Nat.beq b.1 1) 2 1 + slb u
    rw [List.length_append, ih, hc]
    cases Nat.beq b.1 1 <;> rfl
def lkc : List (Nat × Cd) → Nat → Option Cd
  | [], _ => none
  | x :: t, pc => cond (Nat.beq x.1 pc) (some x.2) (lkc t pc)
def ctb (l : Launch) (X : Nat × (Nat → Int32)) (d : Nat) (U : Nat → Md) (cd : List (Nat × Cd)) : List (Nat × OP) := cd.map (fun x => (x.1, cop l X d U x.1 x.2))
theorem lo_ctb {l : Launch} {X : Nat × (Nat → Int32)} {d : Nat} {U : Nat → Md} {pc : Nat} {c : Cd} : ∀ {cd : List (Nat × Cd)}, lkc cd pc = some c → lo (ctb l X d U cd) pc = cop l X d U pc c
  | [], h => by cases h
  | x :: t, h => by
    unfold lkc at h
    show cond (Nat.beq x.1 pc) (cop l X d U x.1 x.2) (lo (ctb l X d U t) pc) = _
    cases hb : Nat.beq x.1 pc with
    | true =>
      rw [hb] at h
      have e1 := Nat.eq_of_beq_eq_true hb
      have e2 : x.2 = c := Option.some.inj h
      rw [e1, e2]
      rfl
    | false =>
      rw [hb] at h
      exact lo_ctb h
def stpc (P : Pk) (ms : Md3) (ps : List Po) (Ks : List Con) (cy : Nat) (cd : List (Nat × Cd)) (pc : Nat) (A : ASt) : Option (List (Nat × ASt)) := match lkc cd pc with
  | some c => astep P ms ps Ks cy pc c A
  | none => none
def ent (K : Con) : ASt := afs (entL K.1.2.1 0 0, [], entS K.1.2.1, []) K.1.2.2
def chk (P : Pk) (Ks : List Con) (cy : Nat) (cd : List (Nat × Cd)) (nl fuel : Nat) (K : Con) (Hs : List Hd) : Bool := Nat.ble (slb K.1.2.1) nl && (Nat.ble (slb K.1.2.1) 900 && (run (stpc P K.2.1 K.2.2 Ks cy cd) (hsp Hs none []) fuel 0 (ent K) && Hs.all (hrun (stpc P K.2.1 K.2.2 Ks cy cd) Hs fuel)))
section CHK
variable {l : Launch} {X : Nat × (Nat → Int32)} {U : Nat → Md} {P : Pk} {Ks : List Con} {cy : Nat} {cd : List (Nat × Cd)} {nl fuel dd d : Nat} {K : Con} {Hs : List Hd} {e : Int}
theorem stpc_ok {ms : Md3} {ps : List Po} {M0 : Mm × Int} {av : List Value} {kr : KR} (hK : ∀ K ∈ Ks, Vc l X U P M0.2 d K) (hC : Cpy l X d (U cy)) (hr : ∀ r M', Jv P ms M0 M' → gps av r M' ps → kr r M') (r0 : List Int) (pc : Nat) (A : ASt) (L : List (Nat × ASt)) (he : stpc P ms ps Ks cy cd pc A = some L) : Sd (Jv P ms M0) av r0 kr (lo (ctb l X d U cd) pc) A L := by
  unfold stpc at he
  cases hc : lkc cd pc with
  | none => rw [hc] at he; cases he
  | some c =>
    rw [hc] at he
    rw [lo_ctb hc]
    exact astep_ok hK hC hr he
theorem ent_in {av : List Value} {M : Mm} (hs : slb K.1.2.1 ≤ 900) (hb : gbs av K.1.2.1) (hf : ∀ f ∈ K.1.2.2, gf M f) : gX av [] M (lv_args 0 av) [] (ent K) := by
  refine afs_ok ?_ hf
  refine ⟨0 :: av.map vN, ⟨⟨?_, 0 :: av.map vN, rfl⟩, ?_⟩, rfl, ?_, trivial, fun e he => absurd he List.not_mem_nil⟩
  · have : ∀ {vs : List Value} {bs : List AB}, gbs vs bs → vs.length = bs.length := by
      intro vs
      induction vs with
      | nil => intro bs h; cases bs with
        | nil => rfl
        | cons _ _ => exact h.elim
      | cons v t ih => intro bs h; cases bs with
        | nil => exact h.elim
        | cons b u => show t.length + 1 = u.length + 1; rw [ih h.2]
    show (0 :: av.map vN).length = ((0, 0) :: K.1.2.1.map _).length
    simp [this hb]
  · intro k b hk
    cases k with
    | zero => cases hk; exact ⟨0, rfl, Int.le_refl _, Int.le_refl _⟩
    | succ k =>
      have hk : (K.1.2.1.map (fun b => cond (Nat.beq b.1 2) ((0 : Int), (0 : Int)) (b.2.1, b.2.2.1)))[k]? = some b := hk
      show ∃ e, (av.map vN)[k]? = some e ∧ _
      have key : ∀ {vs : List Value} {bs : List AB} {k : Nat}, gbs vs bs → (bs.map (fun b => cond (Nat.beq b.1 2) ((0 : Int), (0 : Int)) (b.2.1, b.2.2.1)))[k]? = some b → ∃ e, (vs.map vN)[k]? = some e ∧ b.1 ≤ e ∧ e ≤ b.2 := by
        intro vs
        induction vs with
        | nil => intro bs k h hk; cases bs with
          | nil => cases hk
          | cons _ _ => exact h.elim
        | cons v t ih => intro bs k h hk; cases bs with
          | nil => exact h.elim
          | cons c u =>
            cases k with
            | succ k => exact ih h.2 hk
            | zero =>
              have hk : some (cond (Nat.beq c.1 2) ((0 : Int), (0 : Int)) (c.2.1, c.2.2.1)) = some b := hk
              have hk := Option.some.inj hk
              refine ⟨vN v, rfl, ?_⟩
              have h1 := h.1
              cases v with
              | int x => rw [show Nat.beq c.1 2 = false by rw [h1.1]; rfl] at hk; rw [← hk]; exact h1.2
              | long x => rw [show Nat.beq c.1 2 = false by rw [h1.1]; rfl] at hk; rw [← hk]; exact h1.2
              | ref n => rw [show Nat.beq c.1 2 = true by rw [h1.1]; rfl] at hk; rw [← hk]; exact ⟨Int.le_refl _, Int.le_refl _⟩
              | _ => exact h1.elim
      exact key hb hk
  · refine ent_ok hb (by omega) (fun k => by rw [Nat.zero_add]) (fun k v hk => ?_) (fun k w hk => hk)
    rw [show 0 + 1 + k = k + 1 by omega]
    show (av.map vN)[k]? = some (vN v)
    rw [List.getElem?_map, hk]
    rfl
theorem ck_wf {na : Bool} {b : Nat × Nat} (ht : ∀ x ∈ ctb l X d U cd, OK l X (U K.1.1) dd na b x.1 x.2) (hK : ∀ K ∈ Ks, Vc l X U P e d K) (hC : Cpy l X d (U cy)) (h : chk P Ks cy cd nl fuel K Hs = true) {av : List Value} {M : Mm} {kr : KR} (hI : Iv P M) (he : eO e M) (hb : gbs av K.1.2.1) (hf : ∀ f ∈ K.1.2.2, gf M f) (hr : ∀ r M', Jv P K.2.1 (M, e) M' → gps av r M' K.2.2 → kr r M') : slb K.1.2.1 ≤ nl ∧ Wf l X (U K.1.1) dd na b 0 (lv_args 0 av) [] M kr := by
  obtain ⟨h1, h2⟩ := andT h
  obtain ⟨h2, h3⟩ := andT h2
  obtain ⟨h3, h4⟩ := andT h3
  exact ⟨Nat.le_of_ble_eq_true h1, from_ok ht (stpc_ok (M0 := (M, e)) hK hC hr) (fun x hx => List.all_eq_true.mp h4 x hx) h3 (Jv.rf hI he) (ent_in (Nat.le_of_ble_eq_true h2) hb hf)⟩
theorem ck (hp : plainName (U K.1.1).1.cls = true) (hq : (U K.1.1).2.2.1 = nl) (ht : ∀ (na : Bool) (b : Nat × Nat), ∀ x ∈ ctb l X d U cd, OK l X (U K.1.1) dd na b x.1 x.2) (hK : ∀ K ∈ Ks, Vc l X U P e d K) (hC : Cpy l X d (U cy)) (h : chk P Ks cy cd nl fuel K Hs = true) : Vc l X U P e dd K := by
  intro av M kr hI he hb hf hr
  obtain ⟨h1, h2⟩ := ck_wf (ht true (mC M + 0, mS M + 0)) hK hC h hI he hb hf hr
  exact Ev.of hp (by rw [slb_ok hb, hq]; exact h1) h2
theorem ckF (hp : plainFor (U K.1.1).1 = true) (hq : (U K.1.1).2.2.1 = nl) (ht : ∀ (na : Bool) (b : Nat × Nat), ∀ x ∈ ctb l X d U cd, OK l X (U K.1.1) dd na b x.1 x.2) (hK : ∀ K ∈ Ks, Vc l X U P e d K) (hC : Cpy l X d (U cy)) (h : chk P Ks cy cd nl fuel K Hs = true) : Vc l X U P e dd K := by
  intro av M kr hI he hb hf hr
  obtain ⟨h1, h2⟩ := ck_wf (ht true (mC M + 0, mS M + 0)) hK hC h hI he hb hf hr
  exact Ev.ofF hp (by rw [slb_ok hb, hq]; exact h1) h2
end CHK
