/-! ALLOCATION: new names. (The row of multianewarray was written after reading what the library's own shelf does there; nothing of the shelf is used.) -/
section ALLOC
variable {l : Launch} {X : Nat × (Nat → Int32)} {q : Md} {d : Nat} {b : Nat × Nat} {pc : Nat}
/-- a value that is no name beyond n -/
def rk (n : Nat) (v : Value) : Bool := match v with
  | .ref a => Nat.ble a n || Nat.ble 4999 a
  | _ => true
theorem iv_rk {ad ad' : Nat → Nat} {n : Nat} (h : ∀ k, k ≤ n ∨ 4999 ≤ k → ad' k = ad k) : ∀ {v : Value}, rk n v = true → iv ad' v = iv ad v := by
  intro v hv
  cases v with
  | ref a =>
    have ha : a ≤ n ∨ 4999 ≤ a := by
      have hv : (Nat.ble a n || Nat.ble 4999 a) = true := hv
      rcases Bool.or_eq_true_iff.mp hv with z | z
      · exact Or.inl (Nat.le_of_ble_eq_true z)
      · exact Or.inr (Nat.le_of_ble_eq_true z)
    cases a with
    | zero => rfl
    | succ k => show Value.ref (ad' (k + 1)) = Value.ref (ad (k + 1)); rw [h _ ha]
  | _ => rfl
theorem ivs_rk {ad ad' : Nat → Nat} {n : Nat} (h : ∀ k, k ≤ n ∨ 4999 ≤ k → ad' k = ad k) {st : List Value} (hs : st.all (rk n) = true) : st.map (iv ad') = st.map (iv ad) :=
  List.map_congr_left fun v hv => iv_rk h (List.all_eq_true.mp hs v hv)
theorem lm_rk {ad ad' : Nat → Nat} {n : Nat} (h : ∀ k, k ≤ n ∨ 4999 ≤ k → ad' k = ad k) {ls : Ls} (hs : ls.all (fun x => rk n x.2) = true) : lm ad' ls = lm ad ls :=
  List.map_congr_left fun v hv => by rw [iv_rk h (List.all_eq_true.mp hs v hv)]
theorem eo_grow {ad ad' : Nat → Nat} {M M' : Mm} {a : Nat} {ts : List Nat} (hO : kO M) (h : ∀ k, k ≤ mN M ∨ 4999 ≤ k → ad' k = ad k) (h1 : mI M' a = mI M a) (h2 : mL M' a = mL M a) (h3 : mR M' a = mR M a) : eo ad' M' a ts = eo ad M a ts := by
  unfold eo
  refine List.map_congr_left fun k _ => ?_
  have e : sv M' a k (ts.getD k 0) = sv M a k (ts.getD k 0) := by unfold sv; rw [h1, h2, h3]
  rw [e]
  refine iv_rk h ?_
  unfold sv
  split
  · rfl
  · rfl
  · exact Bool.or_eq_true_iff.mpr (Or.inl (Nat.ble_eq_true_of_le (hO a k)))
theorem er_grow {ad ad' : Nat → Nat} {M M' : Mm} {a : Nat} (hO : kO M) (h : ∀ k, k ≤ mN M ∨ 4999 ≤ k → ad' k = ad k) (h3 : mR M' a = mR M a) : er ad' M' a = er ad M a := by
  funext i
  unfold er
  rw [h3]
  have := hO a i
  cases hm : mR M a i with
  | zero => rfl
  | succ n => show some (ad' (n + 1)) = some (ad (n + 1)); rw [h _ (Or.inl (by omega))]
theorem en_grow {g : Nat → ClassId} {ad ad' : Nat → Nat} {M M' : Mm} {a : Nat} (hO : kO M) (h : ∀ k, k ≤ mN M ∨ 4999 ≤ k → ad' k = ad k) (h0 : mK M' a = mK M a) (h1 : mI M' a = mI M a) (h2 : mL M' a = mL M a) (h3 : mR M' a = mR M a) : en g ad' M' a = en g ad M a := by
  unfold en
  rw [h0, h1, h2, eo_grow hO h h1 h2 h3, er_grow hO h h3]
/-- old names are as they were -/
def old (M M' : Mm) : Prop := ∀ a, a ≤ mN M → mK M' a = mK M a ∧ mI M' a = mI M a ∧ mL M' a = mL M a ∧ mR M' a = mR M a
theorem wl_grow {g : Nat → ClassId} {ad ad' : Nat → Nat} {M M' : Mm} {k : Nat} (hO : kO M) (h : ∀ k, k ≤ mN M ∨ 4999 ≤ k → ad' k = ad k) (hn : mN M' = mN M + k) (ho : old M M') : wl g ad' M' = wl g ad M ++ (List.range k).map (fun i => (ad' (mN M + 1 + i), en g ad' M' (mN M + 1 + i))) := by
  unfold wl
  rw [hn, List.range_add, List.map_append, List.map_map]
  congr 1
  · refine List.map_congr_left fun i hi => ?_
    have hi := List.mem_range.mp hi
    obtain ⟨z0, z1, z2, z3⟩ := ho (i + 1) (by omega)
    rw [h (i + 1) (Or.inl (by omega)), en_grow hO h z0 z1 z2 z3]
  · refine List.map_congr_left fun i _ => ?_
    show (ad' (mN M + i + 1), en g ad' M' (mN M + i + 1)) = _
    rw [show mN M + i + 1 = mN M + 1 + i by omega]
/-- a step that makes names -/
theorem Wf.alloc {kr : KR} {ls : Ls} {st st' : List Value} {M M' : Mm} {pc' : Nat} (hN : mN M ≤ mN M') (hN4 : mN M' ≤ 4000) (hC : mC M ≤ mC M') (hS : mS M ≤ mS M') (hCb : mC M' ≤ b.1) (hSb : mS M' ≤ b.2) (hkO : kO M → kO M') (hls : ls.all (fun x => rk (mN M) x.2) = true)
    (h : ∀ (p : Program) (e : Env) (R : Room) (s : State) (m : MethodId) (args : Array Value) (below : List Frame) (meth : Method) (c : Code) (H : Heap) (locs : List Loc) (cells slots : Nat) (Q : State → Prop) (D : va_G) (g : Nat → ClassId) (ad : Nat → Nat) (A : Nat → Prop) (la : Array Slot), p.tables.exec = Jvm.exec → c.code = q.2.1 → s.vm.findClass q.1.cls = some m.cls → (∀ w ∈ wB, w.before args s = true) → va_K D vwCl (tz g) s → ao g A s H → kO M → va_P D vwCl (wl g ad M) H → va_D A (wl g ad M) → va_S A s.heap H locs → (∀ a, s.heap.size ≤ a → A a) → cells + (mC M' - mC M) ≤ R.cells → slots + (mS M' - mS M) ≤ R.slots →
      (∀ (ad' : Nat → Nat) (H1 : Heap) (locs1 : List Loc), (∀ k, k ≤ mN M ∨ 4999 ≤ k → ad' k = ad k) → va_P D vwCl (wl g ad' M') H1 → va_D A (wl g ad' M') → va_S A s.heap H1 locs1 → W p l e R s m args below meth c H1 locs1 (cells + (mC M' - mC M)) (slots + (mS M' - mS M)) Q (F0 m pc' la (st'.map (iv ad')))) → W p l e R s m args below meth c H locs cells slots Q (F0 m pc la (st.map (iv ad))))
    (k : Wf l X q d false b pc' ls st' M' kr) : Wf l X q d false b pc ls st M kr := by
  intro p e R s m args below meth c Q D g ad0 A n0 S0 c0 s0 ad H locs la hf g1 g2 g3 g4 g5 g6 g7 g8 hr hl hk
  obtain ⟨r1, r2, r3, r4, r5, r6, r7, r8⟩ := hr
  refine h p e R s m args below meth c H locs (mC M - c0) (mS M - s0) Q D g ad A la hf.1 hf.2.1 hf.2.2.2.2.2.1 hf.2.2.2.2.2.2.2.1 hf.2.2.2.2.2.2.2.2.2.1 (hf.2.2.2.2.2.2.2.2.2.2.2.1.kept r3.2.1) r4 r1 r2 r3 hf.2.2.2.2.2.2.2.2.1 (by omega) (by omega) (fun ad' H1 locs1 ha p1 p2 p3 => ?_)
  have hl' : lv_has la q.2.2.1 (lm ad' ls) := by rw [lm_rk ha hls]; exact hl
  have := k p e R s m args below meth c Q D g ad0 A n0 S0 c0 s0 ad' H1 locs1 la hf g1 g2 g3 g4 (Nat.le_trans g5 hC) (Nat.le_trans g6 hS) hCb hSb ⟨p1, p2, p3, hkO r4, Nat.le_trans r5 hN, hN4, fun n hn => by
    rcases hn with hn | hn
    · rw [ha n (Or.inl (Nat.le_trans hn r5))]; exact r7 n (Or.inl hn)
    · rw [ha n (Or.inr hn)]; exact r7 n (Or.inr hn), fun z => by cases z⟩ hl' hk
  rw [show mC M' - c0 = mC M - c0 + (mC M' - mC M) by omega, show mS M' - s0 = mS M - s0 + (mS M' - mS M) by omega] at this
  exact this
/-- room for n slots, k names; nothing at hand is a new name -/
def ro (b : Nat × Nat) (M : Mm) (ls : Ls) (st : List Value) (k n : Nat) : Bool := Nat.ble (mN M + k) 4000 && (ls.all (fun x => rk (mN M) x.2) && (st.all (rk (mN M)) && (Nat.ble (mC M + k) b.1 && Nat.ble (mS M + n) b.2)))
theorem ro_of {b : Nat × Nat} {M : Mm} {ls : Ls} {st : List Value} {k n : Nat} (h : ro b M ls st k n = true) : mN M + k ≤ 4000 ∧ ls.all (fun x => rk (mN M) x.2) = true ∧ st.all (rk (mN M)) = true ∧ mC M + k ≤ b.1 ∧ mS M + n ≤ b.2 := by
  obtain ⟨h1, h⟩ := Bool.and_eq_true_iff.mp h
  obtain ⟨h2, h⟩ := Bool.and_eq_true_iff.mp h
  obtain ⟨h3, h⟩ := Bool.and_eq_true_iff.mp h
  obtain ⟨h4, h⟩ := Bool.and_eq_true_iff.mp h
  exact ⟨Nat.le_of_ble_eq_true h1, h2, h3, Nat.le_of_ble_eq_true h4, Nat.le_of_ble_eq_true h⟩
theorem wA_N {M : Mm} {k : Nat × Nat} {n : Nat} : mN (wA M k n) = mN M + 1 := rfl
theorem wA_C {M : Mm} {k : Nat × Nat} {n : Nat} : mC (wA M k n) = mC M + 1 := rfl
theorem wA_S {M : Mm} {k : Nat × Nat} {n : Nat} : mS (wA M k n) = mS M + n := rfl
theorem wA_old {M : Mm} {k : Nat × Nat} {n : Nat} : old M (wA M k n) := by
  intro a ha
  have hne : ¬ a = mN M + 1 := by omega
  refine ⟨if_neg hne, funext fun j => if_neg hne, funext fun j => if_neg hne, funext fun j => if_neg hne⟩
theorem wA_kO {M : Mm} {k : Nat × Nat} {n : Nat} (h : kO M) : kO (wA M k n) := by
  intro a i
  show (if a = mN M + 1 then 0 else M.2.2.2 a i) ≤ mN M + 1
  split
  · exact Nat.zero_le _
  · exact Nat.le_succ_of_le (h a i)
theorem wA_K {M : Mm} {k : Nat × Nat} {n : Nat} : mK (wA M k n) (mN M + 1) = k := if_pos rfl
theorem wA_I {M : Mm} {k : Nat × Nat} {n : Nat} : mI (wA M k n) (mN M + 1) = fun _ => 0 := funext fun _ => if_pos rfl
theorem wA_L {M : Mm} {k : Nat × Nat} {n : Nat} : mL (wA M k n) (mN M + 1) = fun _ => 0 := funext fun _ => if_pos rfl
theorem wA_R {M : Mm} {k : Nat × Nat} {n : Nat} : mR (wA M k n) (mN M + 1) = fun _ => 0 := funext fun _ => if_pos rfl
/-- the names and one more -/
def adn (ad : Nat → Nat) (n a : Nat) : Nat → Nat := fun k => if k = n then a else ad k
theorem adn_o {ad : Nat → Nat} {n a : Nat} (hn : n + 1 ≤ 4000) : ∀ k, k ≤ n ∨ 4999 ≤ k → adn ad (n + 1) a k = ad k := fun k hk => if_neg (by omega)
theorem adn_s {ad : Nat → Nat} {n a : Nat} : adn ad n a n = a := if_pos rfl
/-- one new name: the world of the new memory -/
theorem wl_1 {g : Nat → ClassId} {ad : Nat → Nat} {M : Mm} {k : Nat × Nat} {n a : Nat} {en0 : va_E} (hO : kO M) (hn : mN M + 1 ≤ 4000) (he : en g (adn ad (mN M + 1) a) (wA M k n) (mN M + 1) = en0) : wl g (adn ad (mN M + 1) a) (wA M k n) = wl g ad M ++ [(a, en0)] := by
  rw [wl_grow (k := 1) hO (adn_o hn) rfl wA_old]
  show _ ++ [(adn ad (mN M + 1) a (mN M + 1 + 0), en g (adn ad (mN M + 1) a) (wA M k n) (mN M + 1 + 0))] = _
  rw [Nat.add_zero, adn_s, he]
def oNew (b : Nat × Nat) (pc c n : Nat) : OP := fun kn _ ls st M => cond (ro b M ls st 1 n) (kn (pc + 3) ls (.ref (mN M + 1) :: st) (wA M (c, 0) n)) False
/-- a class's fields at the start -/
def z0 (c : Nat) : List Value := (tf c).map (fun t => match t with
  | 0 => .int 0
  | 1 => .long 0
  | _ => .null)
theorem eo_0 {ad : Nat → Nat} {M : Mm} {a c : Nat} (h1 : mI M a = fun _ => 0) (h2 : mL M a = fun _ => 0) (h3 : mR M a = fun _ => 0) : eo ad M a (tf c) = z0 c := by
  apply List.ext_getElem?
  intro i
  unfold eo z0
  rw [List.getElem?_map, List.getElem?_map]
  by_cases hl : i < (tf c).length
  · rw [List.getElem?_range hl, List.getElem?_eq_getElem hl]
    simp only [Option.map_some]
    have e : (tf c).getD i 0 = (tf c)[i] := by simp [List.getD, hl]
    rw [e]
    unfold sv
    rw [h1, h2, h3]
    generalize (tf c)[i] = t
    match t with
    | 0 => rfl
    | 1 => rfl
    | t + 2 => rfl
  · rw [List.getElem?_eq_none (by simp; omega), List.getElem?_eq_none (by omega)]
    rfl
theorem ok_new {c idx : Nat} {Cn : String} {T : u_T} {N : Nat} (ty0 : Nat → FieldType) (hty : ∀ k, k < N → parseFieldDescriptor (T k).2.2.1 = some (ty0 k)) (hc : vwCl[c]? = some (Cn, T, N)) (hin : ∀ w ∈ u_ws Cn T N, w ∈ wB) (h8 : c < 8) (hfs : ∀ j, j < N → defaultValue (ty0 j) = vp_V (z0 c) j) (hw : Cond.classLink q.1.cls idx Cn ∈ wB) (hi : Cond.instantiable Cn N ∈ wB) (hini : Cond.initialized Cn ∈ wB) (hd : decode q.2.1 pc = .ok (.new idx, 3)) : OK l X q d false b pc (oNew b pc c N) := by
  intro kn kr ls st M hk h
  obtain ⟨h0, h⟩ := condT h
  obtain ⟨n1, n2, n3, n4, n5⟩ := ro_of h0
  refine Wf.alloc (M' := wA M (c, 0) N) (by rw [wA_N]; omega) (by rw [wA_N]; omega) (by rw [wA_C]; omega) (by rw [wA_S]; omega) (by rw [wA_C]; omega) (by rw [wA_S]; omega) wA_kO n2 (fun p e R s m args below meth c' H locs cells slots Q D g ad A la hx hb hown hts hK hAO hO hP hD hS hA g1 g2 kx => ?_) (hk _ _ _ _ h)
  have eC : mC (wA M (c, 0) N) - mC M = 1 := by rw [wA_C]; omega
  have eS : mS (wA M (c, 0) N) - mS M = N := by rw [wA_S]; omega
  rw [eC] at g1 kx
  rw [eS] at g2 kx
  refine va_new (ci := c) (fs := z0 c) hx hb hts hin ty0 hty hown (hts _ hw) (hts _ hi) (hts _ hini) hK hP hD hS hA hc hfs g1 g2 hd (fun a H1 p1 d1 s1 => ?_)
  have ew := wl_1 (g := g) (ad := ad) (a := a) (k := (c, 0)) (n := N) hO n1 (en0 := .inr (c, z0 c)) (by rw [en_o (c := c) (by rw [wA_K]) h8, eo_0 wA_I wA_L wA_R])
  have := kx (adn ad (mN M + 1) a) H1 locs (adn_o n1) (by rw [ew]; exact p1) (by rw [ew]; exact d1) s1
  rw [List.map_cons, iv_ref (Nat.succ_pos _), adn_s, ivs_rk (adn_o n1) n3] at this
  exact this
def oNa (b : Nat × Nat) (pc k n : Nat) (v0 : Int32) : OP := fun kn _ ls st M => match st with
  | .int v :: st => cond (ro b M ls st 1 n) (v = v0 ∧ kn (pc + 2) ls (.ref (mN M + 1) :: st) (wA M (k, n) n)) False
  | _ => False
theorem ok_na {at0 : ArrayType} {k n : Nat} {v0 : Int32} {ty : FieldType} {a0 : vp_A} (hty : newarray.typeOf at0 = ty) (hk3 : k = 8 ∧ ty = .byte ∧ a0 = (n, .inl (fun _ => 0)) ∨ k = 9 ∧ ty = .int ∧ a0 = (n, .inl (fun _ => 0)) ∨ k = 10 ∧ ty = .long ∧ a0 = (n, .inr (.inl (fun _ => 0)))) (hv : ¬ v0 < 0 ∧ v0.toNatClampNeg = n ∧ n ≤ 1000) (hw : Cond.arrayClass (newarray.typeOf at0) ∈ wB) (hd : decode q.2.1 pc = .ok (.newarray at0, 2)) : OK l X q d false b pc (oNa b pc k n v0) := by
  intro kn kr ls st M hk h
  simp only [oNa] at h
  split at h
  · rename_i v st
    obtain ⟨h0, ev, hh⟩ := condT h
    subst ev
    obtain ⟨n1, n2, n3, n4, n5⟩ := ro_of h0
    refine Wf.alloc (M' := wA M (k, n) n) (by rw [wA_N]; omega) (by rw [wA_N]; omega) (by rw [wA_C]; omega) (by rw [wA_S]; omega) (by rw [wA_C]; omega) (by rw [wA_S]; omega) wA_kO n2 (fun p e R s m args below meth c' H locs cells slots Q D g ad A la hx hb hown hts hK hAO hO hP hD hS hA g1 g2 kx => ?_) (hk _ _ _ _ hh)
    have eC : mC (wA M (k, n) n) - mC M = 1 := by rw [wA_C]; omega
    have eS : mS (wA M (k, n) n) - mS M = n := by rw [wA_S]; omega
    rw [eC] at g1 kx
    rw [eS] at g2 kx
    have hcb : componentBytes ty ≤ 8 := by rcases hk3 with ⟨-, rfl, -⟩ | ⟨-, rfl, -⟩ | ⟨-, rfl, -⟩ <;> decide
    have hby : n * componentBytes ty ≤ 536870912 := Nat.le_trans (Nat.mul_le_mul hv.2.2 hcb) (by decide)
    refine va_newa (a0 := a0) hx hb (hts _ hw) hty hK hP hD hS hA (fun cA => ?_) hv.1 hv.2.1 hby g1 g2 hd (fun a cA H1 k1 p1 d1 s1 => ?_)
    · rcases hk3 with ⟨-, rfl, rfl⟩ | ⟨-, rfl, rfl⟩ | ⟨-, rfl, rfl⟩
      · exact vp_cell_i cA n _
      · exact vp_cell_i cA n _
      · exact vp_cell_l cA n _
    · have ecA : cA = g k := by
        have z := (k1.2 5 (cA, ty) rfl).2
        rcases hk3 with ⟨rfl, rfl, -⟩ | ⟨rfl, rfl, -⟩ | ⟨rfl, rfl, -⟩
        · exact Option.some.inj (z.symm.trans (hK.2 0 _ rfl).2)
        · exact Option.some.inj (z.symm.trans (hK.2 1 _ rfl).2)
        · exact Option.some.inj (z.symm.trans (hK.2 2 _ rfl).2)
      have ew := wl_1 (g := g) (ad := ad) (a := a) (k := (k, n)) (n := n) hO n1 (en0 := .inl (cA, a0)) (by
        rw [ecA]
        rcases hk3 with ⟨rfl, rfl, rfl⟩ | ⟨rfl, rfl, rfl⟩ | ⟨rfl, rfl, rfl⟩
        · rw [en_b (by rw [wA_K]), wA_K, wA_I]
        · rw [en_i (by rw [wA_K]), wA_K, wA_I]
        · rw [en_j (by rw [wA_K]), wA_K, wA_L])
      have := kx (adn ad (mN M + 1) a) H1 locs (adn_o n1) (by rw [ew]; exact p1) (by rw [ew]; exact d1) s1
      rw [List.map_cons, iv_ref (Nat.succ_pos _), adn_s, ivs_rk (adn_o n1) n3] at this
      exact this
  · exact h.elim
def oNq (b : Nat × Nat) (pc n : Nat) (v0 : Int32) : OP := fun kn _ ls st M => match st with
  | .int v :: st => cond (ro b M ls st 1 n) (v = v0 ∧ kn (pc + 3) ls (.ref (mN M + 1) :: st) (wA M (11, n) n)) False
  | _ => False
theorem ok_nq {idx n : Nat} {v0 : Int32} (hv : ¬ v0 < 0 ∧ v0.toNatClampNeg = n ∧ n ≤ 1000) (hw : Cond.classLink q.1.cls idx RX2 ∈ wB) (hd : decode q.2.1 pc = .ok (.anewarray idx, 3)) : OK l X q d false b pc (oNq b pc n v0) := by
  intro kn kr ls st M hk h
  simp only [oNq] at h
  split at h
  · rename_i v st
    obtain ⟨h0, ev, hh⟩ := condT h
    subst ev
    obtain ⟨n1, n2, n3, n4, n5⟩ := ro_of h0
    refine Wf.alloc (M' := wA M (11, n) n) (by rw [wA_N]; omega) (by rw [wA_N]; omega) (by rw [wA_C]; omega) (by rw [wA_S]; omega) (by rw [wA_C]; omega) (by rw [wA_S]; omega) wA_kO n2 (fun p e R s m args below meth c' H locs cells slots Q D g ad A la hx hb hown hts hK hAO hO hP hD hS hA g1 g2 kx => ?_) (hk _ _ _ _ hh)
    have eC : mC (wA M (11, n) n) - mC M = 1 := by rw [wA_C]; omega
    have eS : mS (wA M (11, n) n) - mS M = n := by rw [wA_S]; omega
    rw [eC] at g1 kx
    rw [eS] at g2 kx
    refine va_newq (C := RX2) hx hb hown (hts _ hw) hAO.1 hK hP hD hS hA hv.1 hv.2.1 (by omega) g1 g2 hd (fun a cA H1 k1 p1 d1 s1 => ?_)
    have ecA : cA = g 11 := by
      obtain ⟨kA, comp, f2, f3, f4, f1⟩ := (k1.2 5 (cA, .object RX2) rfl).2
      obtain ⟨kA', comp', f2', f3', f4', f1'⟩ := (hK.2 3 _ rfl).2
      exact Option.some.inj (f1.symm.trans f1')
    have ew := wl_1 (g := g) (ad := ad) (a := a) (k := (11, n)) (n := n) hO n1 (en0 := .inl (cA, n, .inr (.inr (.inr (.inr (fun _ => none)))))) (by
      have eer : er (adn ad (mN M + 1) a) (wA M (11, n) n) (mN M + 1) = fun _ => none := by
        funext i
        unfold er
        rw [wA_R]
      rw [ecA, en_q (c := 11) (by rw [wA_K]) (by decide), wA_K, eer])
    have := kx (adn ad (mN M + 1) a) H1 locs (adn_o n1) (by rw [ew]; exact p1) (by rw [ew]; exact d1) s1
    rw [List.map_cons, iv_ref (Nat.succ_pos _), adn_s, ivs_rk (adn_o n1) n3] at this
    exact this
  · exact h.elim
end ALLOC
