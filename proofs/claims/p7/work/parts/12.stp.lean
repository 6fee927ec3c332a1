/-! steps by hand over a memory of which little is known: a row an operation -/
section STP
variable {l : Launch} {X : Nat × (Nat → Int32)} {q : Md} {d : Nat} {na : Bool} {b : Nat × Nat} {tb : List (Nat × OP)} {kr : KR} {pc : Nat} {ls : Ls} {st : List Value} {M : Mm}
theorem Wf.stp1 (ht : ∀ x ∈ tb, OK l X q d na b x.1 x.2) {o : OP} (ho : lo tb pc = o) (h : o (fun pc' ls' st' M' => Wf l X q d na b pc' ls' st' M' kr) kr ls st M) : Wf l X q d na b pc ls st M kr :=
  lo_ok ht pc _ kr ls st M (fun _ _ _ _ h' => h') (by rw [ho]; exact h)
theorem Wf.sIc (ht : ∀ x ∈ tb, OK l X q d na b x.1 x.2) {n : Nat} {v : Int32} (ho : lo tb pc = oIc pc n v) (k : Wf l X q d na b (pc + n) ls (.int v :: st) M kr) : Wf l X q d na b pc ls st M kr := Wf.stp1 ht ho k
theorem Wf.sLc (ht : ∀ x ∈ tb, OK l X q d na b x.1 x.2) {n : Nat} {v : Int64} (ho : lo tb pc = oLc pc n v) (k : Wf l X q d na b (pc + n) ls (.long v :: st) M kr) : Wf l X q d na b pc ls st M kr := Wf.stp1 ht ho k
theorem Wf.sIl (ht : ∀ x ∈ tb, OK l X q d na b x.1 x.2) {n i : Nat} {v : Int32} (ho : lo tb pc = oIl pc n i) (hl : lg ls i = some (.int v)) (k : Wf l X q d na b (pc + n) ls (.int v :: st) M kr) : Wf l X q d na b pc ls st M kr := Wf.stp1 ht ho (by simp only [oIl, hl]; exact k)
theorem Wf.sLl (ht : ∀ x ∈ tb, OK l X q d na b x.1 x.2) {n i : Nat} {v : Int64} (ho : lo tb pc = oLl pc n i) (hl : lg ls i = some (.long v)) (k : Wf l X q d na b (pc + n) ls (.long v :: st) M kr) : Wf l X q d na b pc ls st M kr := Wf.stp1 ht ho (by simp only [oLl, hl]; exact k)
theorem Wf.sAl (ht : ∀ x ∈ tb, OK l X q d na b x.1 x.2) {n i a : Nat} (ho : lo tb pc = oAl pc n i) (hl : lg ls i = some (.ref a)) (ha : Nat.blt 0 a = true) (k : Wf l X q d na b (pc + n) ls (.ref a :: st) M kr) : Wf l X q d na b pc ls st M kr := Wf.stp1 ht ho (by simp only [oAl, hl, ha, cond_true]; exact k)
theorem Wf.sIs (ht : ∀ x ∈ tb, OK l X q d na b x.1 x.2) {n i : Nat} {v : Int32} {ls' : Ls} (ho : lo tb pc = oIs pc n i) (hl : lp ls i (.int v) = ls') (k : Wf l X q d na b (pc + n) ls' st M kr) : Wf l X q d na b pc ls (.int v :: st) M kr := Wf.stp1 ht ho (by subst hl; exact k)
theorem Wf.sLs (ht : ∀ x ∈ tb, OK l X q d na b x.1 x.2) {n i : Nat} {v : Int64} {ls' : Ls} (ho : lo tb pc = oLs pc n i) (hl : lp ls i (.long v) = ls') (k : Wf l X q d na b (pc + n) ls' st M kr) : Wf l X q d na b pc ls (.long v :: st) M kr := Wf.stp1 ht ho (by subst hl; exact k)
theorem Wf.sInc (ht : ∀ x ∈ tb, OK l X q d na b x.1 x.2) {i : Nat} {n v : Int32} {ls' : Ls} (ho : lo tb pc = oInc pc i n) (hl : lg ls i = some (.int v)) (hp : lp ls i (.int (v + n)) = ls') (k : Wf l X q d na b (pc + 3) ls' st M kr) : Wf l X q d na b pc ls st M kr := Wf.stp1 ht ho (by simp only [oInc, hl]; subst hp; exact k)
theorem Wf.s2 (ht : ∀ x ∈ tb, OK l X q d na b x.1 x.2) {f : Int32 → Int32 → Int32} {x y : Int32} (ho : lo tb pc = o2 pc f) (k : Wf l X q d na b (pc + 1) ls (.int (f x y) :: st) M kr) : Wf l X q d na b pc ls (.int y :: .int x :: st) M kr := Wf.stp1 ht ho k
theorem Wf.sL2 (ht : ∀ x ∈ tb, OK l X q d na b x.1 x.2) {f : Int64 → Int64 → Int64} {x y : Int64} (ho : lo tb pc = oL2 pc f) (k : Wf l X q d na b (pc + 1) ls (.long (f x y) :: st) M kr) : Wf l X q d na b pc ls (.long y :: .long x :: st) M kr := Wf.stp1 ht ho k
theorem Wf.sL2d (ht : ∀ x ∈ tb, OK l X q d na b x.1 x.2) {f : Int64 → Int64 → Int64} {x y : Int64} (ho : lo tb pc = oL2d pc f) (hy : ¬ y = 0) (k : Wf l X q d na b (pc + 1) ls (.long (f x y) :: st) M kr) : Wf l X q d na b pc ls (.long y :: .long x :: st) M kr := Wf.stp1 ht ho ⟨hy, k⟩
theorem Wf.slcmp (ht : ∀ x ∈ tb, OK l X q d na b x.1 x.2) {x y : Int64} (ho : lo tb pc = olcmp pc) (k : Wf l X q d na b (pc + 1) ls (.int (lg_cmp x y) :: st) M kr) : Wf l X q d na b pc ls (.long y :: .long x :: st) M kr := Wf.stp1 ht ho k
theorem Wf.si2l (ht : ∀ x ∈ tb, OK l X q d na b x.1 x.2) {x : Int32} (ho : lo tb pc = oi2l pc) (k : Wf l X q d na b (pc + 1) ls (.long x.toInt64 :: st) M kr) : Wf l X q d na b pc ls (.int x :: st) M kr := Wf.stp1 ht ho k
theorem Wf.sGo (ht : ∀ x ∈ tb, OK l X q d na b x.1 x.2) {t : Nat} (ho : lo tb pc = oGo t) (k : Wf l X q d na b t ls st M kr) : Wf l X q d na b pc ls st M kr := Wf.stp1 ht ho k
theorem Wf.sIf (ht : ∀ x ∈ tb, OK l X q d na b x.1 x.2) {t : Nat} {P N : Int32 → Prop} {x : Int32} (ho : lo tb pc = oIf pc t P N) (k1 : P x → Wf l X q d na b t ls st M kr) (k2 : N x → Wf l X q d na b (pc + 3) ls st M kr) : Wf l X q d na b pc ls (.int x :: st) M kr := Wf.stp1 ht ho ⟨k1, k2⟩
theorem Wf.sCm (ht : ∀ x ∈ tb, OK l X q d na b x.1 x.2) {t : Nat} {P N : Int32 → Int32 → Prop} {x y : Int32} (ho : lo tb pc = oCm pc t P N) (k1 : P x y → Wf l X q d na b t ls st M kr) (k2 : N x y → Wf l X q d na b (pc + 3) ls st M kr) : Wf l X q d na b pc ls (.int y :: .int x :: st) M kr := Wf.stp1 ht ho ⟨k1, k2⟩
theorem Wf.sDup (ht : ∀ x ∈ tb, OK l X q d na b x.1 x.2) {v : Value} (ho : lo tb pc = oDup pc) (hv : Nat.beq v.category 1 = true) (k : Wf l X q d na b (pc + 1) ls (v :: v :: st) M kr) : Wf l X q d na b pc ls (v :: st) M kr := Wf.stp1 ht ho (by simp only [oDup, hv, cond_true]; exact k)
theorem Wf.sPop (ht : ∀ x ∈ tb, OK l X q d na b x.1 x.2) {v : Value} (ho : lo tb pc = oPop pc) (hv : Nat.beq v.category 1 = true) (k : Wf l X q d na b (pc + 1) ls st M kr) : Wf l X q d na b pc ls (v :: st) M kr := Wf.stp1 ht ho (by simp only [oPop, hv, cond_true]; exact k)
theorem Wf.sG (ht : ∀ x ∈ tb, OK l X q d na b x.1 x.2) {c j t a : Nat} (ho : lo tb pc = oG pc c j t) (hk : kk M a c = true) (k : Wf l X q d na b (pc + 3) ls (sv M a j t :: st) M kr) : Wf l X q d na b pc ls (.ref a :: st) M kr := Wf.stp1 ht ho (by simp only [oG, hk, cond_true]; exact k)
theorem Wf.sPI (ht : ∀ x ∈ tb, OK l X q d na b x.1 x.2) {c j a : Nat} {v : Int32} (ho : lo tb pc = oPI pc c j) (hk : kk M a c = true) (k : Wf l X q d na b (pc + 3) ls st (wI M a j v) kr) : Wf l X q d na b pc ls (.int v :: .ref a :: st) M kr := Wf.stp1 ht ho (by simp only [oPI, hk, cond_true]; exact k)
theorem Wf.sPL (ht : ∀ x ∈ tb, OK l X q d na b x.1 x.2) {c j a : Nat} {v : Int64} (ho : lo tb pc = oPL pc c j) (hk : kk M a c = true) (k : Wf l X q d na b (pc + 3) ls st (wL M a j v) kr) : Wf l X q d na b pc ls (.long v :: .ref a :: st) M kr := Wf.stp1 ht ho (by simp only [oPL, hk, cond_true]; exact k)
theorem Wf.sIal (ht : ∀ x ∈ tb, OK l X q d na b x.1 x.2) {i : Int32} {a j : Nat} (ho : lo tb pc = oIal pc) (hk : kk M a 9 = true) (hi : i = nI j ∧ j < 1000 ∧ j < (mK M a).2) (k : Wf l X q d na b (pc + 1) ls (.int (mI M a j) :: st) M kr) : Wf l X q d na b pc ls (.int i :: .ref a :: st) M kr := Wf.stp1 ht ho (by simp only [oIal, hk, cond_true]; exact ⟨j, hi, k⟩)
theorem Wf.sBal (ht : ∀ x ∈ tb, OK l X q d na b x.1 x.2) {i : Int32} {a j : Nat} (ho : lo tb pc = oBal pc) (hk : kk M a 8 = true) (hi : i = nI j ∧ j < 1000 ∧ j < (mK M a).2) (k : Wf l X q d na b (pc + 1) ls (.int (mI M a j) :: st) M kr) : Wf l X q d na b pc ls (.int i :: .ref a :: st) M kr := Wf.stp1 ht ho (by simp only [oBal, hk, cond_true]; exact ⟨j, hi, k⟩)
theorem Wf.sIas (ht : ∀ x ∈ tb, OK l X q d na b x.1 x.2) {i v : Int32} {a j : Nat} (ho : lo tb pc = oIas pc) (hk : kk M a 9 = true) (hi : i = nI j ∧ j < 1000 ∧ j < (mK M a).2) (k : Wf l X q d na b (pc + 1) ls st (wI M a j v) kr) : Wf l X q d na b pc ls (.int v :: .int i :: .ref a :: st) M kr := Wf.stp1 ht ho (by simp only [oIas, hk, cond_true]; exact ⟨j, hi, k⟩)
theorem Wf.sVr (ht : ∀ x ∈ tb, OK l X q d na b x.1 x.2) (ho : lo tb pc = oVr) (k : kr none M) : Wf l X q d na b pc ls [] M kr := Wf.stp1 ht ho k
theorem Wf.sIr (ht : ∀ x ∈ tb, OK l X q d na b x.1 x.2) {v : Int32} (ho : lo tb pc = oIr) (k : kr (some (.int v)) M) : Wf l X q d na b pc ls [.int v] M kr := Wf.stp1 ht ho k
theorem Wf.sZr (ht : ∀ x ∈ tb, OK l X q d na b x.1 x.2) {v : Int32} (ho : lo tb pc = oZr) (hv : v = 0 ∨ v = 1) (k : kr (some (.int v)) M) : Wf l X q d na b pc ls [.int v] M kr := Wf.stp1 ht ho ⟨hv, k⟩
theorem Wf.sLr (ht : ∀ x ∈ tb, OK l X q d na b x.1 x.2) {v : Int64} (ho : lo tb pc = oLr) (k : kr (some (.long v)) M) : Wf l X q d na b pc ls [.long v] M kr := Wf.stp1 ht ho k
/-- a call by a contract's words -/
theorem Wf.sCv (ht : ∀ x ∈ tb, OK l X q d na b x.1 x.2) {q' : Md} {c n a d' : Nat} {as rest : List Value} (ho : lo tb pc = oCv l X d' pc q' c n) (hp : pn (n + 1) st [] = some (.ref a :: as, rest)) (hk : kk M a c = true) (hc : Nat.ble (cs rest) 8 = true) (k : Ev l X q' d' true 0 0 (.ref a :: as) M (fun r M' => Wf l X q d na b (pc + 3) ls (r.toList ++ rest) M' kr)) : Wf l X q d na b pc ls st M kr := Wf.stp1 ht ho (by simp only [oCv, hp, hk, hc, Bool.and_self, cond_true]; exact k)
theorem Wf.sCs (ht : ∀ x ∈ tb, OK l X q d na b x.1 x.2) {q' : Md} {n d' : Nat} {as rest : List Value} (ho : lo tb pc = oCs l X d' pc q' n) (hp : pn n st [] = some (as, rest)) (hc : Nat.ble (cs rest) 8 = true) (k : Ev l X q' d' true 0 0 as M (fun r M' => Wf l X q d na b (pc + 3) ls (r.toList ++ rest) M' kr)) : Wf l X q d na b pc ls st M kr := Wf.stp1 ht ho (by simp only [oCs, hp, hc, cond_true]; exact k)
theorem Wf.sCq (ht : ∀ x ∈ tb, OK l X q d na b x.1 x.2) {q' : Md} {n a d' : Nat} {as rest : List Value} (ho : lo tb pc = oCq l X d' pc q' n) (hp : pn (n + 1) st [] = some (.ref a :: as, rest)) (ha : 5000 ≤ a ∧ a < 5042) (hc : Nat.ble (cs rest) 8 = true) (k : Ev l X q' d' true 0 0 (.ref a :: as) M (fun r M' => Wf l X q d na b (pc + 3) ls (r.toList ++ rest) M' kr)) : Wf l X q d na b pc ls st M kr := Wf.stp1 ht ho (by simp only [oCq, hp, hc, cond_true]; exact ⟨ha.1, ha.2, k⟩)
end STP
theorem dwn (P : Nat → Prop) (e : Nat) (he : P e) (h : ∀ i, i < e → P (i + 1) → P i) : ∀ i, i ≤ e → P i := by
  intro i hi
  obtain ⟨n, hn⟩ : ∃ n, i + n = e := ⟨e - i, by omega⟩
  induction n generalizing i with
  | zero => rw [show i = e by omega]; exact he
  | succ n ih => exact h i (by omega) (ih (i + 1) (by omega) (by omega))
/-! the reference's copy of rows -/
theorem wF_0 {M : Mm} {a x y : Nat} {f : Nat → Int32} : wF M a (va_cpy f (mI M a) x y 0) = M := by
  obtain ⟨s, I, L⟩ := M
  show (s, _, L) = (s, I, L)
  congr 2
  funext b j
  show (if b = a then va_cpy f (I a) x y 0 j else I b j) = I b j
  split
  · rename_i h
    unfold va_cpy
    rw [if_neg (by omega), h]
  · rfl
theorem wF_s1 {M : Mm} {a x y i : Nat} {f : Nat → Int32} : wI (wF M a (va_cpy f (mI M a) x y i)) a (y + i) (f (x + i)) = wF M a (va_cpy f (mI M a) x y (i + 1)) := by
  obtain ⟨s, I, L⟩ := M
  show (s, _, L) = (s, _, L)
  congr 2
  funext b j
  show (if b = a ∧ j = y + i then f (x + i) else (if b = a then va_cpy f (I a) x y i j else I b j)) = (if b = a then va_cpy f (I a) x y (i + 1) j else I b j)
  by_cases hb : b = a
  · rw [if_pos hb, if_pos hb]
    by_cases hj : j = y + i
    · rw [if_pos ⟨hb, hj⟩]
      unfold va_cpy
      rw [if_pos (by omega), hj, show y + i - y = i by omega]
    · rw [if_neg (fun z => hj z.2)]
      unfold va_cpy
      by_cases hc : y ≤ j ∧ j < y + i
      · rw [if_pos hc, if_pos (by omega)]
      · rw [if_neg hc, if_neg (by omega)]
  · rw [if_neg (fun z => hb z.1), if_neg hb, if_neg hb]
set_option maxRecDepth 20000 in
theorem cpyX {l : Launch} {X : Nat × (Nat → Int32)} (d : Nat) : Cpy l X d (U0 152) := by
  intro n0 n1 x y z M kr h0 h1 hne hw hb hk
  obtain ⟨hw1, hw2⟩ := hw
  obtain ⟨hx, hy, hz, hxz, hyz⟩ := hb
  have p0 : Nat.blt 0 n0 = true := Nat.ble_eq_true_of_le (kk_of h0).1
  have p1 : Nat.blt 0 n1 = true := Nat.ble_eq_true_of_le (kk_of h1).1
  show Ev l X uX7_copy d true 0 0 _ M kr
  refine Ev.of (by decide) (Nat.le_of_ble_eq_true rfl) ?_
  have key : ∀ i, i ≤ z → Wf l X uX7_copy d true (mC M + 0, mS M + 0) 3 [(0, .ref n0), (1, .int (nI x)), (2, .ref n1), (3, .int (nI y)), (4, .int (nI z)), (5, .int (nI i))] [] (wF M n1 (va_cpy (mI M n0) (mI M n1) x y i)) kr := by
    refine dwn _ z ?_ ?_
    · refine Wf.sIl tkX7_copy rfl rfl ?_
      refine Wf.sIl tkX7_copy rfl rfl ?_
      refine Wf.sCm tkX7_copy rfl (fun _ => ?_) (fun w => absurd (nI_le (Nat.le_refl z) (by omega)) w)
      exact Wf.sVr tkX7_copy rfl hk
    · intro i hi hW
      refine Wf.sIl tkX7_copy rfl rfl ?_
      refine Wf.sIl tkX7_copy rfl rfl ?_
      refine Wf.sCm tkX7_copy rfl (fun w => absurd w (nI_ge hi (by omega))) (fun _ => ?_)
      refine Wf.sAl tkX7_copy rfl rfl p1 ?_
      refine Wf.sIl tkX7_copy rfl rfl ?_
      refine Wf.sIl tkX7_copy rfl rfl ?_
      refine Wf.s2 tkX7_copy rfl ?_
      refine Wf.sAl tkX7_copy rfl rfl p0 ?_
      refine Wf.sIl tkX7_copy rfl rfl ?_
      refine Wf.sIl tkX7_copy rfl rfl ?_
      refine Wf.s2 tkX7_copy rfl ?_
      refine Wf.sIal (j := x + i) tkX7_copy rfl h0 ⟨nI_add x i, by omega, by show x + i < (mK M n0).2; omega⟩ ?_
      refine Wf.sIas (j := y + i) tkX7_copy rfl h1 ⟨nI_add y i, by omega, by show y + i < (mK M n1).2; omega⟩ ?_
      have e : mI (wF M n1 (va_cpy (mI M n0) (mI M n1) x y i)) n0 (x + i) = mI M n0 (x + i) := by rw [mI_wF, if_neg hne]
      rw [e, wF_s1]
      refine Wf.sInc tkX7_copy rfl rfl rfl ?_
      refine Wf.sGo tkX7_copy rfl ?_
      rw [nI_1]
      exact hW
  refine Wf.sIc tkX7_copy rfl ?_
  refine Wf.sIs tkX7_copy rfl rfl ?_
  have := key 0 (Nat.zero_le _)
  rw [wF_0] at this
  exact this
