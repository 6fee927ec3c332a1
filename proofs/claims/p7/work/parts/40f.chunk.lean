/-! constructors, piece by piece -/
section CHUNK
variable {l : Launch} {X : Nat × (Nat → Int32)} {q : Md} {d : Nat} {na : Bool} {b : Nat × Nat} {pc : Nat} {kr : KR} {ls : Ls} {st : List Value} {M : Mm}
theorem OK.go {o : OP} (h : OK l X q d na b pc o) (k : o (fun pc' ls' st' M' => Wf l X q d na b pc' ls' st' M' kr) kr ls st M) : Wf l X q d na b pc ls st M kr := h _ _ _ _ _ (fun _ _ _ _ z => z) k
theorem kk_D {D : Dl} {s : Nat} {I : Nat → Nat → Int32} {a c n : Nat} (h : 0 < a ∧ a ≤ D.length ∧ kd D a = (c, n)) : kk (mkD D s I) a c = true := by
  unfold kk
  rw [Bool.and_eq_true_iff, Bool.and_eq_true_iff]
  refine ⟨Nat.ble_eq_true_of_le h.1, Nat.ble_eq_true_of_le h.2.1, ?_⟩
  show Nat.beq (kd D a).1 c = true
  rw [h.2.2]
  exact Nat.beq_refl c
theorem rk_le {n a : Nat} (h : a ≤ n) : rk n (.ref a) = true := by
  unfold rk
  show (Nat.ble a n || Nat.ble 4999 a) = true
  rw [Nat.ble_eq_true_of_le h]
  rfl
theorem ro_D {D : Dl} {s : Nat} {I : Nat → Nat → Int32} {k n : Nat} (h1 : D.length + k ≤ 4000) (h2 : ls.all (fun x => rk D.length x.2) = true) (h3 : st.all (rk D.length) = true) (h4 : D.length + k ≤ b.1) (h5 : s + n ≤ b.2) : ro b (mkD D s I) ls st k n = true := by
  unfold ro
  rw [Bool.and_eq_true_iff, Bool.and_eq_true_iff, Bool.and_eq_true_iff, Bool.and_eq_true_iff]
  exact ⟨Nat.ble_eq_true_of_le h1, h2, h3, Nat.ble_eq_true_of_le h4, Nat.ble_eq_true_of_le h5⟩
theorem blt0 {a : Nat} (h : 0 < a) : Nat.blt 0 a = true := Nat.ble_eq_true_of_le h
/-- aload_0 -/
theorem go_a0 {a : Nat} (h : OK l X q d na b pc (oAl pc 1 0)) (h0 : lg ls 0 = some (.ref a)) (ha : 0 < a) (k : Wf l X q d na b (pc + 1) ls (.ref a :: st) M kr) : Wf l X q d na b pc ls st M kr := by
  refine h.go ?_
  show (match lg ls 0 with
    | some (.ref a) => cond (Nat.blt 0 a) (Wf l X q d na b (pc + 1) ls (.ref a :: st) M kr) False
    | _ => False)
  rw [h0]
  show cond (Nat.blt 0 a) _ False
  rw [blt0 ha]
  exact k
/-- a new array in a field -/
def fa (D : Dl) (a k n f : Nat) : Dl := dR (dA D k n 0) a f (D.length + 1)
theorem fa_len {D : Dl} {a k n f : Nat} : (fa D a k n f).length = D.length + 1 := by unfold fa; rw [dR_len, dA_len]
theorem slf_fa {D : Dl} {a k n f b c N : Nat} (h : slf D b c N) : slf (fa D a k n f) b c N := slf_dR (slf_dA h)
theorem als {a n : Nat} (h : a ≤ n) : ([(0, .ref a)] : Ls).all (fun x => rk n x.2) = true := by rw [List.all_cons, rk_le h]; rfl
/-- field := new array -/
theorem ch_arr {D : Dl} {I : Nat → Nat → Int32} {s a c N k n w f p1 p2 p3 p4 : Nat} {v : Int32} (h1 : OK l X q d false b pc (oAl pc 1 0)) (h2 : OK l X q d false b p1 (oIc p1 w v)) (h3 : OK l X q d false b p2 (oNa b p2 k n v)) (h4 : OK l X q d false b p3 (oPR p3 c f)) (e1 : pc + 1 = p1) (e2 : p1 + w = p2) (e3 : p2 + 2 = p3) (e4 : p3 + 3 = p4)
    (hI : ∀ j, I (D.length + 1) j = 0) (hs : slf D a c N) (hf : f < N) (h0 : lg ls 0 = some (.ref a)) (hls : ls.all (fun x => rk D.length x.2) = true) (hn : D.length + 1 ≤ 4000) (hb : D.length + 1 ≤ b.1 ∧ s + n ≤ b.2) (kk0 : Wf l X q d false b p4 ls [] (mkD (fa D a k n f) (s + n) I) kr) : Wf l X q d false b pc ls [] (mkD D s I) kr := by
  subst e1 e2 e3 e4
  refine go_a0 h1 h0 hs.1 ?_
  refine h2.go ?_
  show Wf l X q d false b (pc + 1 + w) ls (.int v :: [.ref a]) (mkD D s I) kr
  refine h3.go ?_
  show cond (ro b (mkD D s I) ls [.ref a] 1 n) (v = v ∧ Wf l X q d false b (pc + 1 + w + 2) ls (.ref (D.length + 1) :: [.ref a]) (wA (mkD D s I) (k, n) n) kr) False
  rw [ro_D hn hls (by rw [List.all_cons, rk_le hs.2.1]; rfl) hb.1 hb.2]
  refine ⟨rfl, ?_⟩
  rw [wA_D (z := 0) hI]
  refine h4.go ?_
  have hs' := slf_dA (k := k) (m := n) (z := 0) hs
  show cond (kk (mkD (dA D k n 0) (s + n) I) a c && (Nat.blt 0 (D.length + 1) && Nat.ble (D.length + 1) (dA D k n 0).length)) (Wf l X q d false b (pc + 1 + w + 2 + 3) ls [] (wR (mkD (dA D k n 0) (s + n) I) a f (D.length + 1)) kr) False
  rw [kk_D ⟨hs'.1, hs'.2.1, hs'.2.2.1⟩, blt0 (Nat.succ_pos _), dA_len, Nat.ble_eq_true_of_le (Nat.le_refl _), wR_D hs'.1 hs'.2.1 (by rw [hs'.2.2.2]; exact hf)]
  exact kk0
/-- field := 0 -/
theorem ch_i0 {D : Dl} {s a c N f p1 p2 p3 : Nat} (h1 : OK l X q d na b pc (oAl pc 1 0)) (h2 : OK l X q d na b p1 (oIc p1 1 0)) (h3 : OK l X q d na b p2 (oPI p2 c f)) (e1 : pc + 1 = p1) (e2 : p1 + 1 = p2) (e3 : p2 + 3 = p3) (hs : slf D a c N) (h0 : lg ls 0 = some (.ref a)) (k : Wf l X q d na b p3 ls [] (mkD D s I00) kr) : Wf l X q d na b pc ls [] (mkD D s I00) kr := by
  subst e1 e2 e3
  refine go_a0 h1 h0 hs.1 ?_
  refine h2.go ?_
  show Wf l X q d na b (pc + 1 + 1) ls (.int 0 :: [.ref a]) (mkD D s I00) kr
  refine h3.go ?_
  show cond (kk (mkD D s I00) a c) (Wf l X q d na b (pc + 1 + 1 + 3) ls [] (wI (mkD D s I00) a f 0) kr) False
  rw [kk_D ⟨hs.1, hs.2.1, hs.2.2.1⟩, wI_D]
  exact k
/-- Object's constructor -/
theorem ch_oi {D : Dl} {s a c N p1 p2 : Nat} (h1 : OK l X q (d + 1) na b pc (oAl pc 1 0)) (h2 : OK l X q (d + 1) na b p1 (oOi p1)) (e1 : pc + 1 = p1) (e2 : p1 + 3 = p2) (hs : slf D a c N) (h0 : lg ls 0 = some (.ref a)) (k : Wf l X q (d + 1) na b p2 ls [] (mkD D s I00) kr) : Wf l X q (d + 1) na b pc ls [] (mkD D s I00) kr := by
  subst e1 e2
  refine go_a0 h1 h0 hs.1 ?_
  refine h2.go ?_
  show cond (Nat.blt 0 a && Nat.ble (cs []) 8) (Wf l X q (d + 1) na b (pc + 1 + 3) ls [] (mkD D s I00) kr) False
  rw [blt0 hs.1]
  exact k
/-- field := new Moment[n] -/
theorem ch_mar {D : Dl} {s a c N n w f p1 p2 p3 p4 : Nat} {v : Int32} (h1 : OK l X q d false b pc (oAl pc 1 0)) (h2 : OK l X q d false b p1 (oIc p1 w v)) (h3 : OK l X q d false b p2 (oNq b p2 n v)) (h4 : OK l X q d false b p3 (oPR p3 c f)) (e1 : pc + 1 = p1) (e2 : p1 + w = p2) (e3 : p2 + 3 = p3) (e4 : p3 + 3 = p4)
    (hs : slf D a c N) (hf : f < N) (h0 : lg ls 0 = some (.ref a)) (hls : ls.all (fun x => rk D.length x.2) = true) (hn : D.length + 1 ≤ 4000) (hb : D.length + 1 ≤ b.1 ∧ s + n ≤ b.2) (kk0 : Wf l X q d false b p4 ls [] (mkD (dR (dA D 11 n n) a f (D.length + 1)) (s + n) I00) kr) : Wf l X q d false b pc ls [] (mkD D s I00) kr := by
  subst e1 e2 e3 e4
  refine go_a0 h1 h0 hs.1 ?_
  refine h2.go ?_
  show Wf l X q d false b (pc + 1 + w) ls (.int v :: [.ref a]) (mkD D s I00) kr
  refine h3.go ?_
  show cond (ro b (mkD D s I00) ls [.ref a] 1 n) (v = v ∧ Wf l X q d false b (pc + 1 + w + 3) ls (.ref (D.length + 1) :: [.ref a]) (wA (mkD D s I00) (11, n) n) kr) False
  rw [ro_D hn hls (by rw [List.all_cons, rk_le hs.2.1]; rfl) hb.1 hb.2]
  refine ⟨rfl, ?_⟩
  rw [wA_D (z := n) (fun _ => rfl)]
  refine h4.go ?_
  have hs' := slf_dA (k := 11) (m := n) (z := n) hs
  show cond (kk (mkD (dA D 11 n n) (s + n) I00) a c && (Nat.blt 0 (D.length + 1) && Nat.ble (D.length + 1) (dA D 11 n n).length)) (Wf l X q d false b (pc + 1 + w + 3 + 3) ls [] (wR (mkD (dA D 11 n n) (s + n) I00) a f (D.length + 1)) kr) False
  rw [kk_D ⟨hs'.1, hs'.2.1, hs'.2.2.1⟩, blt0 (Nat.succ_pos _), dA_len, Nat.ble_eq_true_of_le (Nat.le_refl _), wR_D hs'.1 hs'.2.1 (by rw [hs'.2.2.2]; exact hf)]
  exact kk0
end CHUNK
