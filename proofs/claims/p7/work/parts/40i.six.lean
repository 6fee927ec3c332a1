/-! the constructor of GargoyleClose -/
def sl4 (D : Dl) (a : Nat) (k : Nat × Nat) (n : Nat) : Prop := 0 < a ∧ a ≤ D.length ∧ kd D a = k ∧ rln D a = n
theorem sl4_dA {D : Dl} {a n k m z : Nat} {c : Nat × Nat} (h : sl4 D a c n) : sl4 (dA D k m z) a c n := by
  obtain ⟨h0, h1, h2, h3⟩ := h
  refine ⟨h0, by rw [dA_len]; omega, by rw [kd_dA h1]; exact h2, ?_⟩
  unfold rln at h3 ⊢
  rw [dA_o (by omega)]
  exact h3
theorem sl4_dR {D : Dl} {a n b i v : Nat} {c : Nat × Nat} (h : sl4 D a c n) : sl4 (dR D b i v) a c n := by
  obtain ⟨h0, h1, h2, h3⟩ := h
  refine ⟨h0, by rw [dR_len]; exact h1, by rw [kd_dR]; exact h2, ?_⟩
  unfold rln at h3 ⊢
  by_cases e : a - 1 = b - 1
  · rw [e, dR_s (by omega), List.length_set, ← e]
    exact h3
  · rw [dR_o e]
    exact h3
theorem sl4_new {D : Dl} {k m n : Nat} : sl4 (dA D k m n) (D.length + 1) (k, m) n := by
  refine ⟨Nat.succ_pos _, by rw [dA_len]; exact Nat.le_refl _, kd_dAs, ?_⟩
  unfold rln
  rw [Nat.add_sub_cancel, dA_s, List.length_replicate]
theorem sl4_fa {D : Dl} {a k m f b n : Nat} {c : Nat × Nat} (h : sl4 D b c n) : sl4 (fa D a k m f) b c n := sl4_dR (sl4_dA h)
theorem rd_dA {D : Dl} {k n m a i : Nat} (h : a ≤ D.length) : rd (dA D k n m) a i = rd D a i := by
  cases a with
  | zero => rfl
  | succ a => show (_ : List Nat).getD i 0 = (_ : List Nat).getD i 0; rw [dA_o h]
theorem rd_dR {D : Dl} {b j v a i : Nat} (h : a ≠ b) (hb : 0 < b) : rd (dR D b j v) a i = rd D a i := by
  cases a with
  | zero => rfl
  | succ a => show (_ : List Nat).getD i 0 = (_ : List Nat).getD i 0; rw [dR_o (by omega)]
theorem rd_fa {D : Dl} {b k m f a i : Nat} (h : a ≠ b) (hb : 0 < b) (ha : a ≤ D.length) : rd (fa D b k m f) a i = rd D a i := by
  unfold fa
  rw [rd_dR h hb, rd_dA ha]
/-- the world that a callee leaves has the caller's names -/
def kps (D D2 : Dl) : Prop := (∀ a c n, sl4 D a c n → sl4 D2 a c n)
theorem kps_fa {D D2 : Dl} {a k m f : Nat} (h : kps D D2) : kps D (fa D2 a k m f) := fun a c n z => sl4_fa (h a c n z)
theorem kps_rf {D : Dl} : kps D D := fun _ _ _ z => z
theorem kps_dA {D : Dl} {k m z : Nat} : kps D (dA D k m z) := fun _ _ _ h => sl4_dA h
theorem kps_0 {D : Dl} {a : Nat} : kps D (cX0 D a) := kps_rf
theorem kps_2 {D : Dl} {a : Nat} : kps D (cX2 D a) := kps_fa (kps_fa (kps_fa (kps_fa kps_rf)))
theorem kps_3 {D : Dl} {a : Nat} : kps D (cX3 D a) := kps_fa (kps_fa (kps_fa (kps_fa (kps_fa (kps_fa (kps_fa (kps_fa (kps_fa (kps_fa (kps_fa (kps_fa kps_rf)))))))))))
theorem kps_4 {D : Dl} {a : Nat} : kps D (cX4 D a) := kps_fa (kps_fa (kps_fa (kps_fa kps_rf)))
theorem kps_5 {D : Dl} {a : Nat} : kps D (cX5 D a) := kps_fa kps_rf
theorem len_0 {D : Dl} {a : Nat} : (cX0 D a).length = D.length := rfl
theorem len_2 {D : Dl} {a : Nat} : (cX2 D a).length = D.length + 4 := by unfold cX2; simp only [fa_len]
theorem len_3 {D : Dl} {a : Nat} : (cX3 D a).length = D.length + 12 := by unfold cX3; simp only [fa_len]
theorem len_4 {D : Dl} {a : Nat} : (cX4 D a).length = D.length + 4 := by unfold cX4; simp only [fa_len]
theorem len_5 {D : Dl} {a : Nat} : (cX5 D a).length = D.length + 1 := by unfold cX5; simp only [fa_len]
theorem slf4 {D : Dl} {a c n : Nat} : slf D a c n ↔ sl4 D a (c, 0) n := Iff.rfl
/-! an array of arrays -/
def dM (D : Dl) : Dl := D ++ ((12, 6, [D.length + 2, D.length + 3, D.length + 4, D.length + 5, D.length + 6, D.length + 7]) :: List.replicate 6 (9, 5, []))
theorem dM_len {D : Dl} : (dM D).length = D.length + 7 := by simp [dM]
theorem dM_o {D : Dl} {a : Nat} (h : a < D.length) : (dM D).getD a (0, 0, []) = D.getD a (0, 0, []) := by
  unfold dM
  rw [List.getD_eq_getElem?_getD, List.getD_eq_getElem?_getD, List.getElem?_append_left h]
theorem dM_s {D : Dl} {t : Nat} : (dM D).getD (D.length + t) (0, 0, []) = ((12, 6, [D.length + 2, D.length + 3, D.length + 4, D.length + 5, D.length + 6, D.length + 7]) :: List.replicate 6 (9, 5, [])).getD t (0, 0, []) := by
  unfold dM
  rw [List.getD_eq_getElem?_getD, List.getD_eq_getElem?_getD, List.getElem?_append_right (by omega), Nat.add_sub_cancel_left]
theorem kps_dM {D : Dl} : kps D (dM D) := by
  intro a c n h
  obtain ⟨h0, h1, h2, h3⟩ := h
  refine ⟨h0, by rw [dM_len]; omega, ?_, ?_⟩
  · cases a with
    | zero => exact h2
    | succ a => rw [← h2]; show (_, _) = (_, _); rw [dM_o h1]
  · unfold rln at h3 ⊢
    rw [dM_o (by omega)]
    exact h3
theorem wM_D {D : Dl} {s : Nat} : wM (mkD D s I00) = mkD (dM D) (s + 36) I00 := by
  have hi : ∀ b : Nat, (if b = D.length + 1 then (12, 6) else if D.length < b ∧ b ≤ D.length + 7 then (9, 5) else kd D b) = kd (dM D) b := by
    intro b
    cases b with
    | zero => rw [if_neg (by omega), if_neg (by omega)]; rfl
    | succ b =>
      by_cases h : b < D.length
      · rw [if_neg (by omega), if_neg (by omega)]
        show (_, _) = (_, _)
        rw [dM_o h]
      · obtain ⟨t, rfl⟩ : ∃ t, b = D.length + t := ⟨b - D.length, by omega⟩
        show _ = (((dM D).getD (D.length + t) (0, 0, [])).1, ((dM D).getD (D.length + t) (0, 0, [])).2.1)
        rw [dM_s]
        by_cases ht : t < 7
        · rcases (show t = 0 ∨ t = 1 ∨ t = 2 ∨ t = 3 ∨ t = 4 ∨ t = 5 ∨ t = 6 by omega) with rfl | rfl | rfl | rfl | rfl | rfl | rfl
          · rw [if_pos rfl]; rfl
          all_goals rw [if_neg (by omega), if_pos (by omega)]; rfl
        · rw [if_neg (by omega), if_neg (by omega)]
          show ((D.getD (D.length + t) (0, 0, [])).1, (D.getD (D.length + t) (0, 0, [])).2.1) = _
          rw [gd_none (by omega), gd_none (by simp; omega)]
  have hr : ∀ b j : Nat, (if b = D.length + 1 then (if j < 6 then D.length + 2 + j else 0) else if D.length < b ∧ b ≤ D.length + 7 then 0 else rd D b j) = rd (dM D) b j := by
    intro b j
    cases b with
    | zero => rw [if_neg (by omega), if_neg (by omega)]; rfl
    | succ b =>
      by_cases h : b < D.length
      · rw [if_neg (by omega), if_neg (by omega)]
        show (D.getD b (0, 0, [])).2.2.getD j 0 = ((dM D).getD b (0, 0, [])).2.2.getD j 0
        rw [dM_o h]
      · obtain ⟨t, rfl⟩ : ∃ t, b = D.length + t := ⟨b - D.length, by omega⟩
        show _ = ((dM D).getD (D.length + t) (0, 0, [])).2.2.getD j 0
        rw [dM_s]
        by_cases ht : t < 7
        · rcases (show t = 0 ∨ t = 1 ∨ t = 2 ∨ t = 3 ∨ t = 4 ∨ t = 5 ∨ t = 6 by omega) with rfl | rfl | rfl | rfl | rfl | rfl | rfl
          · rw [if_pos rfl]
            by_cases hj : j < 6
            · rw [if_pos hj]
              rcases (show j = 0 ∨ j = 1 ∨ j = 2 ∨ j = 3 ∨ j = 4 ∨ j = 5 by omega) with rfl | rfl | rfl | rfl | rfl | rfl <;> rfl
            · rw [if_neg hj]
              obtain ⟨m, rfl⟩ : ∃ m, j = m + 6 := ⟨j - 6, by omega⟩
              rfl
          all_goals rw [if_neg (by omega), if_pos (by omega)]; rfl
        · rw [if_neg (by omega), if_neg (by omega)]
          show (D.getD (D.length + t) (0, 0, [])).2.2.getD j 0 = _
          rw [gd_none (by omega), gd_none (by simp; omega)]
  show ((D.length + 7, D.length + 7, s + 36, fun a => if a = D.length + 1 then (12, 6) else if D.length < a ∧ a ≤ D.length + 7 then (9, 5) else kd D a), (fun a j => if D.length < a ∧ a ≤ D.length + 7 then (0 : Int32) else 0), (fun a j => if D.length < a ∧ a ≤ D.length + 7 then (0 : Int64) else 0), (fun a j => if a = D.length + 1 then (if j < 6 then D.length + 2 + j else 0) else if D.length < a ∧ a ≤ D.length + 7 then 0 else rd D a j)) = (((dM D).length, (dM D).length, s + 36, kd (dM D)), I00, (fun _ _ => (0 : Int64)), rd (dM D))
  rw [dM_len, show (fun a => if a = D.length + 1 then (12, 6) else if D.length < a ∧ a ≤ D.length + 7 then (9, 5) else kd D a) = kd (dM D) from funext hi, show (fun a j => if a = D.length + 1 then (if j < 6 then D.length + 2 + j else 0) else if D.length < a ∧ a ≤ D.length + 7 then 0 else rd D a j) = rd (dM D) from funext fun b => funext fun j => hr b j]
  simp only [ite_self]
  rfl
section CH2
variable {l : Launch} {X : Nat × (Nat → Int32)} {q : Md} {d : Nat} {b : Nat × Nat} {pc : Nat} {kr : KR} {ls : Ls}
/-- field := int[6][5] -/
theorem ch_mul {D : Dl} {s a c N f p1 p2 p3 p4 p5 w1 w2 : Nat} (h1 : OK l X q d false b pc (oAl pc 1 0)) (h2 : OK l X q d false b p1 (oIc p1 w1 6)) (h3 : OK l X q d false b p2 (oIc p2 w2 5)) (h4 : OK l X q d false b p3 (oN2 b p3)) (h5 : OK l X q d false b p4 (oPR p4 c f)) (e1 : pc + 1 = p1) (e2 : p1 + w1 = p2) (e3 : p2 + w2 = p3) (e4 : p3 + 4 = p4) (e5 : p4 + 3 = p5)
    (hs : slf D a c N) (hf : f < N) (h0 : lg ls 0 = some (.ref a)) (hls : ls.all (fun x => rk D.length x.2) = true) (hn : D.length + 7 ≤ 4000) (hb : D.length + 7 ≤ b.1 ∧ s + 36 ≤ b.2) (kk0 : Wf l X q d false b p5 ls [] (mkD (dR (dM D) a f (D.length + 1)) (s + 36) I00) kr) : Wf l X q d false b pc ls [] (mkD D s I00) kr := by
  subst e1 e2 e3 e4 e5
  refine go_a0 h1 h0 hs.1 ?_
  refine h2.go ?_
  show Wf l X q d false b (pc + 1 + w1) ls (.int 6 :: [.ref a]) (mkD D s I00) kr
  refine h3.go ?_
  show Wf l X q d false b (pc + 1 + w1 + w2) ls (.int 5 :: .int 6 :: [.ref a]) (mkD D s I00) kr
  refine h4.go ?_
  show cond (ro b (mkD D s I00) ls [.ref a] 7 36) (((5 : Int32) = 5 ∧ (6 : Int32) = 6) ∧ Wf l X q d false b (pc + 1 + w1 + w2 + 4) ls (.ref (D.length + 1) :: [.ref a]) (wM (mkD D s I00)) kr) False
  rw [ro_D hn hls (by rw [List.all_cons, rk_le hs.2.1]; rfl) hb.1 hb.2]
  refine ⟨⟨rfl, rfl⟩, ?_⟩
  rw [wM_D]
  refine h5.go ?_
  have hs' : slf (dM D) a c N := kps_dM a (c, 0) N hs
  show cond (kk (mkD (dM D) (s + 36) I00) a c && (Nat.blt 0 (D.length + 1) && Nat.ble (D.length + 1) (dM D).length)) (Wf l X q d false b (pc + 1 + w1 + w2 + 4 + 3) ls [] (wR (mkD (dM D) (s + 36) I00) a f (D.length + 1)) kr) False
  rw [kk_D ⟨hs'.1, hs'.2.1, hs'.2.2.1⟩, blt0 (Nat.succ_pos _), dM_len, Nat.ble_eq_true_of_le (by omega), wR_D hs'.1 hs'.2.1 (by rw [hs'.2.2.2]; exact hf)]
  exact kk0
/-- field := new C() -/
theorem ch_new {D D2 : Dl} {s s2 a c N c' N' mc ms f p1 p2 p3 p4 p5 : Nat} {q' : Md} (h1 : OK l X q (d + 1) false b pc (oAl pc 1 0)) (h2 : OK l X q (d + 1) false b p1 (oNew b p1 c' N')) (h3 : OK l X q (d + 1) false b p2 (oDup p2)) (h4 : OK l X q (d + 1) false b p3 (oCi l X d b p3 q' c' mc ms)) (h5 : OK l X q (d + 1) false b p4 (oPR p4 c f)) (e1 : pc + 1 = p1) (e2 : p1 + 3 = p2) (e3 : p2 + 1 = p3) (e4 : p3 + 3 = p4) (e5 : p4 + 3 = p5)
    (hs : slf D a c N) (hf : f < N) (h0 : lg ls 0 = some (.ref a)) (hls : ls.all (fun x => rk D.length x.2) = true) (hcall : ∀ kr' : KR, kr' none (mkD D2 s2 I00) → Ev l X q' d false mc ms [.ref (D.length + 1)] (mkD (dA D c' 0 N') (s + N') I00) kr') (hkp : kps (dA D c' 0 N') D2) (hl2 : D2.length = D.length + 1 + mc) (hs2 : s2 = s + N' + ms) (hn : D.length + 1 ≤ 4000) (hb : D.length + 1 + mc ≤ b.1 ∧ s + N' + ms ≤ b.2) (k : Wf l X q (d + 1) false b p5 ls [] (mkD (dR D2 a f (D.length + 1)) s2 I00) kr) : Wf l X q (d + 1) false b pc ls [] (mkD D s I00) kr := by
  subst e1 e2 e3 e4 e5
  refine go_a0 h1 h0 hs.1 ?_
  refine h2.go ?_
  show cond (ro b (mkD D s I00) ls [.ref a] 1 N') (Wf l X q (d + 1) false b (pc + 1 + 3) ls (.ref (D.length + 1) :: [.ref a]) (wA (mkD D s I00) (c', 0) N') kr) False
  rw [ro_D hn hls (by rw [List.all_cons, rk_le hs.2.1]; rfl) (by omega) (by omega)]
  show Wf l X q (d + 1) false b (pc + 1 + 3) ls (.ref (D.length + 1) :: [.ref a]) (wA (mkD D s I00) (c', 0) N') kr
  rw [wA_D (z := N') (fun _ => rfl)]
  refine h3.go ?_
  show Wf l X q (d + 1) false b (pc + 1 + 3 + 1) ls (.ref (D.length + 1) :: .ref (D.length + 1) :: [.ref a]) (mkD (dA D c' 0 N') (s + N') I00) kr
  refine h4.go ?_
  have hnew := slf_new (D := D) (c := c') (n := N')
  have hsA := slf_dA (k := c') (m := 0) (z := N') hs
  show cond (ri b (mkD (dA D c' 0 N') (s + N') I00) ls [.ref (D.length + 1), .ref a] (D.length + 1) c' mc ms) (Ev l X q' d false mc ms [.ref (D.length + 1)] (mkD (dA D c' 0 N') (s + N') I00) (fun r M' => (mC M' = (dA D c' 0 N').length + mc ∧ mS M' = s + N' + ms) ∧ Wf l X q (d + 1) false b (pc + 1 + 3 + 1 + 3) ls (r.toList ++ [.ref (D.length + 1), .ref a]) M' kr)) False
  have hri : ri b (mkD (dA D c' 0 N') (s + N') I00) ls [.ref (D.length + 1), .ref a] (D.length + 1) c' mc ms = true := by
    unfold ri
    rw [Bool.and_eq_true_iff, Bool.and_eq_true_iff, Bool.and_eq_true_iff, Bool.and_eq_true_iff, Bool.and_eq_true_iff]
    refine ⟨⟨kk_D ⟨hnew.1, hnew.2.1, hnew.2.2.1⟩, rfl⟩, ?_, ?_, ?_, ?_⟩
    · refine List.all_eq_true.mpr fun x hx => ?_
      have z := List.all_eq_true.mp hls x hx
      revert z
      show rk D.length x.2 = true → rk (dA D c' 0 N').length x.2 = true
      rw [dA_len]
      cases x.2 with
      | ref n =>
        intro z
        have z : (Nat.ble n D.length || Nat.ble 4999 n) = true := z
        show (Nat.ble n (D.length + 1) || Nat.ble 4999 n) = true
        rcases Bool.or_eq_true_iff.mp z with y | y
        · exact Bool.or_eq_true_iff.mpr (Or.inl (Nat.ble_eq_true_of_le (Nat.le_succ_of_le (Nat.le_of_ble_eq_true y))))
        · exact Bool.or_eq_true_iff.mpr (Or.inr y)
      | _ => exact fun _ => rfl
    · show ([.ref (D.length + 1), .ref a] : List Value).all (rk (dA D c' 0 N').length) = true
      rw [dA_len, List.all_cons, List.all_cons, rk_le (Nat.le_refl _), rk_le (by have := hs.2.1; omega)]
      rfl
    · exact Nat.ble_eq_true_of_le (by show (dA D c' 0 N').length + mc ≤ b.1; rw [dA_len]; omega)
    · exact Nat.ble_eq_true_of_le (by show s + N' + ms ≤ b.2; omega)
  rw [hri]
  refine hcall _ ⟨⟨by show D2.length = _; rw [dA_len]; exact hl2, hs2⟩, ?_⟩
  show Wf l X q (d + 1) false b (pc + 1 + 3 + 1 + 3) ls [.ref (D.length + 1), .ref a] (mkD D2 s2 I00) kr
  refine h5.go ?_
  have hs' : slf D2 a c N := hkp a (c, 0) N hsA
  show cond (kk (mkD D2 s2 I00) a c && (Nat.blt 0 (D.length + 1) && Nat.ble (D.length + 1) D2.length)) (Wf l X q (d + 1) false b (pc + 1 + 3 + 1 + 3 + 3) ls [] (wR (mkD D2 s2 I00) a f (D.length + 1)) kr) False
  rw [kk_D ⟨hs'.1, hs'.2.1, hs'.2.2.1⟩, blt0 (Nat.succ_pos _), Nat.ble_eq_true_of_le (by omega), wR_D hs'.1 hs'.2.1 (by rw [hs'.2.2.2]; exact hf)]
  exact k
end CH2
