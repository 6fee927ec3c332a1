/-! the reference's close -/
section CLO
variable {l : Launch} {X : Nat × (Nat → Int32)} {d : Nat} {M : Mm} {kr : KR}
def msX : Md3 := [(150, 0, 0), (150, 2, 11), (150, 13, 13), (154, 0, 201), (156, 0, 24)]
theorem off_sX {s : Nat} (hs : s < 7) : offF msX (sfs s) = true := all7 (f := fun s => offF msX (sfs s)) (by decide +kernel) hs
theorem z_row {a k hi : Nat} (hw : rwW (Pt7.2.2 a) 0 hi (0, 0) = true) (hk : k ≤ hi) : (rwB (Pt7.2.2 a) k).1 ≤ (0 : Int32).toInt ∧ (0 : Int32).toInt ≤ (rwB (Pt7.2.2 a) k).2 := rwW_ok (by decide) (by decide) hw (Nat.zero_le _) hk
theorem cl_clr {b : Nat × Nat} {pc0 pc1 t f a N : Nat} {n : Int32} {M0 : Mm} (hN : N ≤ 202) (ha : a ≤ 167) (hk9 : ∀ Mx, Iv Pt7 Mx → kk Mx a 9 = true ∧ mR Mx 150 f = a ∧ (mK Mx a).2 = N) (h0 : lo (tbX7_close l X (d + 10)) pc0 = oIl pc0 1 2)
    (h1 : ∃ w, lo (tbX7_close l X (d + 10)) (pc0 + 1) = oIc (pc0 + 1) w (nI N) ∧ pc1 = pc0 + 1 + w) (h2 : lo (tbX7_close l X (d + 10)) pc1 = oCm pc1 t (fun x y => y ≤ x) (fun x y => ¬ y ≤ x)) (h3 : lo (tbX7_close l X (d + 10)) (pc1 + 3) = oAl (pc1 + 3) 1 0) (h4 : lo (tbX7_close l X (d + 10)) (pc1 + 4) = oG (pc1 + 4) 7 f 2) (h5 : lo (tbX7_close l X (d + 10)) (pc1 + 7) = oIl (pc1 + 7) 1 2) (h6 : lo (tbX7_close l X (d + 10)) (pc1 + 8) = oIc (pc1 + 8) 1 0) (h7 : lo (tbX7_close l X (d + 10)) (pc1 + 9) = oIas (pc1 + 9)) (h8 : lo (tbX7_close l X (d + 10)) (pc1 + 10) = oInc (pc1 + 10) 2 1) (h9 : lo (tbX7_close l X (d + 10)) (pc1 + 13) = oGo pc0)
    (hw : rwW (Pt7.2.2 a) 0 (N - 1) (0, 0) = true) (hm : ∀ k, k < N → inm msX a k = true) (hne : 150 ≠ a)
    (h : ∀ Mx, Jv Pt7 msX (M0, 0) Mx → (∀ j, j < N → mI Mx a j = 0) → (∀ c j, c ≠ a → mI Mx c j = mI M c j) → Wf l X uX7_close (d + 11) true b t [(0, .ref 150), (1, .int n)] [] Mx kr) : ∀ k, k ≤ N → ∀ Mx, Jv Pt7 msX (M0, 0) Mx → (∀ j, j < k → mI Mx a j = 0) → (∀ c j, c ≠ a → mI Mx c j = mI M c j) → Wf l X uX7_close (d + 11) true b pc0 [(0, .ref 150), (1, .int n), (2, .int (nI k))] [] Mx kr := by
  obtain ⟨w, h1, rfl⟩ := h1
  refine dwn _ N ?_ ?_
  · intro Mx hJ hz hc
    refine Wf.sIl tkX7_close h0 rfl ?_
    refine Wf.sIc tkX7_close h1 ?_
    refine Wf.sCm tkX7_close h2 (fun _ => ?_) (fun z => absurd (Int32.le_refl _) z)
    exact Wf.sub (fun x hx => List.mem_append_left [(2, .int (nI N))] hx) (h Mx hJ hz hc)
  · intro k hk ih Mx hJ hz hc
    have k150 : kk Mx 150 7 = true := kk_ok hJ.2.1 rfl
    obtain ⟨k9, rf, ml⟩ := hk9 Mx hJ.2.1
    refine Wf.sIl tkX7_close h0 rfl ?_
    refine Wf.sIc tkX7_close h1 ?_
    refine Wf.sCm tkX7_close h2 (fun z => absurd (show nI N ≤ nI k from z) (nI_ge hk (by omega))) (fun _ => ?_)
    refine Wf.sAl tkX7_close h3 rfl rfl ?_
    refine Wf.sG tkX7_close h4 k150 ?_
    show Wf l X uX7_close (d + 11) true _ _ _ [.ref (mR Mx 150 f)] Mx kr
    rw [rf]
    refine Wf.sIl tkX7_close h5 rfl ?_
    refine Wf.sIc tkX7_close h6 ?_
    refine Wf.sIas (j := k) tkX7_close h7 k9 ⟨rfl, by omega, by rw [ml]; exact hk⟩ ?_
    refine Wf.sInc tkX7_close h8 rfl rfl ?_
    refine Wf.sGo tkX7_close h9 ?_
    rw [nI_1]
    refine ih _ (Jv.wI hJ (z_row hw (by omega)) (hm k hk) (fun q => hne q.1)) (fun j hj => ?_) (fun c j hca => ?_)
    · rw [mI_w]
      by_cases q : j = k
      · rw [if_pos ⟨rfl, q⟩]
      · rw [if_neg (fun z => q z.2)]
        exact hz j (by omega)
    · rw [mI_w, if_neg (fun z => hca z.1)]
      exact hc c j hca
set_option maxRecDepth 20000 in
theorem cl_ev {p : Nat} {n : Int32} (hp : p < 7) (hI : Iv Pt7 M) (hg : ∀ f ∈ sfs p, gf M f) (h : ∀ (r : Int32) (M' : Mm) (q : Nat), q < 7 → Jv Pt7 msC (M, 0) M' → (∀ f ∈ sfs q, gf M' f) → mI M' 150 2 = (if inB n 0 (mI M 150 2) = true then 0 else mI M 150 2) → kr (some (.int r)) M') : Ev l X uX7_close (d + 11) true 0 0 [.ref 150, .int n] M kr := by
  have k150 : kk M 150 7 = true := kk_ok hI rfl
  have he : (0 : Int) ≤ (mI M 150 5).toInt := (hI.2.2.2 150 5 (by decide)).1
  have hJ0 : Jv Pt7 msX (M, 0) M := Jv.rf hI he
  have up : ∀ {Mx : Mm}, Jv Pt7 msX (M, 0) Mx → Jv Pt7 msC (M, 0) Mx := fun hJ => Jv_tr (Jv.rf hI he) hJ (by decide)
  refine Ev.of (by decide) (Nat.le_of_ble_eq_true rfl) ?_
  refine Wf.sAl tkX7_close rfl rfl rfl ?_
  refine Wf.sCv (as := []) (rest := []) tkX7_close rfl rfl k150 rfl ?_
  refine vc1384 (d + 10) [.ref 150] M _ hI he ⟨⟨rfl, List.mem_singleton.mpr rfl⟩, trivial⟩ (fun f hf => absurd hf List.not_mem_nil) (fun r M1 hJ1 hq => ?_)
  rw [r_none (by decide) hq]
  have hJ1' : Jv Pt7 msX (M, 0) M1 := Jv_tr hJ0 hJ1 (by decide)
  have t1 : mI M1 150 2 = mI M 150 2 := (hJ1.2.2.1 150 2 rfl).1
  have k150 : kk M1 150 7 = true := kk_ok hJ1.2.1 rfl
  refine Wf.sIl tkX7_close rfl rfl ?_
  refine Wf.sIc tkX7_close rfl ?_
  refine Wf.sAl tkX7_close rfl rfl rfl ?_
  refine Wf.sG tkX7_close rfl k150 ?_
  refine Wf.sCs (as := [.int n, .int 0, .int (mI M1 150 2)]) (rest := []) tkX7_close rfl rfl rfl ?_
  refine k_inB ?_
  rw [t1]
  cases b1 : inB n 0 (mI M 150 2) with
  | false =>
    rw [b1] at h
    refine Wf.sIf tkX7_close rfl (fun z => absurd rfl z) (fun _ => ?_)
    refine Wf.sAl tkX7_close rfl rfl rfl ?_
    refine Wf.sIc tkX7_close rfl ?_
    refine Wf.sCv (as := [.int 2]) (rest := []) tkX7_close rfl rfl k150 rfl ?_
    refine vc1385 (d + 10) [.ref 150, .int 2] M1 _ hJ1.2.1 hJ1.2.2.2 ⟨⟨rfl, List.mem_singleton.mpr rfl⟩, ⟨rfl, i32_lo _, i32_hi _⟩, trivial⟩ (fun f hf => absurd hf List.not_mem_nil) (fun r M2 hJ2 hq => ?_)
    obtain ⟨q, hq, g1, -, -⟩ := hq
    obtain rfl := List.mem_singleton.mp hq
    obtain ⟨x, rfl⟩ := gre_i g1
    have hJ2' : Jv Pt7 msX (M, 0) M2 := Jv_tr hJ1' hJ2 (by decide)
    exact Wf.sIr tkX7_close rfl (h x M2 p hp (up hJ2') (offF_ok (off_sX hp) hJ2'.2.2.1 hg) (by rw [(hJ2.2.2.1 150 2 rfl).1, t1]; rfl))
  | true =>
  rw [b1] at h
  refine Wf.sIf tkX7_close rfl (fun _ => ?_) (fun z => absurd z (by decide))
  have nb : 0 ≤ n.toInt ∧ n.toInt ≤ 900 := by
    unfold inB at b1
    obtain ⟨q1, q2⟩ := andT b1
    have q1 := of_decide_eq_true q1
    have q2 := of_decide_eq_true q2
    rw [Int32.lt_iff_toInt_lt] at q1 q2
    have e0 : (0 : Int32).toInt = 0 := rfl
    have b := (hI.2.2.2 150 2 (by decide)).2
    have b : (mI M 150 2).toInt ≤ 900 := b
    omega
  refine Wf.sAl tkX7_close rfl rfl rfl ?_
  refine Wf.sIc tkX7_close rfl ?_
  refine Wf.sPI tkX7_close rfl k150 ?_
  have hJ2 : Jv Pt7 msX (M, 0) (wI M1 150 2 0) := Jv.wI hJ1' (by decide) (by decide) (by decide)
  have k150 : kk (wI M1 150 2 0) 150 7 = true := kk_ok hJ2.2.1 rfl
  refine Wf.sAl tkX7_close rfl rfl rfl ?_
  refine Wf.sIc tkX7_close rfl ?_
  refine Wf.sPI tkX7_close rfl k150 ?_
  have hJ3 : Jv Pt7 msX (M, 0) (wI (wI M1 150 2 0) 150 9 0) := Jv.wI hJ2 (by decide) (by decide) (by decide)
  have k150 : kk (wI (wI M1 150 2 0) 150 9 0) 150 7 = true := kk_ok hJ3.2.1 rfl
  refine Wf.sAl tkX7_close rfl rfl rfl ?_
  refine Wf.sIc tkX7_close rfl ?_
  refine Wf.stp1 tkX7_close (o := oPZ 34 7 13) rfl ?_
  simp only [oPZ, k150, cond_true]
  refine ⟨Or.inl trivial, ?_⟩
  have hJ4 : Jv Pt7 msX (M, 0) (wI (wI (wI M1 150 2 0) 150 9 0) 150 13 0) := Jv.wI hJ3 (by decide) (by decide) (by decide)
  have t4 : mI (wI (wI (wI M1 150 2 0) 150 9 0) 150 13 0) 150 2 = 0 := rfl
  generalize (wI (wI (wI M1 150 2 0) 150 9 0) 150 13 0) = M4 at *
  refine Wf.sIc tkX7_close rfl ?_
  refine Wf.sIs tkX7_close rfl rfl ?_
  refine cl_clr (N := 202) (a := 154) (f := 16) (t := 59) (pc0 := 39) (pc1 := 43) (M := M4) (M0 := M) (by decide) (by decide) (fun Mx hx => ⟨kk_ok hx rfl, List.mem_singleton.mp (hx.2.2.1 150 16 (by decide)), by rw [hx.2.1 154 (by decide)]; rfl⟩) rfl ⟨3, rfl, rfl⟩ rfl rfl rfl rfl rfl rfl rfl rfl (by decide +kernel) (fun k hk => List.any_eq_true.mpr ⟨(154, 0, 201), by decide, by simp; omega⟩) (by decide) (fun M5 hJ5 hz5 hc5 => ?_) 0 (Nat.zero_le _) M4 hJ4 (fun j hj => absurd hj (Nat.not_lt_zero _)) (fun _ _ _ => rfl)
  refine Wf.sIc tkX7_close rfl ?_
  refine Wf.sIs tkX7_close rfl rfl ?_
  refine cl_clr (N := 25) (a := 156) (f := 18) (t := 80) (pc0 := 61) (pc1 := 64) (M := M5) (M0 := M) (by decide) (by decide) (fun Mx hx => ⟨kk_ok hx rfl, List.mem_singleton.mp (hx.2.2.1 150 18 (by decide)), by rw [hx.2.1 156 (by decide)]; rfl⟩) rfl ⟨2, rfl, rfl⟩ rfl rfl rfl rfl rfl rfl rfl rfl (by decide +kernel) (fun k hk => List.any_eq_true.mpr ⟨(156, 0, 24), by decide, by simp; omega⟩) (by decide) (fun M6 hJ6 hz6 hc6 => ?_) 0 (Nat.zero_le _) M5 hJ5 (fun j hj => absurd hj (Nat.not_lt_zero _)) (fun _ _ _ => rfl)
  have k150 : kk M6 150 7 = true := kk_ok hJ6.2.1 rfl
  refine Wf.sAl tkX7_close rfl rfl rfl ?_
  refine Wf.sIl tkX7_close rfl rfl ?_
  refine Wf.sPI tkX7_close rfl k150 ?_
  have hJ7 : Jv Pt7 msX (M, 0) (wI M6 150 3 n) := Jv.wI hJ6 nb (by decide) (by decide)
  have k150 : kk (wI M6 150 3 n) 150 7 = true := kk_ok hJ7.2.1 rfl
  refine Wf.sAl tkX7_close rfl rfl rfl ?_
  refine Wf.sIc tkX7_close rfl ?_
  refine Wf.sPI tkX7_close rfl k150 ?_
  have hJ8 : Jv Pt7 msX (M, 0) (wI (wI M6 150 3 n) 150 5 0) := Jv_wE hJ7 (by decide) (by decide) (show (0 : Int) ≤ (0 : Int32).toInt by decide)
  have t8 : mI (wI (wI M6 150 3 n) 150 5 0) 150 2 = 0 := ((hc6 150 2 (by decide)).trans (hc5 150 2 (by decide))).trans t4
  have f8 : ∀ f ∈ fcs 0, gf (wI (wI M6 150 3 n) 150 5 0) f := by
    intro f hm
    rcases List.mem_cons.mp hm with rfl | hm
    · have q : mI (wI (wI M6 150 3 n) 150 5 0) 154 9 = 0 := (hc6 154 9 (by decide)).trans (hz5 9 (by decide))
      exact gf1 rfl (by show (0 : Int) ≤ (mI (wI (wI M6 150 3 n) 150 5 0) 154 9).toInt ∧ (mI (wI (wI M6 150 3 n) 150 5 0) 154 9).toInt ≤ 0; rw [q]; decide)
    · obtain rfl := List.mem_singleton.mp hm
      have q : mI (wI (wI M6 150 3 n) 150 5 0) 154 5 = 0 := (hc6 154 5 (by decide)).trans (hz5 5 (by decide))
      exact gf1 rfl (by show (0 : Int) ≤ (mI (wI (wI M6 150 3 n) 150 5 0) 154 5).toInt ∧ (mI (wI (wI M6 150 3 n) 150 5 0) 154 5).toInt ≤ 0; rw [q]; decide)
  generalize (wI (wI M6 150 3 n) 150 5 0) = M8 at *
  have g8 := offF_ok (off_sX hp) hJ8.2.2.1 hg
  have k150 : kk M8 150 7 = true := kk_ok hJ8.2.1 rfl
  refine Wf.sAl tkX7_close rfl rfl rfl ?_
  refine Wf.sCv (as := []) (rest := []) tkX7_close rfl rfl k150 rfl ?_
  refine nx_ev (d := d + 8) (e := 0) hJ8.2.1 hJ8.2.2.2 (fun M9 hJ9 hP9 => ?_)
  have hJ9' : Jv Pt7 msT9 (M8, 0) M9 := Jv_tr (Jv.rf hJ8.2.1 hJ8.2.2.2) hJ9 (by decide)
  have k150 : kk M9 150 7 = true := kk_ok hJ9.2.1 rfl
  refine Wf.sAl tkX7_close rfl rfl rfl ?_
  refine Wf.sCv (as := []) (rest := []) tkX7_close rfl rfl k150 rfl ?_
  refine rd_ev (d := d) (e := 0) (s := 0) (by decide) hJ9.2.1 hJ9.2.2.2 (offF_ok (off_fc (s := 0) (by decide)) hJ9.2.2.1 f8) (fun Ma s' hs' hJa hfa => ?_)
  have hJa' : Jv Pt7 msT9 (M8, 0) Ma := Jv_tr hJ9' hJa (by decide)
  refine cl_loop (M0 := M8) hp (fun r M' q hq hJ' hf' => h r M' q hq (Jv_tr (up hJ8) hJ' (by decide)) hf' ?_) 902 s' Ma hs' hJa' hfa (offF_ok (off_sR hp) hJa.2.2.1 (offF_ok (off_sN hp) hJ9.2.2.1 g8)) (by have := hJa.2.2.2; have : (0 : Int) ≤ (mI Ma 150 5).toInt := this; omega)
  rw [(hJ'.2.2.1 150 2 rfl).1, t8]
  rfl
end CLO
