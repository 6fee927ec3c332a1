/-! the class's close: taped is 0 behind it, or as it was -/
section CL6
variable {l : Launch} {X : Nat × (Nat → Int32)} {d : Nat} {M : Mm} {kr : KR}
def msZ8 : Md3 := [(1, 1, 2), (1, 6, 6), (1, 8, 8), (1, 13, 13), (2, 1, 8), (2, 12, 14), (4, 0, 14), (5, 0, 14), (6, 0, 14), (7, 0, 4), (7, 10, 10), (7, 14, 14), (7, 17, 17), (8, 0, 5), (9, 0, 5), (10, 0, 5), (11, 0, 5), (12, 0, 5), (13, 0, 4), (14, 0, 4), (15, 0, 4), (16, 0, 3), (17, 0, 3), (18, 0, 3), (19, 0, 3), (20, 0, 4), (20, 10, 10), (20, 14, 14), (20, 17, 17), (21, 0, 5), (22, 0, 5), (23, 0, 5), (24, 0, 5), (25, 0, 5), (26, 0, 4), (27, 0, 4), (28, 0, 4), (29, 0, 3), (30, 0, 3), (31, 0, 3), (32, 0, 3), (33, 4, 5), (34, 0, 5), (35, 0, 5), (36, 0, 5), (37, 0, 4)]
def msY8 : Md3 := [(1, 1, 2), (1, 6, 6), (1, 8, 8), (1, 13, 13), (2, 12, 14), (4, 0, 14), (5, 0, 14), (6, 0, 14), (7, 0, 4), (7, 10, 10), (7, 14, 14), (7, 17, 17), (8, 0, 5), (9, 0, 5), (10, 0, 5), (11, 0, 5), (12, 0, 5), (13, 0, 4), (14, 0, 4), (15, 0, 4), (16, 0, 3), (17, 0, 3), (18, 0, 3), (19, 0, 3), (20, 0, 4), (20, 10, 10), (20, 14, 14), (20, 17, 17), (21, 0, 5), (22, 0, 5), (23, 0, 5), (24, 0, 5), (25, 0, 5), (26, 0, 4), (27, 0, 4), (28, 0, 4), (29, 0, 3), (30, 0, 3), (31, 0, 3), (32, 0, 3), (33, 4, 5), (34, 0, 5), (35, 0, 5), (36, 0, 5), (37, 0, 4), (2, 2, 8)]
def K68 : Con := ((0, [(2, 0, 0, [1]), (0, 0, 900, [])], []), msY8, [(some (0, iLo, iHi, []), [], [])])
def Ks68 : List Con := [Kc2, Kc61, Kc62, Kc63, Kc110, Kc111]
set_option maxRecDepth 20000 in
theorem t68 : run (stpc Pt8 msY8 K68.2.2 Ks68 152 cdX6_close) (hsp [] none []) 1000 29 (ent K68) = true := by decide +kernel
set_option maxRecDepth 20000 in
theorem cl6_ev {e : Int} {n : Int32} (hI : Iv Pt8 M) (he : eO e M) (h : ∀ (r : Int32) (M' : Mm), Jv Pt8 msZ8 (M, e) M' → mI M' 2 1 = (if inB n 0 (mI M 2 1) = true then 0 else mI M 2 1) → kr (some (.int r)) M') : Ev l X uX6_close (d + 11) true 0 0 [.ref 1, .int n] M kr := by
  have k1 : kk M 1 6 = true := kk_ok hI rfl
  have k2 : kk M 2 4 = true := kk_ok hI rfl
  have r0 : mR M 1 0 = 2 := List.mem_singleton.mp (hI.2.2.1 1 0 (by decide))
  have hJ0 : Jv Pt8 msZ8 (M, e) M := Jv.rf hI he
  refine Ev.of (by decide) (Nat.le_of_ble_eq_true rfl) ?_
  have refu : inB n 0 (mI M 2 1) = false → Wf l X uX6_close (d + 11) true (mC M + 0, mS M + 0) 15 [(0, .ref 1), (1, .int n)] [] M kr := by
    intro hb
    rw [hb] at h
    refine Wf.sAl tkX6_close rfl rfl rfl ?_
    refine Wf.sIc tkX6_close rfl ?_
    refine Wf.sCv (as := [.int 2]) (rest := []) tkX6_close rfl rfl k1 rfl ?_
    refine vc2 (d + 10) [.ref 1, .int 2] M _ hI he ⟨⟨rfl, List.mem_singleton.mpr rfl⟩, ⟨rfl, i32_lo _, i32_hi _⟩, trivial⟩ (fun f hf => absurd hf List.not_mem_nil) (fun r M2 hJ2 hq => ?_)
    obtain ⟨q, hq, g1, -, -⟩ := hq
    obtain rfl := List.mem_singleton.mp hq
    obtain ⟨x, rfl⟩ := gre_i g1
    exact Wf.sIr tkX6_close rfl (h x M2 (Jv_tr hJ0 hJ2 (by decide)) (by rw [(hJ2.2.2.1 2 1 rfl).1]; rfl))
  refine Wf.sIl tkX6_close rfl rfl ?_
  refine Wf.sIf (x := n) tkX6_close rfl (fun z => refu ?_) (fun z => ?_)
  · have z : n < 0 := z
    unfold inB
    rw [show decide (¬ n < 0) = false from decide_eq_false (fun q => q z)]
    rfl
  have z : ¬ n < 0 := z
  refine Wf.sIl tkX6_close rfl rfl ?_
  refine Wf.sAl tkX6_close rfl rfl rfl ?_
  refine Wf.sG tkX6_close rfl k1 ?_
  show Wf l X uX6_close (d + 11) true _ 9 _ [.ref (mR M 1 0), .int n] M kr
  rw [r0]
  refine Wf.sG tkX6_close rfl k2 ?_
  refine Wf.sCm (x := n) (y := mI M 2 1) tkX6_close rfl (fun z2 => ?_) (fun z2 => refu (by
    have z2 : ¬ n ≤ mI M 2 1 := z2
    unfold inB
    rw [show decide (¬ mI M 2 1 < n) = false from decide_eq_false (fun q => q (Int32.not_le.mp z2)), Bool.and_false]))
  have z2 : n ≤ mI M 2 1 := z2
  have hb : inB n 0 (mI M 2 1) = true := by
    unfold inB
    rw [show decide (¬ n < 0) = true from decide_eq_true z, show decide (¬ mI M 2 1 < n) = true from decide_eq_true (Int32.not_lt.mpr z2)]
    rfl
  rw [hb] at h
  have nb : 0 ≤ n.toInt ∧ n.toInt ≤ 900 := by
    have e0 : (0 : Int32).toInt = 0 := rfl
    have b := (hI.2.2.2 2 1 (by decide)).2
    have b : (mI M 2 1).toInt ≤ 900 := b
    rw [Int32.lt_iff_toInt_lt] at z
    rw [Int32.le_iff_toInt_le] at z2
    omega
  refine Wf.sAl tkX6_close rfl rfl rfl ?_
  refine Wf.sG tkX6_close rfl k1 ?_
  show Wf l X uX6_close (d + 11) true _ 25 _ [.ref (mR M 1 0)] M kr
  rw [r0]
  refine Wf.sIc tkX6_close rfl ?_
  refine Wf.sPI tkX6_close rfl k2 ?_
  have hJ1 : Jv Pt8 msZ8 (M, e) (wI M 2 1 0) := Jv.wI hJ0 (by decide) (by decide) (by decide)
  have hr : ∀ r M', Jv Pt8 msY8 (wI M 2 1 0, e) M' → gps [.ref 1, .int n] r M' K68.2.2 → kr r M' := by
    intro r M' hJ' hq
    obtain ⟨q, hq, g1, -, -⟩ := hq
    obtain rfl := List.mem_singleton.mp hq
    obtain ⟨x, rfl⟩ := gre_i g1
    exact h x M' (Jv_tr hJ1 hJ' (by decide)) (by rw [(hJ'.2.2.1 2 1 rfl).1]; rfl)
  exact from_ok (Hs := []) (fuel := 1000) (stp := stpc Pt8 msY8 K68.2.2 Ks68 152 cdX6_close) (J := Jv Pt8 msY8 (wI M 2 1 0, e)) (tb := ctb l X (d + 10) U0 cdX6_close) (by rw [← ceX6_close]; exact tkX6_close) (stpc_ok (M0 := (wI M 2 1 0, e)) (List.forall_mem_cons.mpr ⟨vc2 (d + 10), List.forall_mem_cons.mpr ⟨vc61 d, List.forall_mem_cons.mpr ⟨vc62 (d + 9), List.forall_mem_cons.mpr ⟨vc63 (d + 10), List.forall_mem_cons.mpr ⟨vc110 d, List.forall_mem_cons.mpr ⟨vc111 (d + 9), fun _ h => absurd h List.not_mem_nil⟩⟩⟩⟩⟩⟩) (cpyX (d + 10)) hr) (fun _ h => absurd h List.not_mem_nil) t68 (Jv.rf hJ1.2.1 hJ1.2.2.2) (ent_in (K := K68) (av := [.ref 1, .int n]) (Nat.le_of_ble_eq_true rfl) ⟨⟨rfl, List.mem_singleton.mpr rfl⟩, ⟨rfl, nb.1, nb.2⟩, trivial⟩ (fun f hm => absurd hm List.not_mem_nil))
end CL6
