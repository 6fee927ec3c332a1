noncomputable def Kc2 : Con := ((106, [(2, 0, 0, [1]), (0, iLo, iHi, [])], []), [(1, 13, 13)], [(some (0, (-1), (-1), []), [], [])])
set_option maxRecDepth 20000 in
theorem vc2 {l : Launch} {X : Nat × (Nat → Int32)} {e : Int} (d : Nat) : Vc l X U0 Pt8 e d Kc2 :=
  ckf (d := d) (Ks := []) (cy := 152) (cd := cdX6_refuse) (nl := 2) (fuel := 1000) (Hs := []) (by decide +kernel) (by decide +kernel) (fun na b => by rw [← ceX6_refuse]; exact tkX6_refuse) (fun _ h => absurd h List.not_mem_nil) (cpyX d) (by decide +kernel)
noncomputable def Kc3 : Con := ((279, [(0, 0, 900, []), (0, 900, 900, [])], []), [], [(some (0, 0, 900, []), [], [])])
set_option maxRecDepth 20000 in
theorem vc3 {l : Launch} {X : Nat × (Nat → Int32)} {e : Int} (d : Nat) : Vc l X U0 Pt8 e d Kc3 :=
  ckFf (d := d) (Ks := []) (cy := 152) (cd := cdJ9_min_7cf53) (nl := 2) (fuel := 1000) (Hs := []) (by decide +kernel) rfl (fun na b => by rw [← ceJ9_min_7cf53]; exact tkJ9_min_7cf53) (fun _ h => absurd h List.not_mem_nil) (cpyX d) (by decide +kernel)
noncomputable def Kc4 : Con := ((12, [(2, 0, 0, [7])], []), [(7, 0, 4), (7, 10, 10), (7, 14, 14), (7, 17, 17), (12, 0, 5)], [(none, [], [])])
set_option maxRecDepth 20000 in
theorem vc4 {l : Launch} {X : Nat × (Nat → Int32)} {e : Int} (d : Nat) : Vc l X U0 Pt8 e d Kc4 :=
  ckf (d := d) (Ks := []) (cy := 152) (cd := cdX3_clear) (nl := 2) (fuel := 1000) (Hs := [((42, 0), ([(0, (2, 0, 0, [7])), (1, (0, 1, 0, []))], [], [(0, 0), (0, 6)], [(7, 0, (0, 0, 0, [])), (7, 1, (0, 0, 0, [])), (7, 2, (0, 0, 0, [])), (7, 3, (0, 0, 0, [])), (7, 4, (0, 0, 0, [])), (7, 10, (0, 0, 0, [])), (7, 14, (0, 0, 0, [])), (7, 17, (0, 0, 0, []))]), [(0, 1, 0)], (12, [(1, (-2))]), [])]) (by decide +kernel) (by decide +kernel) (fun na b => by rw [← ceX3_clear]; exact tkX3_clear) (fun _ h => absurd h List.not_mem_nil) (cpyX d) (by decide +kernel)
noncomputable def Kc5 : Con := ((27, [(2, 0, 0, [2])], [(2, 3, (2, 0, 0, [7])), (2, 6, (0, 0, 899, []))]), [(2, 4, 4), (2, 6, 7)], [(none, [], [])])
set_option maxRecDepth 20000 in
theorem vc5 {l : Launch} {X : Nat × (Nat → Int32)} {e : Int} (d : Nat) : Vc l X U0 Pt8 e d Kc5 :=
  ckf (d := d) (Ks := []) (cy := 152) (cd := cdX4_takeWhole) (nl := 1) (fuel := 1000) (Hs := [((5, 0), ([(0, (2, 0, 0, [2]))], [], [(0, 0), (0, 900), (iLo, iHi)], [(2, 3, (2, 0, 0, [7])), (2, 6, (0, 1, 0, [])), (2, 7, (0, 2, 0, []))]), [(2, 2, 6), (2, 2, 7)], (1800, [(1, (-2))]), [])]) (by decide +kernel) (by decide +kernel) (fun na b => by rw [← ceX4_takeWhole]; exact tkX4_takeWhole) (fun _ h => absurd h List.not_mem_nil) (cpyX d) (by decide +kernel)
noncomputable def Kc6 : Con := ((26, [(2, 0, 0, [2])], [(2, 3, (2, 0, 0, [7])), (2, 6, (0, 0, 899, []))]), [(2, 4, 4), (2, 6, 6), (2, 8, 8)], [(none, [], [])])
set_option maxRecDepth 20000 in
theorem vc6 {l : Launch} {X : Nat × (Nat → Int32)} {e : Int} (d : Nat) : Vc l X U0 Pt8 e d Kc6 :=
  ckf (d := d) (Ks := []) (cy := 152) (cd := cdX4_takeWord) (nl := 1) (fuel := 1000) (Hs := [((5, 0), ([(0, (2, 0, 0, [2]))], [], [(0, 0), (0, 900)], [(2, 3, (2, 0, 0, [7])), (2, 6, (0, 1, 0, []))]), [(2, 2, 6)], (1800, [(1, (-2))]), [])]) (by decide +kernel) (by decide +kernel) (fun na b => by rw [← ceX4_takeWord]; exact tkX4_takeWord) (fun _ h => absurd h List.not_mem_nil) (cpyX d) (by decide +kernel)
noncomputable def Kc7 : Con := ((25, [(2, 0, 0, [2])], [(2, 3, (2, 0, 0, [7]))]), [(2, 4, 8)], [(none, [], [])])
set_option maxRecDepth 20000 in
theorem vc7 {l : Launch} {X : Nat × (Nat → Int32)} {e : Int} (d : Nat) : Vc l X U0 Pt8 e (d + 1) Kc7 :=
  ckf (d := d) (Ks := [Kc5, Kc6]) (cy := 152) (cd := cdX4_take) (nl := 1) (fuel := 1000) (Hs := [((8, 0), ([(0, (2, 0, 0, [2]))], [], [(0, 0), (0, 900), (0, 900)], [(2, 3, (2, 0, 0, [7])), (2, 5, (0, 1, 0, [])), (2, 6, (0, 2, 0, []))]), [(2, 2, 5), (2, 2, 6)], (1800, [(1, (-2))]), [])]) (by decide +kernel) (by decide +kernel) (fun na b => by rw [← ceX4_take]; exact tkX4_take) (List.forall_mem_cons.mpr ⟨vc5 d, List.forall_mem_cons.mpr ⟨vc6 d, fun _ h => absurd h List.not_mem_nil⟩⟩) (cpyX d) (by decide +kernel)
noncomputable def Kc8 : Con := ((24, [(2, 0, 0, [2]), (0, iLo, iHi, [])], [(2, 3, (2, 0, 0, [7]))]), [(2, 13, 14)], [(some (0, 0, 0, []), [], [])])
set_option maxRecDepth 20000 in
theorem vc8 {l : Launch} {X : Nat × (Nat → Int32)} {e : Int} (d : Nat) : Vc l X U0 Pt8 e d Kc8 :=
  ckf (d := d) (Ks := []) (cy := 152) (cd := cdX4_fails) (nl := 2) (fuel := 1000) (Hs := []) (by decide +kernel) (by decide +kernel) (fun na b => by rw [← ceX4_fails]; exact tkX4_fails) (fun _ h => absurd h List.not_mem_nil) (cpyX d) (by decide +kernel)
noncomputable def Kc9 : Con := ((28, [(2, 0, 0, [2]), (2, 0, 0, [5000, 5001, 5002, 5003, 5004, 5005, 5006, 5007, 5008, 5009, 5010, 5011, 5012, 5013, 5014, 5015, 5016, 5017, 5018, 5019, 5020])], []), [], [(some (0, 0, 0, []), [], []), (some (0, 1, 1, []), [], [])])
set_option maxRecDepth 20000 in
theorem vc9 {l : Launch} {X : Nat × (Nat → Int32)} {e : Int} (d : Nat) : Vc l X U0 Pt8 e (d + 5) Kc9 := vh_isWord d
noncomputable def Kc10 : Con := ((29, [(2, 0, 0, [2])], [(2, 3, (2, 0, 0, [7]))]), [], [(some (0, 0, 0, []), [], []), (some (0, 1, 1, []), [], [])])
set_option maxRecDepth 20000 in
theorem vc10 {l : Launch} {X : Nat × (Nat → Int32)} {e : Int} (d : Nat) : Vc l X U0 Pt8 e (d + 6) Kc10 :=
  ckf (d := (d + 5)) (Ks := [Kc9]) (cy := 152) (cd := cdX4_beginsLine) (nl := 1) (fuel := 1000) (Hs := []) (by decide +kernel) (by decide +kernel) (fun na b => by rw [← ceX4_beginsLine]; exact tkX4_beginsLine) (List.forall_mem_cons.mpr ⟨vc9 d, fun _ h => absurd h List.not_mem_nil⟩) (cpyX (d + 5)) (by decide +kernel)
noncomputable def Kc11 : Con := ((43, [(2, 0, 0, [2])], [(2, 3, (2, 0, 0, [7]))]), [], [(some (0, (-2), (-2), []), [], []), (some (0, 0, 14, []), [], [])])
set_option maxRecDepth 20000 in
theorem vc11 {l : Launch} {X : Nat × (Nat → Int32)} {e : Int} (d : Nat) : Vc l X U0 Pt8 e d Kc11 :=
  ckf (d := d) (Ks := []) (cy := 152) (cd := cdX4_nameAt) (nl := 2) (fuel := 1000) (Hs := [((2, 0), ([(0, (2, 0, 0, [2])), (1, (0, 1, 0, []))], [], [(0, 0), (0, 15)], [(2, 3, (2, 0, 0, [7]))]), [(0, 1, 0)], (30, [(1, (-2))]), [])]) (by decide +kernel) (by decide +kernel) (fun na b => by rw [← ceX4_nameAt]; exact tkX4_nameAt) (fun _ h => absurd h List.not_mem_nil) (cpyX d) (by decide +kernel)
noncomputable def Kc12 : Con := ((42, [(2, 0, 0, [2]), (0, iLo, iHi, [])], [(2, 3, (2, 0, 0, [7]))]), [(2, 13, 14)], [(some (0, (-2), (-2), []), [], []), (some (0, 0, 5, []), [], [])])
set_option maxRecDepth 20000 in
theorem vc12 {l : Launch} {X : Nat × (Nat → Int32)} {e : Int} (d : Nat) : Vc l X U0 Pt8 e (d + 7) Kc12 :=
  ckf (d := (d + 6)) (Ks := [Kc8, Kc10, Kc11]) (cy := 152) (cd := cdX4_named) (nl := 3) (fuel := 1000) (Hs := []) (by decide +kernel) (by decide +kernel) (fun na b => by rw [← ceX4_named]; exact tkX4_named) (List.forall_mem_cons.mpr ⟨vc8 (d + 6), List.forall_mem_cons.mpr ⟨vc10 d, List.forall_mem_cons.mpr ⟨vc11 (d + 6), fun _ h => absurd h List.not_mem_nil⟩⟩⟩) (cpyX (d + 6)) (by decide +kernel)
noncomputable def Kc13 : Con := ((107, [(0, iLo, iHi, []), (0, 1, 1, []), (0, 40, 40, [])], []), [], [(some (0, 0, 0, []), [], []), (some (0, 1, 1, []), [(0, 1, 40)], [])])
set_option maxRecDepth 20000 in
theorem vc13 {l : Launch} {X : Nat × (Nat → Int32)} {e : Int} (d : Nat) : Vc l X U0 Pt8 e d Kc13 :=
  ckf (d := d) (Ks := []) (cy := 152) (cd := cdX6_within) (nl := 3) (fuel := 1000) (Hs := []) (by decide +kernel) (by decide +kernel) (fun na b => by rw [← ceX6_within]; exact tkX6_within) (fun _ h => absurd h List.not_mem_nil) (cpyX d) (by decide +kernel)
noncomputable def Kc14 : Con := ((40, [(2, 0, 0, [2]), (0, 1, 1, []), (0, 40, 40, [])], [(2, 3, (2, 0, 0, [7]))]), [(2, 13, 14)], [(some (0, 0, 0, []), [], []), (some (0, 1, 1, []), [], [(2, 7, (0, 1, 40, []))])])
set_option maxRecDepth 20000 in
theorem vc14 {l : Launch} {X : Nat × (Nat → Int32)} {e : Int} (d : Nat) : Vc l X U0 Pt8 e (d + 1) Kc14 :=
  ckf (d := d) (Ks := [Kc13, Kc8]) (cy := 152) (cd := cdX4_bounded) (nl := 3) (fuel := 1000) (Hs := []) (by decide +kernel) (by decide +kernel) (fun na b => by rw [← ceX4_bounded]; exact tkX4_bounded) (List.forall_mem_cons.mpr ⟨vc13 d, List.forall_mem_cons.mpr ⟨vc8 d, fun _ h => absurd h List.not_mem_nil⟩⟩) (cpyX d) (by decide +kernel)
noncomputable def Kc15 : Con := ((39, [(2, 0, 0, [2]), (2, 0, 0, [5020]), (0, 1, 1, []), (0, 40, 40, [])], [(2, 3, (2, 0, 0, [7]))]), [(2, 4, 8), (2, 13, 14)], [(some (0, 0, 0, []), [], []), (some (0, 1, 1, []), [], [(2, 7, (0, 1, 40, []))])])
set_option maxRecDepth 20000 in
theorem vc15 {l : Launch} {X : Nat × (Nat → Int32)} {e : Int} (d : Nat) : Vc l X U0 Pt8 e (d + 6) Kc15 :=
  ckf (d := (d + 5)) (Ks := [Kc9, Kc8, Kc7, Kc14]) (cy := 152) (cd := cdX4_labelled) (nl := 4) (fuel := 1000) (Hs := []) (by decide +kernel) (by decide +kernel) (fun na b => by rw [← ceX4_labelled]; exact tkX4_labelled) (List.forall_mem_cons.mpr ⟨vc9 d, List.forall_mem_cons.mpr ⟨vc8 (d + 5), List.forall_mem_cons.mpr ⟨vc7 (d + 4), List.forall_mem_cons.mpr ⟨vc14 (d + 4), fun _ h => absurd h List.not_mem_nil⟩⟩⟩⟩) (cpyX (d + 5)) (by decide +kernel)
noncomputable def Kc16 : Con := ((38, [(2, 0, 0, [2])], [(2, 3, (2, 0, 0, [7]))]), [(2, 4, 8), (2, 13, 14), (12, 0, 5)], [(some (0, 0, 0, []), [], []), (some (0, 1, 1, []), [], [])])
set_option maxRecDepth 20000 in
theorem vc16 {l : Launch} {X : Nat × (Nat → Int32)} {e : Int} (d : Nat) : Vc l X U0 Pt8 e (d + 8) Kc16 :=
  ckf (d := (d + 7)) (Ks := [Kc7, Kc12, Kc15, Kc8]) (cy := 152) (cd := cdX4_readsDropped) (nl := 2) (fuel := 1000) (Hs := []) (by decide +kernel) (by decide +kernel) (fun na b => by rw [← ceX4_readsDropped]; exact tkX4_readsDropped) (List.forall_mem_cons.mpr ⟨vc7 (d + 6), List.forall_mem_cons.mpr ⟨vc12 d, List.forall_mem_cons.mpr ⟨vc15 (d + 1), List.forall_mem_cons.mpr ⟨vc8 (d + 7), fun _ h => absurd h List.not_mem_nil⟩⟩⟩⟩) (cpyX (d + 7)) (by decide +kernel)
noncomputable def Kc17 : Con := ((19, [(2, 0, 0, [7]), (0, iLo, iHi, [])], []), [], [(some (0, (-2), (-2), []), [], []), (some (0, 0, 3, []), [], [])])
set_option maxRecDepth 20000 in
theorem vc17 {l : Launch} {X : Nat × (Nat → Int32)} {e : Int} (d : Nat) : Vc l X U0 Pt8 e d Kc17 :=
  ckf (d := d) (Ks := []) (cy := 152) (cd := cdX3_unsureOf) (nl := 3) (fuel := 1000) (Hs := [((2, 0), ([(0, (2, 0, 0, [7])), (1, (0, 1, 0, [])), (2, (0, 2, 0, []))], [], [(0, 0), (iLo, iHi), (0, 4)], []), [(0, 1, 0), (0, 2, 0)], (8, [(2, (-2))]), [])]) (by decide +kernel) (by decide +kernel) (fun na b => by rw [← ceX3_unsureOf]; exact tkX3_unsureOf) (fun _ h => absurd h List.not_mem_nil) (cpyX d) (by decide +kernel)
noncomputable def Kc18 : Con := ((107, [(0, iLo, iHi, []), (0, 1, 1, []), (0, 30, 30, [])], []), [], [(some (0, 0, 0, []), [], []), (some (0, 1, 1, []), [(0, 1, 30)], [])])
set_option maxRecDepth 20000 in
theorem vc18 {l : Launch} {X : Nat × (Nat → Int32)} {e : Int} (d : Nat) : Vc l X U0 Pt8 e d Kc18 :=
  ckf (d := d) (Ks := []) (cy := 152) (cd := cdX6_within) (nl := 3) (fuel := 1000) (Hs := []) (by decide +kernel) (by decide +kernel) (fun na b => by rw [← ceX6_within]; exact tkX6_within) (fun _ h => absurd h List.not_mem_nil) (cpyX d) (by decide +kernel)
noncomputable def Kc19 : Con := ((40, [(2, 0, 0, [2]), (0, 1, 1, []), (0, 30, 30, [])], [(2, 3, (2, 0, 0, [7]))]), [(2, 13, 14)], [(some (0, 0, 0, []), [], []), (some (0, 1, 1, []), [], [(2, 7, (0, 1, 30, []))])])
set_option maxRecDepth 20000 in
theorem vc19 {l : Launch} {X : Nat × (Nat → Int32)} {e : Int} (d : Nat) : Vc l X U0 Pt8 e (d + 1) Kc19 :=
  ckf (d := d) (Ks := [Kc18, Kc8]) (cy := 152) (cd := cdX4_bounded) (nl := 3) (fuel := 1000) (Hs := []) (by decide +kernel) (by decide +kernel) (fun na b => by rw [← ceX4_bounded]; exact tkX4_bounded) (List.forall_mem_cons.mpr ⟨vc18 d, List.forall_mem_cons.mpr ⟨vc8 d, fun _ h => absurd h List.not_mem_nil⟩⟩) (cpyX d) (by decide +kernel)
noncomputable def Kc20 : Con := ((37, [(2, 0, 0, [2])], [(2, 3, (2, 0, 0, [7]))]), [(2, 4, 8), (2, 13, 14), (7, 17, 17), (18, 0, 3), (19, 0, 3)], [(some (0, 0, 0, []), [], []), (some (0, 1, 1, []), [], [])])
set_option maxRecDepth 20000 in
theorem vc20 {l : Launch} {X : Nat × (Nat → Int32)} {e : Int} (d : Nat) : Vc l X U0 Pt8 e (d + 8) Kc20 :=
  ckf (d := (d + 7)) (Ks := [Kc7, Kc12, Kc17, Kc19, Kc8]) (cy := 152) (cd := cdX4_readsUnsure) (nl := 3) (fuel := 1000) (Hs := []) (by decide +kernel) (by decide +kernel) (fun na b => by rw [← ceX4_readsUnsure]; exact tkX4_readsUnsure) (List.forall_mem_cons.mpr ⟨vc7 (d + 6), List.forall_mem_cons.mpr ⟨vc12 d, List.forall_mem_cons.mpr ⟨vc17 (d + 7), List.forall_mem_cons.mpr ⟨vc19 (d + 6), List.forall_mem_cons.mpr ⟨vc8 (d + 7), fun _ h => absurd h List.not_mem_nil⟩⟩⟩⟩⟩) (cpyX (d + 7)) (by decide +kernel)
noncomputable def Kc21 : Con := ((41, [(2, 0, 0, [2]), (0, 3, 3, []), (0, 0, 3, [])], [(2, 3, (2, 0, 0, [7]))]), [(2, 4, 8), (2, 12, 14), (4, 0, 14), (5, 0, 14), (6, 0, 14)], [(some (0, 0, 0, []), [], []), (some (0, 1, 1, []), [], [])])
set_option maxRecDepth 20000 in
theorem vc21 {l : Launch} {X : Nat × (Nat → Int32)} {e : Int} (d : Nat) : Vc l X U0 Pt8 e (d + 7) Kc21 :=
  ckf (d := (d + 6)) (Ks := [Kc8, Kc10, Kc11, Kc7]) (cy := 152) (cd := cdX4_tells) (nl := 3) (fuel := 1000) (Hs := []) (by decide +kernel) (by decide +kernel) (fun na b => by rw [← ceX4_tells]; exact tkX4_tells) (List.forall_mem_cons.mpr ⟨vc8 (d + 6), List.forall_mem_cons.mpr ⟨vc10 d, List.forall_mem_cons.mpr ⟨vc11 (d + 6), List.forall_mem_cons.mpr ⟨vc7 (d + 5), fun _ h => absurd h List.not_mem_nil⟩⟩⟩⟩) (cpyX (d + 6)) (by decide +kernel)
noncomputable def Kc22 : Con := ((13, [(2, 0, 0, [7])], []), [], [(some (0, 0, 20, []), [], [])])
set_option maxRecDepth 20000 in
theorem vc22 {l : Launch} {X : Nat × (Nat → Int32)} {e : Int} (d : Nat) : Vc l X U0 Pt8 e d Kc22 :=
  ckf (d := d) (Ks := []) (cy := 152) (cd := cdX3_cells) (nl := 1) (fuel := 1000) (Hs := []) (by decide +kernel) (by decide +kernel) (fun na b => by rw [← ceX3_cells]; exact tkX3_cells) (fun _ h => absurd h List.not_mem_nil) (cpyX d) (by decide +kernel)
noncomputable def Kc23 : Con := ((107, [(0, iLo, iHi, []), (0, 0, 0, []), (0, (-1), 19, [])], []), [], [(some (0, 0, 0, []), [], []), (some (0, 1, 1, []), [(0, 0, 19), (2, 0, 19)], [])])
set_option maxRecDepth 20000 in
theorem vc23 {l : Launch} {X : Nat × (Nat → Int32)} {e : Int} (d : Nat) : Vc l X U0 Pt8 e d Kc23 :=
  ckf (d := d) (Ks := []) (cy := 152) (cd := cdX6_within) (nl := 3) (fuel := 1000) (Hs := []) (by decide +kernel) (by decide +kernel) (fun na b => by rw [← ceX6_within]; exact tkX6_within) (fun _ h => absurd h List.not_mem_nil) (cpyX d) (by decide +kernel)
noncomputable def Kc24 : Con := ((40, [(2, 0, 0, [2]), (0, 0, 0, []), (0, (-1), 19, [])], [(2, 3, (2, 0, 0, [7]))]), [(2, 13, 14)], [(some (0, 0, 0, []), [], []), (some (0, 1, 1, []), [(2, 0, 19)], [(2, 7, (0, 0, 19, []))])])
set_option maxRecDepth 20000 in
theorem vc24 {l : Launch} {X : Nat × (Nat → Int32)} {e : Int} (d : Nat) : Vc l X U0 Pt8 e (d + 1) Kc24 :=
  ckf (d := d) (Ks := [Kc23, Kc8]) (cy := 152) (cd := cdX4_bounded) (nl := 3) (fuel := 1000) (Hs := []) (by decide +kernel) (by decide +kernel) (fun na b => by rw [← ceX4_bounded]; exact tkX4_bounded) (List.forall_mem_cons.mpr ⟨vc23 d, List.forall_mem_cons.mpr ⟨vc8 d, fun _ h => absurd h List.not_mem_nil⟩⟩) (cpyX d) (by decide +kernel)
noncomputable def Kc25 : Con := ((39, [(2, 0, 0, [2]), (2, 0, 0, [5018]), (0, 0, 0, []), (0, (-1), 19, [])], [(2, 3, (2, 0, 0, [7]))]), [(2, 4, 8), (2, 13, 14)], [(some (0, 0, 0, []), [], []), (some (0, 1, 1, []), [(3, 0, 19)], [(2, 7, (0, 0, 19, []))])])
set_option maxRecDepth 20000 in
theorem vc25 {l : Launch} {X : Nat × (Nat → Int32)} {e : Int} (d : Nat) : Vc l X U0 Pt8 e (d + 6) Kc25 :=
  ckf (d := (d + 5)) (Ks := [Kc9, Kc8, Kc7, Kc24]) (cy := 152) (cd := cdX4_labelled) (nl := 4) (fuel := 1000) (Hs := []) (by decide +kernel) (by decide +kernel) (fun na b => by rw [← ceX4_labelled]; exact tkX4_labelled) (List.forall_mem_cons.mpr ⟨vc9 d, List.forall_mem_cons.mpr ⟨vc8 (d + 5), List.forall_mem_cons.mpr ⟨vc7 (d + 4), List.forall_mem_cons.mpr ⟨vc24 (d + 4), fun _ h => absurd h List.not_mem_nil⟩⟩⟩⟩) (cpyX (d + 5)) (by decide +kernel)
noncomputable def Kc26 : Con := ((14, [(2, 0, 0, [7]), (0, iLo, iHi, [])], []), [], [(some (0, 0, 0, []), [], []), (some (0, 1, 1, []), [], [])])
set_option maxRecDepth 20000 in
theorem vc26 {l : Launch} {X : Nat × (Nat → Int32)} {e : Int} (d : Nat) : Vc l X U0 Pt8 e d Kc26 :=
  ckf (d := d) (Ks := []) (cy := 152) (cd := cdX3_isWall) (nl := 2) (fuel := 1000) (Hs := []) (by decide +kernel) (by decide +kernel) (fun na b => by rw [← ceX3_isWall]; exact tkX3_isWall) (fun _ h => absurd h List.not_mem_nil) (cpyX d) (by decide +kernel)
noncomputable def Kc27 : Con := ((39, [(2, 0, 0, [2]), (2, 0, 0, [5019]), (0, 0, 0, []), (0, (-1), 19, [])], [(2, 3, (2, 0, 0, [7]))]), [(2, 4, 8), (2, 13, 14)], [(some (0, 0, 0, []), [], []), (some (0, 1, 1, []), [(3, 0, 19)], [(2, 7, (0, 0, 19, []))])])
set_option maxRecDepth 20000 in
theorem vc27 {l : Launch} {X : Nat × (Nat → Int32)} {e : Int} (d : Nat) : Vc l X U0 Pt8 e (d + 6) Kc27 :=
  ckf (d := (d + 5)) (Ks := [Kc9, Kc8, Kc7, Kc24]) (cy := 152) (cd := cdX4_labelled) (nl := 4) (fuel := 1000) (Hs := []) (by decide +kernel) (by decide +kernel) (fun na b => by rw [← ceX4_labelled]; exact tkX4_labelled) (List.forall_mem_cons.mpr ⟨vc9 d, List.forall_mem_cons.mpr ⟨vc8 (d + 5), List.forall_mem_cons.mpr ⟨vc7 (d + 4), List.forall_mem_cons.mpr ⟨vc24 (d + 4), fun _ h => absurd h List.not_mem_nil⟩⟩⟩⟩) (cpyX (d + 5)) (by decide +kernel)
noncomputable def Kc28 : Con := ((36, [(2, 0, 0, [2])], [(2, 3, (2, 0, 0, [7]))]), [(2, 4, 8), (2, 12, 14), (4, 0, 14), (5, 0, 14), (6, 0, 14), (7, 14, 14), (16, 0, 3), (17, 0, 3)], [(some (0, 0, 0, []), [], []), (some (0, 1, 1, []), [], [])])
set_option maxRecDepth 20000 in
theorem vc28 {l : Launch} {X : Nat × (Nat → Int32)} {e : Int} (d : Nat) : Vc l X U0 Pt8 e (d + 8) Kc28 :=
  ckf (d := (d + 7)) (Ks := [Kc7, Kc21, Kc22, Kc25, Kc26, Kc27, Kc8]) (cy := 152) (cd := cdX4_readsWalker) (nl := 2) (fuel := 1000) (Hs := []) (by decide +kernel) (by decide +kernel) (fun na b => by rw [← ceX4_readsWalker]; exact tkX4_readsWalker) (List.forall_mem_cons.mpr ⟨vc7 (d + 6), List.forall_mem_cons.mpr ⟨vc21 d, List.forall_mem_cons.mpr ⟨vc22 (d + 7), List.forall_mem_cons.mpr ⟨vc25 (d + 1), List.forall_mem_cons.mpr ⟨vc26 (d + 7), List.forall_mem_cons.mpr ⟨vc27 (d + 1), List.forall_mem_cons.mpr ⟨vc8 (d + 7), fun _ h => absurd h List.not_mem_nil⟩⟩⟩⟩⟩⟩⟩) (cpyX (d + 7)) (by decide +kernel)
noncomputable def Kc29 : Con := ((41, [(2, 0, 0, [2]), (0, 2, 2, []), (0, 0, 4, [])], [(2, 3, (2, 0, 0, [7]))]), [(2, 4, 8), (2, 12, 14), (4, 0, 14), (5, 0, 14), (6, 0, 14)], [(some (0, 0, 0, []), [], []), (some (0, 1, 1, []), [], [])])
set_option maxRecDepth 20000 in
theorem vc29 {l : Launch} {X : Nat × (Nat → Int32)} {e : Int} (d : Nat) : Vc l X U0 Pt8 e (d + 7) Kc29 :=
  ckf (d := (d + 6)) (Ks := [Kc8, Kc10, Kc11, Kc7]) (cy := 152) (cd := cdX4_tells) (nl := 3) (fuel := 1000) (Hs := []) (by decide +kernel) (by decide +kernel) (fun na b => by rw [← ceX4_tells]; exact tkX4_tells) (List.forall_mem_cons.mpr ⟨vc8 (d + 6), List.forall_mem_cons.mpr ⟨vc10 d, List.forall_mem_cons.mpr ⟨vc11 (d + 6), List.forall_mem_cons.mpr ⟨vc7 (d + 5), fun _ h => absurd h List.not_mem_nil⟩⟩⟩⟩) (cpyX (d + 6)) (by decide +kernel)
noncomputable def Kc30 : Con := ((18, [(2, 0, 0, [7]), (0, iLo, iHi, [])], []), [], [(some (0, (-2), (-2), []), [], []), (some (0, 0, 4, []), [], [])])
set_option maxRecDepth 20000 in
theorem vc30 {l : Launch} {X : Nat × (Nat → Int32)} {e : Int} (d : Nat) : Vc l X U0 Pt8 e d Kc30 :=
  ckf (d := d) (Ks := []) (cy := 152) (cd := cdX3_toldCanonOf) (nl := 3) (fuel := 1000) (Hs := [((2, 0), ([(0, (2, 0, 0, [7])), (1, (0, 1, 0, [])), (2, (0, 2, 0, []))], [], [(0, 0), (iLo, iHi), (0, 5)], []), [(0, 1, 0), (0, 2, 0)], (10, [(2, (-2))]), [])]) (by decide +kernel) (by decide +kernel) (fun na b => by rw [← ceX3_toldCanonOf]; exact tkX3_toldCanonOf) (fun _ h => absurd h List.not_mem_nil) (cpyX d) (by decide +kernel)
noncomputable def Kc31 : Con := ((39, [(2, 0, 0, [2]), (2, 0, 0, [5016]), (0, 1, 1, []), (0, 30, 30, [])], [(2, 3, (2, 0, 0, [7]))]), [(2, 4, 8), (2, 13, 14)], [(some (0, 0, 0, []), [], []), (some (0, 1, 1, []), [], [(2, 7, (0, 1, 30, []))])])
set_option maxRecDepth 20000 in
theorem vc31 {l : Launch} {X : Nat × (Nat → Int32)} {e : Int} (d : Nat) : Vc l X U0 Pt8 e (d + 6) Kc31 :=
  ckf (d := (d + 5)) (Ks := [Kc9, Kc8, Kc7, Kc19]) (cy := 152) (cd := cdX4_labelled) (nl := 4) (fuel := 1000) (Hs := []) (by decide +kernel) (by decide +kernel) (fun na b => by rw [← ceX4_labelled]; exact tkX4_labelled) (List.forall_mem_cons.mpr ⟨vc9 d, List.forall_mem_cons.mpr ⟨vc8 (d + 5), List.forall_mem_cons.mpr ⟨vc7 (d + 4), List.forall_mem_cons.mpr ⟨vc19 (d + 4), fun _ h => absurd h List.not_mem_nil⟩⟩⟩⟩) (cpyX (d + 5)) (by decide +kernel)
noncomputable def Kc32 : Con := ((107, [(0, iLo, iHi, []), (0, 1, 1, []), (0, 9, 9, [])], []), [], [(some (0, 0, 0, []), [], []), (some (0, 1, 1, []), [(0, 1, 9)], [])])
set_option maxRecDepth 20000 in
theorem vc32 {l : Launch} {X : Nat × (Nat → Int32)} {e : Int} (d : Nat) : Vc l X U0 Pt8 e d Kc32 :=
  ckf (d := d) (Ks := []) (cy := 152) (cd := cdX6_within) (nl := 3) (fuel := 1000) (Hs := []) (by decide +kernel) (by decide +kernel) (fun na b => by rw [← ceX6_within]; exact tkX6_within) (fun _ h => absurd h List.not_mem_nil) (cpyX d) (by decide +kernel)
noncomputable def Kc33 : Con := ((40, [(2, 0, 0, [2]), (0, 1, 1, []), (0, 9, 9, [])], [(2, 3, (2, 0, 0, [7]))]), [(2, 13, 14)], [(some (0, 0, 0, []), [], []), (some (0, 1, 1, []), [], [(2, 7, (0, 1, 9, []))])])
set_option maxRecDepth 20000 in
theorem vc33 {l : Launch} {X : Nat × (Nat → Int32)} {e : Int} (d : Nat) : Vc l X U0 Pt8 e (d + 1) Kc33 :=
  ckf (d := d) (Ks := [Kc32, Kc8]) (cy := 152) (cd := cdX4_bounded) (nl := 3) (fuel := 1000) (Hs := []) (by decide +kernel) (by decide +kernel) (fun na b => by rw [← ceX4_bounded]; exact tkX4_bounded) (List.forall_mem_cons.mpr ⟨vc32 d, List.forall_mem_cons.mpr ⟨vc8 d, fun _ h => absurd h List.not_mem_nil⟩⟩) (cpyX d) (by decide +kernel)
noncomputable def Kc34 : Con := ((39, [(2, 0, 0, [2]), (2, 0, 0, [5017]), (0, 1, 1, []), (0, 9, 9, [])], [(2, 3, (2, 0, 0, [7]))]), [(2, 4, 8), (2, 13, 14)], [(some (0, 0, 0, []), [], []), (some (0, 1, 1, []), [], [(2, 7, (0, 1, 9, []))])])
set_option maxRecDepth 20000 in
theorem vc34 {l : Launch} {X : Nat × (Nat → Int32)} {e : Int} (d : Nat) : Vc l X U0 Pt8 e (d + 6) Kc34 :=
  ckf (d := (d + 5)) (Ks := [Kc9, Kc8, Kc7, Kc33]) (cy := 152) (cd := cdX4_labelled) (nl := 4) (fuel := 1000) (Hs := []) (by decide +kernel) (by decide +kernel) (fun na b => by rw [← ceX4_labelled]; exact tkX4_labelled) (List.forall_mem_cons.mpr ⟨vc9 d, List.forall_mem_cons.mpr ⟨vc8 (d + 5), List.forall_mem_cons.mpr ⟨vc7 (d + 4), List.forall_mem_cons.mpr ⟨vc33 (d + 4), fun _ h => absurd h List.not_mem_nil⟩⟩⟩⟩) (cpyX (d + 5)) (by decide +kernel)
noncomputable def Kc35 : Con := ((35, [(2, 0, 0, [2])], [(2, 3, (2, 0, 0, [7]))]), [(2, 4, 8), (2, 12, 14), (4, 0, 14), (5, 0, 14), (6, 0, 14), (7, 10, 10), (13, 0, 4), (14, 0, 4), (15, 0, 4)], [(some (0, 0, 0, []), [], []), (some (0, 1, 1, []), [], [])])
set_option maxRecDepth 20000 in
theorem vc35 {l : Launch} {X : Nat × (Nat → Int32)} {e : Int} (d : Nat) : Vc l X U0 Pt8 e (d + 8) Kc35 :=
  ckf (d := (d + 7)) (Ks := [Kc7, Kc29, Kc12, Kc30, Kc31, Kc34, Kc8]) (cy := 152) (cd := cdX4_readsCanon) (nl := 3) (fuel := 1000) (Hs := []) (by decide +kernel) (by decide +kernel) (fun na b => by rw [← ceX4_readsCanon]; exact tkX4_readsCanon) (List.forall_mem_cons.mpr ⟨vc7 (d + 6), List.forall_mem_cons.mpr ⟨vc29 d, List.forall_mem_cons.mpr ⟨vc12 d, List.forall_mem_cons.mpr ⟨vc30 (d + 7), List.forall_mem_cons.mpr ⟨vc31 (d + 1), List.forall_mem_cons.mpr ⟨vc34 (d + 1), List.forall_mem_cons.mpr ⟨vc8 (d + 7), fun _ h => absurd h List.not_mem_nil⟩⟩⟩⟩⟩⟩⟩) (cpyX (d + 7)) (by decide +kernel)
noncomputable def Kc36 : Con := ((41, [(2, 0, 0, [2]), (0, 1, 1, []), (0, 0, 5, [])], [(2, 3, (2, 0, 0, [7]))]), [(2, 4, 8), (2, 12, 14), (4, 0, 14), (5, 0, 14), (6, 0, 14)], [(some (0, 0, 0, []), [], []), (some (0, 1, 1, []), [], [])])
set_option maxRecDepth 20000 in
theorem vc36 {l : Launch} {X : Nat × (Nat → Int32)} {e : Int} (d : Nat) : Vc l X U0 Pt8 e (d + 7) Kc36 :=
  ckf (d := (d + 6)) (Ks := [Kc8, Kc10, Kc11, Kc7]) (cy := 152) (cd := cdX4_tells) (nl := 3) (fuel := 1000) (Hs := []) (by decide +kernel) (by decide +kernel) (fun na b => by rw [← ceX4_tells]; exact tkX4_tells) (List.forall_mem_cons.mpr ⟨vc8 (d + 6), List.forall_mem_cons.mpr ⟨vc10 d, List.forall_mem_cons.mpr ⟨vc11 (d + 6), List.forall_mem_cons.mpr ⟨vc7 (d + 5), fun _ h => absurd h List.not_mem_nil⟩⟩⟩⟩) (cpyX (d + 6)) (by decide +kernel)
noncomputable def Kc37 : Con := ((34, [(2, 0, 0, [2])], [(2, 3, (2, 0, 0, [7]))]), [], [(some (0, (-2), (-2), []), [], []), (some (0, 0, 2, []), [], [])])
set_option maxRecDepth 20000 in
theorem vc37 {l : Launch} {X : Nat × (Nat → Int32)} {e : Int} (d : Nat) : Vc l X U0 Pt8 e (d + 6) Kc37 :=
  ckf (d := (d + 5)) (Ks := [Kc9]) (cy := 152) (cd := cdX4_kindHere) (nl := 1) (fuel := 1000) (Hs := []) (by decide +kernel) (by decide +kernel) (fun na b => by rw [← ceX4_kindHere]; exact tkX4_kindHere) (List.forall_mem_cons.mpr ⟨vc9 d, fun _ h => absurd h List.not_mem_nil⟩) (cpyX (d + 5)) (by decide +kernel)
noncomputable def Kc38 : Con := ((107, [(0, iLo, iHi, []), (0, 1, 1, []), (0, 99, 99, [])], []), [], [(some (0, 0, 0, []), [], []), (some (0, 1, 1, []), [(0, 1, 99)], [])])
set_option maxRecDepth 20000 in
theorem vc38 {l : Launch} {X : Nat × (Nat → Int32)} {e : Int} (d : Nat) : Vc l X U0 Pt8 e d Kc38 :=
  ckf (d := d) (Ks := []) (cy := 152) (cd := cdX6_within) (nl := 3) (fuel := 1000) (Hs := []) (by decide +kernel) (by decide +kernel) (fun na b => by rw [← ceX6_within]; exact tkX6_within) (fun _ h => absurd h List.not_mem_nil) (cpyX d) (by decide +kernel)
noncomputable def Kc39 : Con := ((40, [(2, 0, 0, [2]), (0, 1, 1, []), (0, 99, 99, [])], [(2, 3, (2, 0, 0, [7]))]), [(2, 13, 14)], [(some (0, 0, 0, []), [], []), (some (0, 1, 1, []), [], [(2, 7, (0, 1, 99, []))])])
set_option maxRecDepth 20000 in
theorem vc39 {l : Launch} {X : Nat × (Nat → Int32)} {e : Int} (d : Nat) : Vc l X U0 Pt8 e (d + 1) Kc39 :=
  ckf (d := d) (Ks := [Kc38, Kc8]) (cy := 152) (cd := cdX4_bounded) (nl := 3) (fuel := 1000) (Hs := []) (by decide +kernel) (by decide +kernel) (fun na b => by rw [← ceX4_bounded]; exact tkX4_bounded) (List.forall_mem_cons.mpr ⟨vc38 d, List.forall_mem_cons.mpr ⟨vc8 d, fun _ h => absurd h List.not_mem_nil⟩⟩) (cpyX d) (by decide +kernel)
noncomputable def Kc40 : Con := ((39, [(2, 0, 0, [2]), (2, 0, 0, [5010]), (0, 1, 1, []), (0, 99, 99, [])], [(2, 3, (2, 0, 0, [7]))]), [(2, 4, 8), (2, 13, 14)], [(some (0, 0, 0, []), [], []), (some (0, 1, 1, []), [], [(2, 7, (0, 1, 99, []))])])
set_option maxRecDepth 20000 in
theorem vc40 {l : Launch} {X : Nat × (Nat → Int32)} {e : Int} (d : Nat) : Vc l X U0 Pt8 e (d + 6) Kc40 :=
  ckf (d := (d + 5)) (Ks := [Kc9, Kc8, Kc7, Kc39]) (cy := 152) (cd := cdX4_labelled) (nl := 4) (fuel := 1000) (Hs := []) (by decide +kernel) (by decide +kernel) (fun na b => by rw [← ceX4_labelled]; exact tkX4_labelled) (List.forall_mem_cons.mpr ⟨vc9 d, List.forall_mem_cons.mpr ⟨vc8 (d + 5), List.forall_mem_cons.mpr ⟨vc7 (d + 4), List.forall_mem_cons.mpr ⟨vc39 (d + 4), fun _ h => absurd h List.not_mem_nil⟩⟩⟩⟩) (cpyX (d + 5)) (by decide +kernel)
noncomputable def Kc41 : Con := ((107, [(0, iLo, iHi, []), (0, 0, 0, []), (0, 9, 9, [])], []), [], [(some (0, 0, 0, []), [], []), (some (0, 1, 1, []), [(0, 0, 9)], [])])
set_option maxRecDepth 20000 in
theorem vc41 {l : Launch} {X : Nat × (Nat → Int32)} {e : Int} (d : Nat) : Vc l X U0 Pt8 e d Kc41 :=
  ckf (d := d) (Ks := []) (cy := 152) (cd := cdX6_within) (nl := 3) (fuel := 1000) (Hs := []) (by decide +kernel) (by decide +kernel) (fun na b => by rw [← ceX6_within]; exact tkX6_within) (fun _ h => absurd h List.not_mem_nil) (cpyX d) (by decide +kernel)
noncomputable def Kc42 : Con := ((40, [(2, 0, 0, [2]), (0, 0, 0, []), (0, 9, 9, [])], [(2, 3, (2, 0, 0, [7]))]), [(2, 13, 14)], [(some (0, 0, 0, []), [], []), (some (0, 1, 1, []), [], [(2, 7, (0, 0, 9, []))])])
set_option maxRecDepth 20000 in
theorem vc42 {l : Launch} {X : Nat × (Nat → Int32)} {e : Int} (d : Nat) : Vc l X U0 Pt8 e (d + 1) Kc42 :=
  ckf (d := d) (Ks := [Kc41, Kc8]) (cy := 152) (cd := cdX4_bounded) (nl := 3) (fuel := 1000) (Hs := []) (by decide +kernel) (by decide +kernel) (fun na b => by rw [← ceX4_bounded]; exact tkX4_bounded) (List.forall_mem_cons.mpr ⟨vc41 d, List.forall_mem_cons.mpr ⟨vc8 d, fun _ h => absurd h List.not_mem_nil⟩⟩) (cpyX d) (by decide +kernel)
noncomputable def Kc43 : Con := ((39, [(2, 0, 0, [2]), (2, 0, 0, [5011]), (0, 0, 0, []), (0, 9, 9, [])], [(2, 3, (2, 0, 0, [7]))]), [(2, 4, 8), (2, 13, 14)], [(some (0, 0, 0, []), [], []), (some (0, 1, 1, []), [], [(2, 7, (0, 0, 9, []))])])
set_option maxRecDepth 20000 in
theorem vc43 {l : Launch} {X : Nat × (Nat → Int32)} {e : Int} (d : Nat) : Vc l X U0 Pt8 e (d + 6) Kc43 :=
  ckf (d := (d + 5)) (Ks := [Kc9, Kc8, Kc7, Kc42]) (cy := 152) (cd := cdX4_labelled) (nl := 4) (fuel := 1000) (Hs := []) (by decide +kernel) (by decide +kernel) (fun na b => by rw [← ceX4_labelled]; exact tkX4_labelled) (List.forall_mem_cons.mpr ⟨vc9 d, List.forall_mem_cons.mpr ⟨vc8 (d + 5), List.forall_mem_cons.mpr ⟨vc7 (d + 4), List.forall_mem_cons.mpr ⟨vc42 (d + 4), fun _ h => absurd h List.not_mem_nil⟩⟩⟩⟩) (cpyX (d + 5)) (by decide +kernel)
noncomputable def Kc44 : Con := ((39, [(2, 0, 0, [2]), (2, 0, 0, [5012]), (0, 0, 0, []), (0, (-1), 19, [])], [(2, 3, (2, 0, 0, [7]))]), [(2, 4, 8), (2, 13, 14)], [(some (0, 0, 0, []), [], []), (some (0, 1, 1, []), [(3, 0, 19)], [(2, 7, (0, 0, 19, []))])])
set_option maxRecDepth 20000 in
theorem vc44 {l : Launch} {X : Nat × (Nat → Int32)} {e : Int} (d : Nat) : Vc l X U0 Pt8 e (d + 6) Kc44 :=
  ckf (d := (d + 5)) (Ks := [Kc9, Kc8, Kc7, Kc24]) (cy := 152) (cd := cdX4_labelled) (nl := 4) (fuel := 1000) (Hs := []) (by decide +kernel) (by decide +kernel) (fun na b => by rw [← ceX4_labelled]; exact tkX4_labelled) (List.forall_mem_cons.mpr ⟨vc9 d, List.forall_mem_cons.mpr ⟨vc8 (d + 5), List.forall_mem_cons.mpr ⟨vc7 (d + 4), List.forall_mem_cons.mpr ⟨vc24 (d + 4), fun _ h => absurd h List.not_mem_nil⟩⟩⟩⟩) (cpyX (d + 5)) (by decide +kernel)
noncomputable def Kc45 : Con := ((17, [(2, 0, 0, [7]), (0, iLo, iHi, [])], []), [], [(some (0, (-2), (-2), []), [], []), (some (0, 0, 5, []), [], [])])
set_option maxRecDepth 20000 in
theorem vc45 {l : Launch} {X : Nat × (Nat → Int32)} {e : Int} (d : Nat) : Vc l X U0 Pt8 e d Kc45 :=
  ckf (d := d) (Ks := []) (cy := 152) (cd := cdX3_faceOver) (nl := 3) (fuel := 1000) (Hs := [((2, 0), ([(0, (2, 0, 0, [7])), (1, (0, 1, 0, [])), (2, (0, 2, 0, []))], [], [(0, 0), (iLo, iHi), (0, 6)], []), [(0, 1, 0), (0, 2, 0)], (12, [(2, (-2))]), [])]) (by decide +kernel) (by decide +kernel) (fun na b => by rw [← ceX3_faceOver]; exact tkX3_faceOver) (fun _ h => absurd h List.not_mem_nil) (cpyX d) (by decide +kernel)
noncomputable def Kc46 : Con := ((33, [(2, 0, 0, [2])], [(2, 3, (2, 0, 0, [7]))]), [(2, 4, 8), (2, 12, 14), (4, 0, 14), (5, 0, 14), (6, 0, 14), (7, 4, 4), (8, 0, 5), (9, 0, 5), (10, 0, 5), (11, 0, 5)], [(some (0, 0, 0, []), [], []), (some (0, 1, 1, []), [], [])])
set_option maxRecDepth 20000 in
theorem vc46 {l : Launch} {X : Nat × (Nat → Int32)} {e : Int} (d : Nat) : Vc l X U0 Pt8 e (d + 8) Kc46 :=
  ckf (d := (d + 7)) (Ks := [Kc7, Kc36, Kc37, Kc8, Kc40, Kc43, Kc22, Kc44, Kc45]) (cy := 152) (cd := cdX4_readsFace) (nl := 3) (fuel := 1000) (Hs := []) (by decide +kernel) (by decide +kernel) (fun na b => by rw [← ceX4_readsFace]; exact tkX4_readsFace) (List.forall_mem_cons.mpr ⟨vc7 (d + 6), List.forall_mem_cons.mpr ⟨vc36 d, List.forall_mem_cons.mpr ⟨vc37 (d + 1), List.forall_mem_cons.mpr ⟨vc8 (d + 7), List.forall_mem_cons.mpr ⟨vc40 (d + 1), List.forall_mem_cons.mpr ⟨vc43 (d + 1), List.forall_mem_cons.mpr ⟨vc22 (d + 7), List.forall_mem_cons.mpr ⟨vc44 (d + 1), List.forall_mem_cons.mpr ⟨vc45 (d + 7), fun _ h => absurd h List.not_mem_nil⟩⟩⟩⟩⟩⟩⟩⟩⟩) (cpyX (d + 7)) (by decide +kernel)
noncomputable def Kc47 : Con := ((276, [(0, iLo, iHi, [])], []), [], [(some (0, 0, 63, []), [], [])])
set_option maxRecDepth 20000 in
theorem vc47 {l : Launch} {X : Nat × (Nat → Int32)} {e : Int} (d : Nat) : Vc l X U0 Pt8 e d Kc47 :=
  ckFf (d := d) (Ks := []) (cy := 152) (cd := cdJ6_bitCount_0f7a4) (nl := 1) (fuel := 1000) (Hs := []) (by decide +kernel) rfl (fun na b => by rw [← ceJ6_bitCount_0f7a4]; exact tkJ6_bitCount_0f7a4) (fun _ h => absurd h List.not_mem_nil) (cpyX d) (by decide +kernel)
noncomputable def Kc48 : Con := ((15, [(2, 0, 0, [7])], []), [], [(some (0, 0, 63, []), [], [])])
set_option maxRecDepth 20000 in
theorem vc48 {l : Launch} {X : Nat × (Nat → Int32)} {e : Int} (d : Nat) : Vc l X U0 Pt8 e (d + 1) Kc48 :=
  ckf (d := d) (Ks := [Kc47]) (cy := 152) (cd := cdX3_wallCount) (nl := 1) (fuel := 1000) (Hs := []) (by decide +kernel) (by decide +kernel) (fun na b => by rw [← ceX3_wallCount]; exact tkX3_wallCount) (List.forall_mem_cons.mpr ⟨vc47 d, fun _ h => absurd h List.not_mem_nil⟩) (cpyX d) (by decide +kernel)
noncomputable def Kc49 : Con := ((32, [(2, 0, 0, [2])], [(2, 3, (2, 0, 0, [7]))]), [(2, 4, 8), (2, 13, 14), (7, 3, 3)], [(some (0, 0, 0, []), [], []), (some (0, 1, 1, []), [], [])])
set_option maxRecDepth 20000 in
theorem vc49 {l : Launch} {X : Nat × (Nat → Int32)} {e : Int} (d : Nat) : Vc l X U0 Pt8 e (d + 2) Kc49 :=
  ckf (d := (d + 1)) (Ks := [Kc48, Kc7, Kc22, Kc24, Kc26, Kc8]) (cy := 152) (cd := cdX4_readsWall) (nl := 1) (fuel := 1000) (Hs := []) (by decide +kernel) (by decide +kernel) (fun na b => by rw [← ceX4_readsWall]; exact tkX4_readsWall) (List.forall_mem_cons.mpr ⟨vc48 d, List.forall_mem_cons.mpr ⟨vc7 d, List.forall_mem_cons.mpr ⟨vc22 (d + 1), List.forall_mem_cons.mpr ⟨vc24 d, List.forall_mem_cons.mpr ⟨vc26 (d + 1), List.forall_mem_cons.mpr ⟨vc8 (d + 1), fun _ h => absurd h List.not_mem_nil⟩⟩⟩⟩⟩⟩) (cpyX (d + 1)) (by decide +kernel)
noncomputable def Kc50 : Con := ((107, [(0, iLo, iHi, []), (0, 2, 2, []), (0, 5, 5, [])], []), [], [(some (0, 0, 0, []), [], []), (some (0, 1, 1, []), [(0, 2, 5)], [])])
set_option maxRecDepth 20000 in
theorem vc50 {l : Launch} {X : Nat × (Nat → Int32)} {e : Int} (d : Nat) : Vc l X U0 Pt8 e d Kc50 :=
  ckf (d := d) (Ks := []) (cy := 152) (cd := cdX6_within) (nl := 3) (fuel := 1000) (Hs := []) (by decide +kernel) (by decide +kernel) (fun na b => by rw [← ceX6_within]; exact tkX6_within) (fun _ h => absurd h List.not_mem_nil) (cpyX d) (by decide +kernel)
noncomputable def Kc51 : Con := ((40, [(2, 0, 0, [2]), (0, 2, 2, []), (0, 5, 5, [])], [(2, 3, (2, 0, 0, [7]))]), [(2, 13, 14)], [(some (0, 0, 0, []), [], []), (some (0, 1, 1, []), [], [(2, 7, (0, 2, 5, []))])])
set_option maxRecDepth 20000 in
theorem vc51 {l : Launch} {X : Nat × (Nat → Int32)} {e : Int} (d : Nat) : Vc l X U0 Pt8 e (d + 1) Kc51 :=
  ckf (d := d) (Ks := [Kc50, Kc8]) (cy := 152) (cd := cdX4_bounded) (nl := 3) (fuel := 1000) (Hs := []) (by decide +kernel) (by decide +kernel) (fun na b => by rw [← ceX4_bounded]; exact tkX4_bounded) (List.forall_mem_cons.mpr ⟨vc50 d, List.forall_mem_cons.mpr ⟨vc8 d, fun _ h => absurd h List.not_mem_nil⟩⟩) (cpyX d) (by decide +kernel)
noncomputable def Kc52 : Con := ((39, [(2, 0, 0, [2]), (2, 0, 0, [5007]), (0, 2, 2, []), (0, 5, 5, [])], [(2, 3, (2, 0, 0, [7]))]), [(2, 4, 8), (2, 13, 14)], [(some (0, 0, 0, []), [], []), (some (0, 1, 1, []), [], [(2, 7, (0, 2, 5, []))])])
set_option maxRecDepth 20000 in
theorem vc52 {l : Launch} {X : Nat × (Nat → Int32)} {e : Int} (d : Nat) : Vc l X U0 Pt8 e (d + 6) Kc52 :=
  ckf (d := (d + 5)) (Ks := [Kc9, Kc8, Kc7, Kc51]) (cy := 152) (cd := cdX4_labelled) (nl := 4) (fuel := 1000) (Hs := []) (by decide +kernel) (by decide +kernel) (fun na b => by rw [← ceX4_labelled]; exact tkX4_labelled) (List.forall_mem_cons.mpr ⟨vc9 d, List.forall_mem_cons.mpr ⟨vc8 (d + 5), List.forall_mem_cons.mpr ⟨vc7 (d + 4), List.forall_mem_cons.mpr ⟨vc51 (d + 4), fun _ h => absurd h List.not_mem_nil⟩⟩⟩⟩) (cpyX (d + 5)) (by decide +kernel)
noncomputable def Kc53 : Con := ((107, [(0, iLo, iHi, []), (0, 2, 2, []), (0, 4, 4, [])], []), [], [(some (0, 0, 0, []), [], []), (some (0, 1, 1, []), [(0, 2, 4)], [])])
set_option maxRecDepth 20000 in
theorem vc53 {l : Launch} {X : Nat × (Nat → Int32)} {e : Int} (d : Nat) : Vc l X U0 Pt8 e d Kc53 :=
  ckf (d := d) (Ks := []) (cy := 152) (cd := cdX6_within) (nl := 3) (fuel := 1000) (Hs := []) (by decide +kernel) (by decide +kernel) (fun na b => by rw [← ceX6_within]; exact tkX6_within) (fun _ h => absurd h List.not_mem_nil) (cpyX d) (by decide +kernel)
noncomputable def Kc54 : Con := ((40, [(2, 0, 0, [2]), (0, 2, 2, []), (0, 4, 4, [])], [(2, 3, (2, 0, 0, [7]))]), [(2, 13, 14)], [(some (0, 0, 0, []), [], []), (some (0, 1, 1, []), [], [(2, 7, (0, 2, 4, []))])])
set_option maxRecDepth 20000 in
theorem vc54 {l : Launch} {X : Nat × (Nat → Int32)} {e : Int} (d : Nat) : Vc l X U0 Pt8 e (d + 1) Kc54 :=
  ckf (d := d) (Ks := [Kc53, Kc8]) (cy := 152) (cd := cdX4_bounded) (nl := 3) (fuel := 1000) (Hs := []) (by decide +kernel) (by decide +kernel) (fun na b => by rw [← ceX4_bounded]; exact tkX4_bounded) (List.forall_mem_cons.mpr ⟨vc53 d, List.forall_mem_cons.mpr ⟨vc8 d, fun _ h => absurd h List.not_mem_nil⟩⟩) (cpyX d) (by decide +kernel)
noncomputable def Kc55 : Con := ((39, [(2, 0, 0, [2]), (2, 0, 0, [5008]), (0, 2, 2, []), (0, 4, 4, [])], [(2, 3, (2, 0, 0, [7]))]), [(2, 4, 8), (2, 13, 14)], [(some (0, 0, 0, []), [], []), (some (0, 1, 1, []), [], [(2, 7, (0, 2, 4, []))])])
set_option maxRecDepth 20000 in
theorem vc55 {l : Launch} {X : Nat × (Nat → Int32)} {e : Int} (d : Nat) : Vc l X U0 Pt8 e (d + 6) Kc55 :=
  ckf (d := (d + 5)) (Ks := [Kc9, Kc8, Kc7, Kc54]) (cy := 152) (cd := cdX4_labelled) (nl := 4) (fuel := 1000) (Hs := []) (by decide +kernel) (by decide +kernel) (fun na b => by rw [← ceX4_labelled]; exact tkX4_labelled) (List.forall_mem_cons.mpr ⟨vc9 d, List.forall_mem_cons.mpr ⟨vc8 (d + 5), List.forall_mem_cons.mpr ⟨vc7 (d + 4), List.forall_mem_cons.mpr ⟨vc54 (d + 4), fun _ h => absurd h List.not_mem_nil⟩⟩⟩⟩) (cpyX (d + 5)) (by decide +kernel)
noncomputable def Kc56 : Con := ((107, [(0, iLo, iHi, []), (0, 0, 0, []), (0, 100, 100, [])], []), [], [(some (0, 0, 0, []), [], []), (some (0, 1, 1, []), [(0, 0, 100)], [])])
set_option maxRecDepth 20000 in
theorem vc56 {l : Launch} {X : Nat × (Nat → Int32)} {e : Int} (d : Nat) : Vc l X U0 Pt8 e d Kc56 :=
  ckf (d := d) (Ks := []) (cy := 152) (cd := cdX6_within) (nl := 3) (fuel := 1000) (Hs := []) (by decide +kernel) (by decide +kernel) (fun na b => by rw [← ceX6_within]; exact tkX6_within) (fun _ h => absurd h List.not_mem_nil) (cpyX d) (by decide +kernel)
noncomputable def Kc57 : Con := ((40, [(2, 0, 0, [2]), (0, 0, 0, []), (0, 100, 100, [])], [(2, 3, (2, 0, 0, [7]))]), [(2, 13, 14)], [(some (0, 0, 0, []), [], []), (some (0, 1, 1, []), [], [(2, 7, (0, 0, 100, []))])])
set_option maxRecDepth 20000 in
theorem vc57 {l : Launch} {X : Nat × (Nat → Int32)} {e : Int} (d : Nat) : Vc l X U0 Pt8 e (d + 1) Kc57 :=
  ckf (d := d) (Ks := [Kc56, Kc8]) (cy := 152) (cd := cdX4_bounded) (nl := 3) (fuel := 1000) (Hs := []) (by decide +kernel) (by decide +kernel) (fun na b => by rw [← ceX4_bounded]; exact tkX4_bounded) (List.forall_mem_cons.mpr ⟨vc56 d, List.forall_mem_cons.mpr ⟨vc8 d, fun _ h => absurd h List.not_mem_nil⟩⟩) (cpyX d) (by decide +kernel)
noncomputable def Kc58 : Con := ((39, [(2, 0, 0, [2]), (2, 0, 0, [5009]), (0, 0, 0, []), (0, 100, 100, [])], [(2, 3, (2, 0, 0, [7]))]), [(2, 4, 8), (2, 13, 14)], [(some (0, 0, 0, []), [], []), (some (0, 1, 1, []), [], [(2, 7, (0, 0, 100, []))])])
set_option maxRecDepth 20000 in
theorem vc58 {l : Launch} {X : Nat × (Nat → Int32)} {e : Int} (d : Nat) : Vc l X U0 Pt8 e (d + 6) Kc58 :=
  ckf (d := (d + 5)) (Ks := [Kc9, Kc8, Kc7, Kc57]) (cy := 152) (cd := cdX4_labelled) (nl := 4) (fuel := 1000) (Hs := []) (by decide +kernel) (by decide +kernel) (fun na b => by rw [← ceX4_labelled]; exact tkX4_labelled) (List.forall_mem_cons.mpr ⟨vc9 d, List.forall_mem_cons.mpr ⟨vc8 (d + 5), List.forall_mem_cons.mpr ⟨vc7 (d + 4), List.forall_mem_cons.mpr ⟨vc57 (d + 4), fun _ h => absurd h List.not_mem_nil⟩⟩⟩⟩) (cpyX (d + 5)) (by decide +kernel)
noncomputable def Kc59 : Con := ((31, [(2, 0, 0, [2])], [(2, 3, (2, 0, 0, [7]))]), [(2, 4, 8), (2, 13, 14), (7, 0, 2)], [(some (0, 0, 0, []), [], []), (some (0, 1, 1, []), [], [])])
set_option maxRecDepth 20000 in
theorem vc59 {l : Launch} {X : Nat × (Nat → Int32)} {e : Int} (d : Nat) : Vc l X U0 Pt8 e (d + 7) Kc59 :=
  ckf (d := (d + 6)) (Ks := [Kc7, Kc52, Kc55, Kc58]) (cy := 152) (cd := cdX4_readsClose) (nl := 3) (fuel := 1000) (Hs := []) (by decide +kernel) (by decide +kernel) (fun na b => by rw [← ceX4_readsClose]; exact tkX4_readsClose) (List.forall_mem_cons.mpr ⟨vc7 (d + 5), List.forall_mem_cons.mpr ⟨vc52 d, List.forall_mem_cons.mpr ⟨vc55 d, List.forall_mem_cons.mpr ⟨vc58 d, fun _ h => absurd h List.not_mem_nil⟩⟩⟩⟩) (cpyX (d + 6)) (by decide +kernel)
noncomputable def Kc60 : Con := ((30, [(2, 0, 0, [2])], [(2, 3, (2, 0, 0, [7]))]), [(2, 4, 8), (2, 12, 14), (4, 0, 14), (5, 0, 14), (6, 0, 14), (7, 0, 4), (7, 10, 10), (7, 14, 14), (7, 17, 17), (8, 0, 5), (9, 0, 5), (10, 0, 5), (11, 0, 5), (12, 0, 5), (13, 0, 4), (14, 0, 4), (15, 0, 4), (16, 0, 3), (17, 0, 3), (18, 0, 3), (19, 0, 3)], [(some (0, 0, 0, []), [], []), (some (0, 1, 1, []), [], [])])
set_option maxRecDepth 20000 in
theorem vc60 {l : Launch} {X : Nat × (Nat → Int32)} {e : Int} (d : Nat) : Vc l X U0 Pt8 e (d + 9) Kc60 :=
  ckf (d := (d + 8)) (Ks := [Kc10, Kc8, Kc9, Kc16, Kc20, Kc28, Kc35, Kc46, Kc49, Kc59]) (cy := 152) (cd := cdX4_readsLine) (nl := 1) (fuel := 1000) (Hs := []) (by decide +kernel) (by decide +kernel) (fun na b => by rw [← ceX4_readsLine]; exact tkX4_readsLine) (List.forall_mem_cons.mpr ⟨vc10 (d + 2), List.forall_mem_cons.mpr ⟨vc8 (d + 8), List.forall_mem_cons.mpr ⟨vc9 (d + 3), List.forall_mem_cons.mpr ⟨vc16 d, List.forall_mem_cons.mpr ⟨vc20 d, List.forall_mem_cons.mpr ⟨vc28 d, List.forall_mem_cons.mpr ⟨vc35 d, List.forall_mem_cons.mpr ⟨vc46 d, List.forall_mem_cons.mpr ⟨vc49 (d + 6), List.forall_mem_cons.mpr ⟨vc59 (d + 1), fun _ h => absurd h List.not_mem_nil⟩⟩⟩⟩⟩⟩⟩⟩⟩⟩) (cpyX (d + 8)) (by decide +kernel)
noncomputable def Kc61 : Con := ((23, [(2, 0, 0, [2]), (0, 0, 900, []), (2, 0, 0, [7])], []), [(2, 2, 8), (2, 12, 14), (4, 0, 14), (5, 0, 14), (6, 0, 14), (7, 0, 4), (7, 10, 10), (7, 14, 14), (7, 17, 17), (8, 0, 5), (9, 0, 5), (10, 0, 5), (11, 0, 5), (12, 0, 5), (13, 0, 4), (14, 0, 4), (15, 0, 4), (16, 0, 3), (17, 0, 3), (18, 0, 3), (19, 0, 3)], [(some (0, 0, 0, []), [], []), (some (0, 1, 1, []), [], [])])
set_option maxRecDepth 20000 in
theorem vc61 {l : Launch} {X : Nat × (Nat → Int32)} {e : Int} (d : Nat) : Vc l X U0 Pt8 e (d + 10) Kc61 :=
  ckf (d := (d + 9)) (Ks := [Kc3, Kc4, Kc7, Kc8, Kc60]) (cy := 152) (cd := cdX4_reads) (nl := 4) (fuel := 1000) (Hs := [((49, 0), ([(0, (2, 0, 0, [2])), (3, (0, 1, 0, []))], [], [(0, 0), (0, 901), (0, 900)], [(2, 2, (0, 2, 0, [])), (2, 3, (2, 0, 0, [7]))]), [(0, 3, 0), (2, 2, 2)], (1802, [(1, (-2))]), [])]) (by decide +kernel) (by decide +kernel) (fun na b => by rw [← ceX4_reads]; exact tkX4_reads) (List.forall_mem_cons.mpr ⟨vc3 (d + 9), List.forall_mem_cons.mpr ⟨vc4 (d + 9), List.forall_mem_cons.mpr ⟨vc7 (d + 8), List.forall_mem_cons.mpr ⟨vc8 (d + 9), List.forall_mem_cons.mpr ⟨vc60 d, fun _ h => absurd h List.not_mem_nil⟩⟩⟩⟩⟩) (cpyX (d + 9)) (by decide +kernel)
noncomputable def Kc62 : Con := ((9, [(2, 0, 0, [33]), (2, 0, 0, [7])], []), [(33, 4, 5), (34, 0, 5), (35, 0, 5), (36, 0, 5), (37, 0, 4)], [(none, [], [])])
set_option maxRecDepth 20000 in
theorem vc62 {l : Launch} {X : Nat × (Nat → Int32)} {e : Int} (d : Nat) : Vc l X U0 Pt8 e (d + 1) Kc62 :=
  ckf (d := d) (Ks := []) (cy := 152) (cd := cdX2_begin) (nl := 3) (fuel := 1000) (Hs := [((31, 0), ([(0, (2, 0, 0, [33])), (2, (0, 1, 0, []))], [], [(0, 0), (0, 6)], []), [(0, 2, 0)], (12, [(1, (-2))]), [])]) (by decide +kernel) (by decide +kernel) (fun na b => by rw [← ceX2_begin]; exact tkX2_begin) (fun _ h => absurd h List.not_mem_nil) (cpyX d) (by decide +kernel)
noncomputable def Kc63 : Con := ((105, [(2, 0, 0, [1]), (0, iLo, iHi, [])], []), [(1, 13, 13)], [(some (0, iLo, iHi, []), [], [])])
set_option maxRecDepth 20000 in
theorem vc63 {l : Launch} {X : Nat × (Nat → Int32)} {e : Int} (d : Nat) : Vc l X U0 Pt8 e d Kc63 :=
  ckf (d := d) (Ks := []) (cy := 152) (cd := cdX6_answer) (nl := 2) (fuel := 1000) (Hs := []) (by decide +kernel) (by decide +kernel) (fun na b => by rw [← ceX6_answer]; exact tkX6_answer) (fun _ h => absurd h List.not_mem_nil) (cpyX d) (by decide +kernel)
noncomputable def Kc64 : Con := ((12, [(2, 0, 0, [20])], []), [(20, 0, 4), (20, 10, 10), (20, 14, 14), (20, 17, 17), (25, 0, 5)], [(none, [], [])])
set_option maxRecDepth 20000 in
theorem vc64 {l : Launch} {X : Nat × (Nat → Int32)} {e : Int} (d : Nat) : Vc l X U0 Pt8 e d Kc64 :=
  ckf (d := d) (Ks := []) (cy := 152) (cd := cdX3_clear) (nl := 2) (fuel := 1000) (Hs := [((42, 0), ([(0, (2, 0, 0, [20])), (1, (0, 1, 0, []))], [], [(0, 0), (0, 6)], [(20, 0, (0, 0, 0, [])), (20, 1, (0, 0, 0, [])), (20, 2, (0, 0, 0, [])), (20, 3, (0, 0, 0, [])), (20, 4, (0, 0, 0, [])), (20, 10, (0, 0, 0, [])), (20, 14, (0, 0, 0, [])), (20, 17, (0, 0, 0, []))]), [(0, 1, 0)], (12, [(1, (-2))]), [])]) (by decide +kernel) (by decide +kernel) (fun na b => by rw [← ceX3_clear]; exact tkX3_clear) (fun _ h => absurd h List.not_mem_nil) (cpyX d) (by decide +kernel)
noncomputable def Kc65 : Con := ((27, [(2, 0, 0, [2])], [(2, 3, (2, 0, 0, [20])), (2, 6, (0, 0, 899, []))]), [(2, 4, 4), (2, 6, 7)], [(none, [], [])])
set_option maxRecDepth 20000 in
theorem vc65 {l : Launch} {X : Nat × (Nat → Int32)} {e : Int} (d : Nat) : Vc l X U0 Pt8 e d Kc65 :=
  ckf (d := d) (Ks := []) (cy := 152) (cd := cdX4_takeWhole) (nl := 1) (fuel := 1000) (Hs := [((5, 0), ([(0, (2, 0, 0, [2]))], [], [(0, 0), (0, 900), (iLo, iHi)], [(2, 3, (2, 0, 0, [20])), (2, 6, (0, 1, 0, [])), (2, 7, (0, 2, 0, []))]), [(2, 2, 6), (2, 2, 7)], (1800, [(1, (-2))]), [])]) (by decide +kernel) (by decide +kernel) (fun na b => by rw [← ceX4_takeWhole]; exact tkX4_takeWhole) (fun _ h => absurd h List.not_mem_nil) (cpyX d) (by decide +kernel)
noncomputable def Kc66 : Con := ((26, [(2, 0, 0, [2])], [(2, 3, (2, 0, 0, [20])), (2, 6, (0, 0, 899, []))]), [(2, 4, 4), (2, 6, 6), (2, 8, 8)], [(none, [], [])])
set_option maxRecDepth 20000 in
theorem vc66 {l : Launch} {X : Nat × (Nat → Int32)} {e : Int} (d : Nat) : Vc l X U0 Pt8 e d Kc66 :=
  ckf (d := d) (Ks := []) (cy := 152) (cd := cdX4_takeWord) (nl := 1) (fuel := 1000) (Hs := [((5, 0), ([(0, (2, 0, 0, [2]))], [], [(0, 0), (0, 900)], [(2, 3, (2, 0, 0, [20])), (2, 6, (0, 1, 0, []))]), [(2, 2, 6)], (1800, [(1, (-2))]), [])]) (by decide +kernel) (by decide +kernel) (fun na b => by rw [← ceX4_takeWord]; exact tkX4_takeWord) (fun _ h => absurd h List.not_mem_nil) (cpyX d) (by decide +kernel)
noncomputable def Kc67 : Con := ((25, [(2, 0, 0, [2])], [(2, 3, (2, 0, 0, [20]))]), [(2, 4, 8)], [(none, [], [])])
set_option maxRecDepth 20000 in
theorem vc67 {l : Launch} {X : Nat × (Nat → Int32)} {e : Int} (d : Nat) : Vc l X U0 Pt8 e (d + 1) Kc67 :=
  ckf (d := d) (Ks := [Kc65, Kc66]) (cy := 152) (cd := cdX4_take) (nl := 1) (fuel := 1000) (Hs := [((8, 0), ([(0, (2, 0, 0, [2]))], [], [(0, 0), (0, 900), (0, 900)], [(2, 3, (2, 0, 0, [20])), (2, 5, (0, 1, 0, [])), (2, 6, (0, 2, 0, []))]), [(2, 2, 5), (2, 2, 6)], (1800, [(1, (-2))]), [])]) (by decide +kernel) (by decide +kernel) (fun na b => by rw [← ceX4_take]; exact tkX4_take) (List.forall_mem_cons.mpr ⟨vc65 d, List.forall_mem_cons.mpr ⟨vc66 d, fun _ h => absurd h List.not_mem_nil⟩⟩) (cpyX d) (by decide +kernel)
noncomputable def Kc68 : Con := ((24, [(2, 0, 0, [2]), (0, iLo, iHi, [])], [(2, 3, (2, 0, 0, [20]))]), [(2, 13, 14)], [(some (0, 0, 0, []), [], [])])
set_option maxRecDepth 20000 in
theorem vc68 {l : Launch} {X : Nat × (Nat → Int32)} {e : Int} (d : Nat) : Vc l X U0 Pt8 e d Kc68 :=
  ckf (d := d) (Ks := []) (cy := 152) (cd := cdX4_fails) (nl := 2) (fuel := 1000) (Hs := []) (by decide +kernel) (by decide +kernel) (fun na b => by rw [← ceX4_fails]; exact tkX4_fails) (fun _ h => absurd h List.not_mem_nil) (cpyX d) (by decide +kernel)
noncomputable def Kc69 : Con := ((29, [(2, 0, 0, [2])], [(2, 3, (2, 0, 0, [20]))]), [], [(some (0, 0, 0, []), [], []), (some (0, 1, 1, []), [], [])])
set_option maxRecDepth 20000 in
theorem vc69 {l : Launch} {X : Nat × (Nat → Int32)} {e : Int} (d : Nat) : Vc l X U0 Pt8 e (d + 6) Kc69 :=
  ckf (d := (d + 5)) (Ks := [Kc9]) (cy := 152) (cd := cdX4_beginsLine) (nl := 1) (fuel := 1000) (Hs := []) (by decide +kernel) (by decide +kernel) (fun na b => by rw [← ceX4_beginsLine]; exact tkX4_beginsLine) (List.forall_mem_cons.mpr ⟨vc9 d, fun _ h => absurd h List.not_mem_nil⟩) (cpyX (d + 5)) (by decide +kernel)
noncomputable def Kc70 : Con := ((43, [(2, 0, 0, [2])], [(2, 3, (2, 0, 0, [20]))]), [], [(some (0, (-2), (-2), []), [], []), (some (0, 0, 14, []), [], [])])
set_option maxRecDepth 20000 in
theorem vc70 {l : Launch} {X : Nat × (Nat → Int32)} {e : Int} (d : Nat) : Vc l X U0 Pt8 e d Kc70 :=
  ckf (d := d) (Ks := []) (cy := 152) (cd := cdX4_nameAt) (nl := 2) (fuel := 1000) (Hs := [((2, 0), ([(0, (2, 0, 0, [2])), (1, (0, 1, 0, []))], [], [(0, 0), (0, 15)], [(2, 3, (2, 0, 0, [20]))]), [(0, 1, 0)], (30, [(1, (-2))]), [])]) (by decide +kernel) (by decide +kernel) (fun na b => by rw [← ceX4_nameAt]; exact tkX4_nameAt) (fun _ h => absurd h List.not_mem_nil) (cpyX d) (by decide +kernel)
noncomputable def Kc71 : Con := ((42, [(2, 0, 0, [2]), (0, iLo, iHi, [])], [(2, 3, (2, 0, 0, [20]))]), [(2, 13, 14)], [(some (0, (-2), (-2), []), [], []), (some (0, 0, 5, []), [], [])])
set_option maxRecDepth 20000 in
theorem vc71 {l : Launch} {X : Nat × (Nat → Int32)} {e : Int} (d : Nat) : Vc l X U0 Pt8 e (d + 7) Kc71 :=
  ckf (d := (d + 6)) (Ks := [Kc68, Kc69, Kc70]) (cy := 152) (cd := cdX4_named) (nl := 3) (fuel := 1000) (Hs := []) (by decide +kernel) (by decide +kernel) (fun na b => by rw [← ceX4_named]; exact tkX4_named) (List.forall_mem_cons.mpr ⟨vc68 (d + 6), List.forall_mem_cons.mpr ⟨vc69 d, List.forall_mem_cons.mpr ⟨vc70 (d + 6), fun _ h => absurd h List.not_mem_nil⟩⟩⟩) (cpyX (d + 6)) (by decide +kernel)
noncomputable def Kc72 : Con := ((40, [(2, 0, 0, [2]), (0, 1, 1, []), (0, 40, 40, [])], [(2, 3, (2, 0, 0, [20]))]), [(2, 13, 14)], [(some (0, 0, 0, []), [], []), (some (0, 1, 1, []), [], [(2, 7, (0, 1, 40, []))])])
set_option maxRecDepth 20000 in
theorem vc72 {l : Launch} {X : Nat × (Nat → Int32)} {e : Int} (d : Nat) : Vc l X U0 Pt8 e (d + 1) Kc72 :=
  ckf (d := d) (Ks := [Kc13, Kc68]) (cy := 152) (cd := cdX4_bounded) (nl := 3) (fuel := 1000) (Hs := []) (by decide +kernel) (by decide +kernel) (fun na b => by rw [← ceX4_bounded]; exact tkX4_bounded) (List.forall_mem_cons.mpr ⟨vc13 d, List.forall_mem_cons.mpr ⟨vc68 d, fun _ h => absurd h List.not_mem_nil⟩⟩) (cpyX d) (by decide +kernel)
noncomputable def Kc73 : Con := ((39, [(2, 0, 0, [2]), (2, 0, 0, [5020]), (0, 1, 1, []), (0, 40, 40, [])], [(2, 3, (2, 0, 0, [20]))]), [(2, 4, 8), (2, 13, 14)], [(some (0, 0, 0, []), [], []), (some (0, 1, 1, []), [], [(2, 7, (0, 1, 40, []))])])
set_option maxRecDepth 20000 in
theorem vc73 {l : Launch} {X : Nat × (Nat → Int32)} {e : Int} (d : Nat) : Vc l X U0 Pt8 e (d + 6) Kc73 :=
  ckf (d := (d + 5)) (Ks := [Kc9, Kc68, Kc67, Kc72]) (cy := 152) (cd := cdX4_labelled) (nl := 4) (fuel := 1000) (Hs := []) (by decide +kernel) (by decide +kernel) (fun na b => by rw [← ceX4_labelled]; exact tkX4_labelled) (List.forall_mem_cons.mpr ⟨vc9 d, List.forall_mem_cons.mpr ⟨vc68 (d + 5), List.forall_mem_cons.mpr ⟨vc67 (d + 4), List.forall_mem_cons.mpr ⟨vc72 (d + 4), fun _ h => absurd h List.not_mem_nil⟩⟩⟩⟩) (cpyX (d + 5)) (by decide +kernel)
noncomputable def Kc74 : Con := ((38, [(2, 0, 0, [2])], [(2, 3, (2, 0, 0, [20]))]), [(2, 4, 8), (2, 13, 14), (25, 0, 5)], [(some (0, 0, 0, []), [], []), (some (0, 1, 1, []), [], [])])
set_option maxRecDepth 20000 in
theorem vc74 {l : Launch} {X : Nat × (Nat → Int32)} {e : Int} (d : Nat) : Vc l X U0 Pt8 e (d + 8) Kc74 :=
  ckf (d := (d + 7)) (Ks := [Kc67, Kc71, Kc73, Kc68]) (cy := 152) (cd := cdX4_readsDropped) (nl := 2) (fuel := 1000) (Hs := []) (by decide +kernel) (by decide +kernel) (fun na b => by rw [← ceX4_readsDropped]; exact tkX4_readsDropped) (List.forall_mem_cons.mpr ⟨vc67 (d + 6), List.forall_mem_cons.mpr ⟨vc71 d, List.forall_mem_cons.mpr ⟨vc73 (d + 1), List.forall_mem_cons.mpr ⟨vc68 (d + 7), fun _ h => absurd h List.not_mem_nil⟩⟩⟩⟩) (cpyX (d + 7)) (by decide +kernel)
noncomputable def Kc75 : Con := ((19, [(2, 0, 0, [20]), (0, iLo, iHi, [])], []), [], [(some (0, (-2), (-2), []), [], []), (some (0, 0, 3, []), [], [])])
set_option maxRecDepth 20000 in
theorem vc75 {l : Launch} {X : Nat × (Nat → Int32)} {e : Int} (d : Nat) : Vc l X U0 Pt8 e d Kc75 :=
  ckf (d := d) (Ks := []) (cy := 152) (cd := cdX3_unsureOf) (nl := 3) (fuel := 1000) (Hs := [((2, 0), ([(0, (2, 0, 0, [20])), (1, (0, 1, 0, [])), (2, (0, 2, 0, []))], [], [(0, 0), (iLo, iHi), (0, 4)], []), [(0, 1, 0), (0, 2, 0)], (8, [(2, (-2))]), [])]) (by decide +kernel) (by decide +kernel) (fun na b => by rw [← ceX3_unsureOf]; exact tkX3_unsureOf) (fun _ h => absurd h List.not_mem_nil) (cpyX d) (by decide +kernel)
noncomputable def Kc76 : Con := ((40, [(2, 0, 0, [2]), (0, 1, 1, []), (0, 30, 30, [])], [(2, 3, (2, 0, 0, [20]))]), [(2, 13, 14)], [(some (0, 0, 0, []), [], []), (some (0, 1, 1, []), [], [(2, 7, (0, 1, 30, []))])])
set_option maxRecDepth 20000 in
theorem vc76 {l : Launch} {X : Nat × (Nat → Int32)} {e : Int} (d : Nat) : Vc l X U0 Pt8 e (d + 1) Kc76 :=
  ckf (d := d) (Ks := [Kc18, Kc68]) (cy := 152) (cd := cdX4_bounded) (nl := 3) (fuel := 1000) (Hs := []) (by decide +kernel) (by decide +kernel) (fun na b => by rw [← ceX4_bounded]; exact tkX4_bounded) (List.forall_mem_cons.mpr ⟨vc18 d, List.forall_mem_cons.mpr ⟨vc68 d, fun _ h => absurd h List.not_mem_nil⟩⟩) (cpyX d) (by decide +kernel)
noncomputable def Kc77 : Con := ((37, [(2, 0, 0, [2])], [(2, 3, (2, 0, 0, [20]))]), [(2, 4, 8), (2, 13, 14), (20, 17, 17), (31, 0, 3), (32, 0, 3)], [(some (0, 0, 0, []), [], []), (some (0, 1, 1, []), [], [])])
set_option maxRecDepth 20000 in
theorem vc77 {l : Launch} {X : Nat × (Nat → Int32)} {e : Int} (d : Nat) : Vc l X U0 Pt8 e (d + 8) Kc77 :=
  ckf (d := (d + 7)) (Ks := [Kc67, Kc71, Kc75, Kc76, Kc68]) (cy := 152) (cd := cdX4_readsUnsure) (nl := 3) (fuel := 1000) (Hs := []) (by decide +kernel) (by decide +kernel) (fun na b => by rw [← ceX4_readsUnsure]; exact tkX4_readsUnsure) (List.forall_mem_cons.mpr ⟨vc67 (d + 6), List.forall_mem_cons.mpr ⟨vc71 d, List.forall_mem_cons.mpr ⟨vc75 (d + 7), List.forall_mem_cons.mpr ⟨vc76 (d + 6), List.forall_mem_cons.mpr ⟨vc68 (d + 7), fun _ h => absurd h List.not_mem_nil⟩⟩⟩⟩⟩) (cpyX (d + 7)) (by decide +kernel)
noncomputable def Kc78 : Con := ((41, [(2, 0, 0, [2]), (0, 3, 3, []), (0, 0, 3, [])], [(2, 3, (2, 0, 0, [20]))]), [(2, 4, 8), (2, 12, 14), (4, 0, 14), (5, 0, 14), (6, 0, 14)], [(some (0, 0, 0, []), [], []), (some (0, 1, 1, []), [], [])])
set_option maxRecDepth 20000 in
theorem vc78 {l : Launch} {X : Nat × (Nat → Int32)} {e : Int} (d : Nat) : Vc l X U0 Pt8 e (d + 7) Kc78 :=
  ckf (d := (d + 6)) (Ks := [Kc68, Kc69, Kc70, Kc67]) (cy := 152) (cd := cdX4_tells) (nl := 3) (fuel := 1000) (Hs := []) (by decide +kernel) (by decide +kernel) (fun na b => by rw [← ceX4_tells]; exact tkX4_tells) (List.forall_mem_cons.mpr ⟨vc68 (d + 6), List.forall_mem_cons.mpr ⟨vc69 d, List.forall_mem_cons.mpr ⟨vc70 (d + 6), List.forall_mem_cons.mpr ⟨vc67 (d + 5), fun _ h => absurd h List.not_mem_nil⟩⟩⟩⟩) (cpyX (d + 6)) (by decide +kernel)
noncomputable def Kc79 : Con := ((13, [(2, 0, 0, [20])], []), [], [(some (0, 0, 20, []), [], [])])
set_option maxRecDepth 20000 in
theorem vc79 {l : Launch} {X : Nat × (Nat → Int32)} {e : Int} (d : Nat) : Vc l X U0 Pt8 e d Kc79 :=
  ckf (d := d) (Ks := []) (cy := 152) (cd := cdX3_cells) (nl := 1) (fuel := 1000) (Hs := []) (by decide +kernel) (by decide +kernel) (fun na b => by rw [← ceX3_cells]; exact tkX3_cells) (fun _ h => absurd h List.not_mem_nil) (cpyX d) (by decide +kernel)
noncomputable def Kc80 : Con := ((40, [(2, 0, 0, [2]), (0, 0, 0, []), (0, (-1), 19, [])], [(2, 3, (2, 0, 0, [20]))]), [(2, 13, 14)], [(some (0, 0, 0, []), [], []), (some (0, 1, 1, []), [(2, 0, 19)], [(2, 7, (0, 0, 19, []))])])
set_option maxRecDepth 20000 in
theorem vc80 {l : Launch} {X : Nat × (Nat → Int32)} {e : Int} (d : Nat) : Vc l X U0 Pt8 e (d + 1) Kc80 :=
  ckf (d := d) (Ks := [Kc23, Kc68]) (cy := 152) (cd := cdX4_bounded) (nl := 3) (fuel := 1000) (Hs := []) (by decide +kernel) (by decide +kernel) (fun na b => by rw [← ceX4_bounded]; exact tkX4_bounded) (List.forall_mem_cons.mpr ⟨vc23 d, List.forall_mem_cons.mpr ⟨vc68 d, fun _ h => absurd h List.not_mem_nil⟩⟩) (cpyX d) (by decide +kernel)
noncomputable def Kc81 : Con := ((39, [(2, 0, 0, [2]), (2, 0, 0, [5018]), (0, 0, 0, []), (0, (-1), 19, [])], [(2, 3, (2, 0, 0, [20]))]), [(2, 4, 8), (2, 13, 14)], [(some (0, 0, 0, []), [], []), (some (0, 1, 1, []), [(3, 0, 19)], [(2, 7, (0, 0, 19, []))])])
set_option maxRecDepth 20000 in
theorem vc81 {l : Launch} {X : Nat × (Nat → Int32)} {e : Int} (d : Nat) : Vc l X U0 Pt8 e (d + 6) Kc81 :=
  ckf (d := (d + 5)) (Ks := [Kc9, Kc68, Kc67, Kc80]) (cy := 152) (cd := cdX4_labelled) (nl := 4) (fuel := 1000) (Hs := []) (by decide +kernel) (by decide +kernel) (fun na b => by rw [← ceX4_labelled]; exact tkX4_labelled) (List.forall_mem_cons.mpr ⟨vc9 d, List.forall_mem_cons.mpr ⟨vc68 (d + 5), List.forall_mem_cons.mpr ⟨vc67 (d + 4), List.forall_mem_cons.mpr ⟨vc80 (d + 4), fun _ h => absurd h List.not_mem_nil⟩⟩⟩⟩) (cpyX (d + 5)) (by decide +kernel)
noncomputable def Kc82 : Con := ((14, [(2, 0, 0, [20]), (0, iLo, iHi, [])], []), [], [(some (0, 0, 0, []), [], []), (some (0, 1, 1, []), [], [])])
set_option maxRecDepth 20000 in
theorem vc82 {l : Launch} {X : Nat × (Nat → Int32)} {e : Int} (d : Nat) : Vc l X U0 Pt8 e d Kc82 :=
  ckf (d := d) (Ks := []) (cy := 152) (cd := cdX3_isWall) (nl := 2) (fuel := 1000) (Hs := []) (by decide +kernel) (by decide +kernel) (fun na b => by rw [← ceX3_isWall]; exact tkX3_isWall) (fun _ h => absurd h List.not_mem_nil) (cpyX d) (by decide +kernel)
noncomputable def Kc83 : Con := ((39, [(2, 0, 0, [2]), (2, 0, 0, [5019]), (0, 0, 0, []), (0, (-1), 19, [])], [(2, 3, (2, 0, 0, [20]))]), [(2, 4, 8), (2, 13, 14)], [(some (0, 0, 0, []), [], []), (some (0, 1, 1, []), [(3, 0, 19)], [(2, 7, (0, 0, 19, []))])])
set_option maxRecDepth 20000 in
theorem vc83 {l : Launch} {X : Nat × (Nat → Int32)} {e : Int} (d : Nat) : Vc l X U0 Pt8 e (d + 6) Kc83 :=
  ckf (d := (d + 5)) (Ks := [Kc9, Kc68, Kc67, Kc80]) (cy := 152) (cd := cdX4_labelled) (nl := 4) (fuel := 1000) (Hs := []) (by decide +kernel) (by decide +kernel) (fun na b => by rw [← ceX4_labelled]; exact tkX4_labelled) (List.forall_mem_cons.mpr ⟨vc9 d, List.forall_mem_cons.mpr ⟨vc68 (d + 5), List.forall_mem_cons.mpr ⟨vc67 (d + 4), List.forall_mem_cons.mpr ⟨vc80 (d + 4), fun _ h => absurd h List.not_mem_nil⟩⟩⟩⟩) (cpyX (d + 5)) (by decide +kernel)
noncomputable def Kc84 : Con := ((36, [(2, 0, 0, [2])], [(2, 3, (2, 0, 0, [20]))]), [(2, 4, 8), (2, 12, 14), (4, 0, 14), (5, 0, 14), (6, 0, 14), (20, 14, 14), (29, 0, 3), (30, 0, 3)], [(some (0, 0, 0, []), [], []), (some (0, 1, 1, []), [], [])])
set_option maxRecDepth 20000 in
theorem vc84 {l : Launch} {X : Nat × (Nat → Int32)} {e : Int} (d : Nat) : Vc l X U0 Pt8 e (d + 8) Kc84 :=
  ckf (d := (d + 7)) (Ks := [Kc67, Kc78, Kc79, Kc81, Kc82, Kc83, Kc68]) (cy := 152) (cd := cdX4_readsWalker) (nl := 2) (fuel := 1000) (Hs := []) (by decide +kernel) (by decide +kernel) (fun na b => by rw [← ceX4_readsWalker]; exact tkX4_readsWalker) (List.forall_mem_cons.mpr ⟨vc67 (d + 6), List.forall_mem_cons.mpr ⟨vc78 d, List.forall_mem_cons.mpr ⟨vc79 (d + 7), List.forall_mem_cons.mpr ⟨vc81 (d + 1), List.forall_mem_cons.mpr ⟨vc82 (d + 7), List.forall_mem_cons.mpr ⟨vc83 (d + 1), List.forall_mem_cons.mpr ⟨vc68 (d + 7), fun _ h => absurd h List.not_mem_nil⟩⟩⟩⟩⟩⟩⟩) (cpyX (d + 7)) (by decide +kernel)
noncomputable def Kc85 : Con := ((41, [(2, 0, 0, [2]), (0, 2, 2, []), (0, 0, 4, [])], [(2, 3, (2, 0, 0, [20]))]), [(2, 4, 8), (2, 12, 14), (4, 0, 14), (5, 0, 14), (6, 0, 14)], [(some (0, 0, 0, []), [], []), (some (0, 1, 1, []), [], [])])
set_option maxRecDepth 20000 in
theorem vc85 {l : Launch} {X : Nat × (Nat → Int32)} {e : Int} (d : Nat) : Vc l X U0 Pt8 e (d + 7) Kc85 :=
  ckf (d := (d + 6)) (Ks := [Kc68, Kc69, Kc70, Kc67]) (cy := 152) (cd := cdX4_tells) (nl := 3) (fuel := 1000) (Hs := []) (by decide +kernel) (by decide +kernel) (fun na b => by rw [← ceX4_tells]; exact tkX4_tells) (List.forall_mem_cons.mpr ⟨vc68 (d + 6), List.forall_mem_cons.mpr ⟨vc69 d, List.forall_mem_cons.mpr ⟨vc70 (d + 6), List.forall_mem_cons.mpr ⟨vc67 (d + 5), fun _ h => absurd h List.not_mem_nil⟩⟩⟩⟩) (cpyX (d + 6)) (by decide +kernel)
noncomputable def Kc86 : Con := ((18, [(2, 0, 0, [20]), (0, iLo, iHi, [])], []), [], [(some (0, (-2), (-2), []), [], []), (some (0, 0, 4, []), [], [])])
set_option maxRecDepth 20000 in
theorem vc86 {l : Launch} {X : Nat × (Nat → Int32)} {e : Int} (d : Nat) : Vc l X U0 Pt8 e d Kc86 :=
  ckf (d := d) (Ks := []) (cy := 152) (cd := cdX3_toldCanonOf) (nl := 3) (fuel := 1000) (Hs := [((2, 0), ([(0, (2, 0, 0, [20])), (1, (0, 1, 0, [])), (2, (0, 2, 0, []))], [], [(0, 0), (iLo, iHi), (0, 5)], []), [(0, 1, 0), (0, 2, 0)], (10, [(2, (-2))]), [])]) (by decide +kernel) (by decide +kernel) (fun na b => by rw [← ceX3_toldCanonOf]; exact tkX3_toldCanonOf) (fun _ h => absurd h List.not_mem_nil) (cpyX d) (by decide +kernel)
noncomputable def Kc87 : Con := ((39, [(2, 0, 0, [2]), (2, 0, 0, [5016]), (0, 1, 1, []), (0, 30, 30, [])], [(2, 3, (2, 0, 0, [20]))]), [(2, 4, 8), (2, 13, 14)], [(some (0, 0, 0, []), [], []), (some (0, 1, 1, []), [], [(2, 7, (0, 1, 30, []))])])
set_option maxRecDepth 20000 in
theorem vc87 {l : Launch} {X : Nat × (Nat → Int32)} {e : Int} (d : Nat) : Vc l X U0 Pt8 e (d + 6) Kc87 :=
  ckf (d := (d + 5)) (Ks := [Kc9, Kc68, Kc67, Kc76]) (cy := 152) (cd := cdX4_labelled) (nl := 4) (fuel := 1000) (Hs := []) (by decide +kernel) (by decide +kernel) (fun na b => by rw [← ceX4_labelled]; exact tkX4_labelled) (List.forall_mem_cons.mpr ⟨vc9 d, List.forall_mem_cons.mpr ⟨vc68 (d + 5), List.forall_mem_cons.mpr ⟨vc67 (d + 4), List.forall_mem_cons.mpr ⟨vc76 (d + 4), fun _ h => absurd h List.not_mem_nil⟩⟩⟩⟩) (cpyX (d + 5)) (by decide +kernel)
noncomputable def Kc88 : Con := ((40, [(2, 0, 0, [2]), (0, 1, 1, []), (0, 9, 9, [])], [(2, 3, (2, 0, 0, [20]))]), [(2, 13, 14)], [(some (0, 0, 0, []), [], []), (some (0, 1, 1, []), [], [(2, 7, (0, 1, 9, []))])])
set_option maxRecDepth 20000 in
theorem vc88 {l : Launch} {X : Nat × (Nat → Int32)} {e : Int} (d : Nat) : Vc l X U0 Pt8 e (d + 1) Kc88 :=
  ckf (d := d) (Ks := [Kc32, Kc68]) (cy := 152) (cd := cdX4_bounded) (nl := 3) (fuel := 1000) (Hs := []) (by decide +kernel) (by decide +kernel) (fun na b => by rw [← ceX4_bounded]; exact tkX4_bounded) (List.forall_mem_cons.mpr ⟨vc32 d, List.forall_mem_cons.mpr ⟨vc68 d, fun _ h => absurd h List.not_mem_nil⟩⟩) (cpyX d) (by decide +kernel)
noncomputable def Kc89 : Con := ((39, [(2, 0, 0, [2]), (2, 0, 0, [5017]), (0, 1, 1, []), (0, 9, 9, [])], [(2, 3, (2, 0, 0, [20]))]), [(2, 4, 8), (2, 13, 14)], [(some (0, 0, 0, []), [], []), (some (0, 1, 1, []), [], [(2, 7, (0, 1, 9, []))])])
set_option maxRecDepth 20000 in
theorem vc89 {l : Launch} {X : Nat × (Nat → Int32)} {e : Int} (d : Nat) : Vc l X U0 Pt8 e (d + 6) Kc89 :=
  ckf (d := (d + 5)) (Ks := [Kc9, Kc68, Kc67, Kc88]) (cy := 152) (cd := cdX4_labelled) (nl := 4) (fuel := 1000) (Hs := []) (by decide +kernel) (by decide +kernel) (fun na b => by rw [← ceX4_labelled]; exact tkX4_labelled) (List.forall_mem_cons.mpr ⟨vc9 d, List.forall_mem_cons.mpr ⟨vc68 (d + 5), List.forall_mem_cons.mpr ⟨vc67 (d + 4), List.forall_mem_cons.mpr ⟨vc88 (d + 4), fun _ h => absurd h List.not_mem_nil⟩⟩⟩⟩) (cpyX (d + 5)) (by decide +kernel)
noncomputable def Kc90 : Con := ((35, [(2, 0, 0, [2])], [(2, 3, (2, 0, 0, [20]))]), [(2, 4, 8), (2, 12, 14), (4, 0, 14), (5, 0, 14), (6, 0, 14), (20, 10, 10), (26, 0, 4), (27, 0, 4), (28, 0, 4)], [(some (0, 0, 0, []), [], []), (some (0, 1, 1, []), [], [])])
set_option maxRecDepth 20000 in
theorem vc90 {l : Launch} {X : Nat × (Nat → Int32)} {e : Int} (d : Nat) : Vc l X U0 Pt8 e (d + 8) Kc90 :=
  ckf (d := (d + 7)) (Ks := [Kc67, Kc85, Kc71, Kc86, Kc87, Kc89, Kc68]) (cy := 152) (cd := cdX4_readsCanon) (nl := 3) (fuel := 1000) (Hs := []) (by decide +kernel) (by decide +kernel) (fun na b => by rw [← ceX4_readsCanon]; exact tkX4_readsCanon) (List.forall_mem_cons.mpr ⟨vc67 (d + 6), List.forall_mem_cons.mpr ⟨vc85 d, List.forall_mem_cons.mpr ⟨vc71 d, List.forall_mem_cons.mpr ⟨vc86 (d + 7), List.forall_mem_cons.mpr ⟨vc87 (d + 1), List.forall_mem_cons.mpr ⟨vc89 (d + 1), List.forall_mem_cons.mpr ⟨vc68 (d + 7), fun _ h => absurd h List.not_mem_nil⟩⟩⟩⟩⟩⟩⟩) (cpyX (d + 7)) (by decide +kernel)
noncomputable def Kc91 : Con := ((41, [(2, 0, 0, [2]), (0, 1, 1, []), (0, 0, 5, [])], [(2, 3, (2, 0, 0, [20]))]), [(2, 4, 8), (2, 12, 14), (4, 0, 14), (5, 0, 14), (6, 0, 14)], [(some (0, 0, 0, []), [], []), (some (0, 1, 1, []), [], [])])
set_option maxRecDepth 20000 in
theorem vc91 {l : Launch} {X : Nat × (Nat → Int32)} {e : Int} (d : Nat) : Vc l X U0 Pt8 e (d + 7) Kc91 :=
  ckf (d := (d + 6)) (Ks := [Kc68, Kc69, Kc70, Kc67]) (cy := 152) (cd := cdX4_tells) (nl := 3) (fuel := 1000) (Hs := []) (by decide +kernel) (by decide +kernel) (fun na b => by rw [← ceX4_tells]; exact tkX4_tells) (List.forall_mem_cons.mpr ⟨vc68 (d + 6), List.forall_mem_cons.mpr ⟨vc69 d, List.forall_mem_cons.mpr ⟨vc70 (d + 6), List.forall_mem_cons.mpr ⟨vc67 (d + 5), fun _ h => absurd h List.not_mem_nil⟩⟩⟩⟩) (cpyX (d + 6)) (by decide +kernel)
noncomputable def Kc92 : Con := ((34, [(2, 0, 0, [2])], [(2, 3, (2, 0, 0, [20]))]), [], [(some (0, (-2), (-2), []), [], []), (some (0, 0, 2, []), [], [])])
set_option maxRecDepth 20000 in
theorem vc92 {l : Launch} {X : Nat × (Nat → Int32)} {e : Int} (d : Nat) : Vc l X U0 Pt8 e (d + 6) Kc92 :=
  ckf (d := (d + 5)) (Ks := [Kc9]) (cy := 152) (cd := cdX4_kindHere) (nl := 1) (fuel := 1000) (Hs := []) (by decide +kernel) (by decide +kernel) (fun na b => by rw [← ceX4_kindHere]; exact tkX4_kindHere) (List.forall_mem_cons.mpr ⟨vc9 d, fun _ h => absurd h List.not_mem_nil⟩) (cpyX (d + 5)) (by decide +kernel)
noncomputable def Kc93 : Con := ((40, [(2, 0, 0, [2]), (0, 1, 1, []), (0, 99, 99, [])], [(2, 3, (2, 0, 0, [20]))]), [(2, 13, 14)], [(some (0, 0, 0, []), [], []), (some (0, 1, 1, []), [], [(2, 7, (0, 1, 99, []))])])
set_option maxRecDepth 20000 in
theorem vc93 {l : Launch} {X : Nat × (Nat → Int32)} {e : Int} (d : Nat) : Vc l X U0 Pt8 e (d + 1) Kc93 :=
  ckf (d := d) (Ks := [Kc38, Kc68]) (cy := 152) (cd := cdX4_bounded) (nl := 3) (fuel := 1000) (Hs := []) (by decide +kernel) (by decide +kernel) (fun na b => by rw [← ceX4_bounded]; exact tkX4_bounded) (List.forall_mem_cons.mpr ⟨vc38 d, List.forall_mem_cons.mpr ⟨vc68 d, fun _ h => absurd h List.not_mem_nil⟩⟩) (cpyX d) (by decide +kernel)
noncomputable def Kc94 : Con := ((39, [(2, 0, 0, [2]), (2, 0, 0, [5010]), (0, 1, 1, []), (0, 99, 99, [])], [(2, 3, (2, 0, 0, [20]))]), [(2, 4, 8), (2, 13, 14)], [(some (0, 0, 0, []), [], []), (some (0, 1, 1, []), [], [(2, 7, (0, 1, 99, []))])])
set_option maxRecDepth 20000 in
theorem vc94 {l : Launch} {X : Nat × (Nat → Int32)} {e : Int} (d : Nat) : Vc l X U0 Pt8 e (d + 6) Kc94 :=
  ckf (d := (d + 5)) (Ks := [Kc9, Kc68, Kc67, Kc93]) (cy := 152) (cd := cdX4_labelled) (nl := 4) (fuel := 1000) (Hs := []) (by decide +kernel) (by decide +kernel) (fun na b => by rw [← ceX4_labelled]; exact tkX4_labelled) (List.forall_mem_cons.mpr ⟨vc9 d, List.forall_mem_cons.mpr ⟨vc68 (d + 5), List.forall_mem_cons.mpr ⟨vc67 (d + 4), List.forall_mem_cons.mpr ⟨vc93 (d + 4), fun _ h => absurd h List.not_mem_nil⟩⟩⟩⟩) (cpyX (d + 5)) (by decide +kernel)
noncomputable def Kc95 : Con := ((40, [(2, 0, 0, [2]), (0, 0, 0, []), (0, 9, 9, [])], [(2, 3, (2, 0, 0, [20]))]), [(2, 13, 14)], [(some (0, 0, 0, []), [], []), (some (0, 1, 1, []), [], [(2, 7, (0, 0, 9, []))])])
set_option maxRecDepth 20000 in
theorem vc95 {l : Launch} {X : Nat × (Nat → Int32)} {e : Int} (d : Nat) : Vc l X U0 Pt8 e (d + 1) Kc95 :=
  ckf (d := d) (Ks := [Kc41, Kc68]) (cy := 152) (cd := cdX4_bounded) (nl := 3) (fuel := 1000) (Hs := []) (by decide +kernel) (by decide +kernel) (fun na b => by rw [← ceX4_bounded]; exact tkX4_bounded) (List.forall_mem_cons.mpr ⟨vc41 d, List.forall_mem_cons.mpr ⟨vc68 d, fun _ h => absurd h List.not_mem_nil⟩⟩) (cpyX d) (by decide +kernel)
noncomputable def Kc96 : Con := ((39, [(2, 0, 0, [2]), (2, 0, 0, [5011]), (0, 0, 0, []), (0, 9, 9, [])], [(2, 3, (2, 0, 0, [20]))]), [(2, 4, 8), (2, 13, 14)], [(some (0, 0, 0, []), [], []), (some (0, 1, 1, []), [], [(2, 7, (0, 0, 9, []))])])
set_option maxRecDepth 20000 in
theorem vc96 {l : Launch} {X : Nat × (Nat → Int32)} {e : Int} (d : Nat) : Vc l X U0 Pt8 e (d + 6) Kc96 :=
  ckf (d := (d + 5)) (Ks := [Kc9, Kc68, Kc67, Kc95]) (cy := 152) (cd := cdX4_labelled) (nl := 4) (fuel := 1000) (Hs := []) (by decide +kernel) (by decide +kernel) (fun na b => by rw [← ceX4_labelled]; exact tkX4_labelled) (List.forall_mem_cons.mpr ⟨vc9 d, List.forall_mem_cons.mpr ⟨vc68 (d + 5), List.forall_mem_cons.mpr ⟨vc67 (d + 4), List.forall_mem_cons.mpr ⟨vc95 (d + 4), fun _ h => absurd h List.not_mem_nil⟩⟩⟩⟩) (cpyX (d + 5)) (by decide +kernel)
noncomputable def Kc97 : Con := ((39, [(2, 0, 0, [2]), (2, 0, 0, [5012]), (0, 0, 0, []), (0, (-1), 19, [])], [(2, 3, (2, 0, 0, [20]))]), [(2, 4, 8), (2, 13, 14)], [(some (0, 0, 0, []), [], []), (some (0, 1, 1, []), [(3, 0, 19)], [(2, 7, (0, 0, 19, []))])])
set_option maxRecDepth 20000 in
theorem vc97 {l : Launch} {X : Nat × (Nat → Int32)} {e : Int} (d : Nat) : Vc l X U0 Pt8 e (d + 6) Kc97 :=
  ckf (d := (d + 5)) (Ks := [Kc9, Kc68, Kc67, Kc80]) (cy := 152) (cd := cdX4_labelled) (nl := 4) (fuel := 1000) (Hs := []) (by decide +kernel) (by decide +kernel) (fun na b => by rw [← ceX4_labelled]; exact tkX4_labelled) (List.forall_mem_cons.mpr ⟨vc9 d, List.forall_mem_cons.mpr ⟨vc68 (d + 5), List.forall_mem_cons.mpr ⟨vc67 (d + 4), List.forall_mem_cons.mpr ⟨vc80 (d + 4), fun _ h => absurd h List.not_mem_nil⟩⟩⟩⟩) (cpyX (d + 5)) (by decide +kernel)
noncomputable def Kc98 : Con := ((17, [(2, 0, 0, [20]), (0, iLo, iHi, [])], []), [], [(some (0, (-2), (-2), []), [], []), (some (0, 0, 5, []), [], [])])
set_option maxRecDepth 20000 in
theorem vc98 {l : Launch} {X : Nat × (Nat → Int32)} {e : Int} (d : Nat) : Vc l X U0 Pt8 e d Kc98 :=
  ckf (d := d) (Ks := []) (cy := 152) (cd := cdX3_faceOver) (nl := 3) (fuel := 1000) (Hs := [((2, 0), ([(0, (2, 0, 0, [20])), (1, (0, 1, 0, [])), (2, (0, 2, 0, []))], [], [(0, 0), (iLo, iHi), (0, 6)], []), [(0, 1, 0), (0, 2, 0)], (12, [(2, (-2))]), [])]) (by decide +kernel) (by decide +kernel) (fun na b => by rw [← ceX3_faceOver]; exact tkX3_faceOver) (fun _ h => absurd h List.not_mem_nil) (cpyX d) (by decide +kernel)
noncomputable def Kc99 : Con := ((33, [(2, 0, 0, [2])], [(2, 3, (2, 0, 0, [20]))]), [(2, 4, 8), (2, 12, 14), (4, 0, 14), (5, 0, 14), (6, 0, 14), (20, 4, 4), (21, 0, 5), (22, 0, 5), (23, 0, 5), (24, 0, 5)], [(some (0, 0, 0, []), [], []), (some (0, 1, 1, []), [], [])])
set_option maxRecDepth 20000 in
theorem vc99 {l : Launch} {X : Nat × (Nat → Int32)} {e : Int} (d : Nat) : Vc l X U0 Pt8 e (d + 8) Kc99 :=
  ckf (d := (d + 7)) (Ks := [Kc67, Kc91, Kc92, Kc68, Kc94, Kc96, Kc79, Kc97, Kc98]) (cy := 152) (cd := cdX4_readsFace) (nl := 3) (fuel := 1000) (Hs := []) (by decide +kernel) (by decide +kernel) (fun na b => by rw [← ceX4_readsFace]; exact tkX4_readsFace) (List.forall_mem_cons.mpr ⟨vc67 (d + 6), List.forall_mem_cons.mpr ⟨vc91 d, List.forall_mem_cons.mpr ⟨vc92 (d + 1), List.forall_mem_cons.mpr ⟨vc68 (d + 7), List.forall_mem_cons.mpr ⟨vc94 (d + 1), List.forall_mem_cons.mpr ⟨vc96 (d + 1), List.forall_mem_cons.mpr ⟨vc79 (d + 7), List.forall_mem_cons.mpr ⟨vc97 (d + 1), List.forall_mem_cons.mpr ⟨vc98 (d + 7), fun _ h => absurd h List.not_mem_nil⟩⟩⟩⟩⟩⟩⟩⟩⟩) (cpyX (d + 7)) (by decide +kernel)
noncomputable def Kc100 : Con := ((15, [(2, 0, 0, [20])], []), [], [(some (0, 0, 63, []), [], [])])
set_option maxRecDepth 20000 in
theorem vc100 {l : Launch} {X : Nat × (Nat → Int32)} {e : Int} (d : Nat) : Vc l X U0 Pt8 e (d + 1) Kc100 :=
  ckf (d := d) (Ks := [Kc47]) (cy := 152) (cd := cdX3_wallCount) (nl := 1) (fuel := 1000) (Hs := []) (by decide +kernel) (by decide +kernel) (fun na b => by rw [← ceX3_wallCount]; exact tkX3_wallCount) (List.forall_mem_cons.mpr ⟨vc47 d, fun _ h => absurd h List.not_mem_nil⟩) (cpyX d) (by decide +kernel)
noncomputable def Kc101 : Con := ((32, [(2, 0, 0, [2])], [(2, 3, (2, 0, 0, [20]))]), [(2, 4, 8), (2, 13, 14), (20, 3, 3)], [(some (0, 0, 0, []), [], []), (some (0, 1, 1, []), [], [])])
set_option maxRecDepth 20000 in
theorem vc101 {l : Launch} {X : Nat × (Nat → Int32)} {e : Int} (d : Nat) : Vc l X U0 Pt8 e (d + 2) Kc101 :=
  ckf (d := (d + 1)) (Ks := [Kc100, Kc67, Kc79, Kc80, Kc82, Kc68]) (cy := 152) (cd := cdX4_readsWall) (nl := 1) (fuel := 1000) (Hs := []) (by decide +kernel) (by decide +kernel) (fun na b => by rw [← ceX4_readsWall]; exact tkX4_readsWall) (List.forall_mem_cons.mpr ⟨vc100 d, List.forall_mem_cons.mpr ⟨vc67 d, List.forall_mem_cons.mpr ⟨vc79 (d + 1), List.forall_mem_cons.mpr ⟨vc80 d, List.forall_mem_cons.mpr ⟨vc82 (d + 1), List.forall_mem_cons.mpr ⟨vc68 (d + 1), fun _ h => absurd h List.not_mem_nil⟩⟩⟩⟩⟩⟩) (cpyX (d + 1)) (by decide +kernel)
noncomputable def Kc102 : Con := ((40, [(2, 0, 0, [2]), (0, 2, 2, []), (0, 5, 5, [])], [(2, 3, (2, 0, 0, [20]))]), [(2, 13, 14)], [(some (0, 0, 0, []), [], []), (some (0, 1, 1, []), [], [(2, 7, (0, 2, 5, []))])])
set_option maxRecDepth 20000 in
theorem vc102 {l : Launch} {X : Nat × (Nat → Int32)} {e : Int} (d : Nat) : Vc l X U0 Pt8 e (d + 1) Kc102 :=
  ckf (d := d) (Ks := [Kc50, Kc68]) (cy := 152) (cd := cdX4_bounded) (nl := 3) (fuel := 1000) (Hs := []) (by decide +kernel) (by decide +kernel) (fun na b => by rw [← ceX4_bounded]; exact tkX4_bounded) (List.forall_mem_cons.mpr ⟨vc50 d, List.forall_mem_cons.mpr ⟨vc68 d, fun _ h => absurd h List.not_mem_nil⟩⟩) (cpyX d) (by decide +kernel)
noncomputable def Kc103 : Con := ((39, [(2, 0, 0, [2]), (2, 0, 0, [5007]), (0, 2, 2, []), (0, 5, 5, [])], [(2, 3, (2, 0, 0, [20]))]), [(2, 4, 8), (2, 13, 14)], [(some (0, 0, 0, []), [], []), (some (0, 1, 1, []), [], [(2, 7, (0, 2, 5, []))])])
set_option maxRecDepth 20000 in
theorem vc103 {l : Launch} {X : Nat × (Nat → Int32)} {e : Int} (d : Nat) : Vc l X U0 Pt8 e (d + 6) Kc103 :=
  ckf (d := (d + 5)) (Ks := [Kc9, Kc68, Kc67, Kc102]) (cy := 152) (cd := cdX4_labelled) (nl := 4) (fuel := 1000) (Hs := []) (by decide +kernel) (by decide +kernel) (fun na b => by rw [← ceX4_labelled]; exact tkX4_labelled) (List.forall_mem_cons.mpr ⟨vc9 d, List.forall_mem_cons.mpr ⟨vc68 (d + 5), List.forall_mem_cons.mpr ⟨vc67 (d + 4), List.forall_mem_cons.mpr ⟨vc102 (d + 4), fun _ h => absurd h List.not_mem_nil⟩⟩⟩⟩) (cpyX (d + 5)) (by decide +kernel)
noncomputable def Kc104 : Con := ((40, [(2, 0, 0, [2]), (0, 2, 2, []), (0, 4, 4, [])], [(2, 3, (2, 0, 0, [20]))]), [(2, 13, 14)], [(some (0, 0, 0, []), [], []), (some (0, 1, 1, []), [], [(2, 7, (0, 2, 4, []))])])
set_option maxRecDepth 20000 in
theorem vc104 {l : Launch} {X : Nat × (Nat → Int32)} {e : Int} (d : Nat) : Vc l X U0 Pt8 e (d + 1) Kc104 :=
  ckf (d := d) (Ks := [Kc53, Kc68]) (cy := 152) (cd := cdX4_bounded) (nl := 3) (fuel := 1000) (Hs := []) (by decide +kernel) (by decide +kernel) (fun na b => by rw [← ceX4_bounded]; exact tkX4_bounded) (List.forall_mem_cons.mpr ⟨vc53 d, List.forall_mem_cons.mpr ⟨vc68 d, fun _ h => absurd h List.not_mem_nil⟩⟩) (cpyX d) (by decide +kernel)
noncomputable def Kc105 : Con := ((39, [(2, 0, 0, [2]), (2, 0, 0, [5008]), (0, 2, 2, []), (0, 4, 4, [])], [(2, 3, (2, 0, 0, [20]))]), [(2, 4, 8), (2, 13, 14)], [(some (0, 0, 0, []), [], []), (some (0, 1, 1, []), [], [(2, 7, (0, 2, 4, []))])])
set_option maxRecDepth 20000 in
theorem vc105 {l : Launch} {X : Nat × (Nat → Int32)} {e : Int} (d : Nat) : Vc l X U0 Pt8 e (d + 6) Kc105 :=
  ckf (d := (d + 5)) (Ks := [Kc9, Kc68, Kc67, Kc104]) (cy := 152) (cd := cdX4_labelled) (nl := 4) (fuel := 1000) (Hs := []) (by decide +kernel) (by decide +kernel) (fun na b => by rw [← ceX4_labelled]; exact tkX4_labelled) (List.forall_mem_cons.mpr ⟨vc9 d, List.forall_mem_cons.mpr ⟨vc68 (d + 5), List.forall_mem_cons.mpr ⟨vc67 (d + 4), List.forall_mem_cons.mpr ⟨vc104 (d + 4), fun _ h => absurd h List.not_mem_nil⟩⟩⟩⟩) (cpyX (d + 5)) (by decide +kernel)
noncomputable def Kc106 : Con := ((40, [(2, 0, 0, [2]), (0, 0, 0, []), (0, 100, 100, [])], [(2, 3, (2, 0, 0, [20]))]), [(2, 13, 14)], [(some (0, 0, 0, []), [], []), (some (0, 1, 1, []), [], [(2, 7, (0, 0, 100, []))])])
set_option maxRecDepth 20000 in
theorem vc106 {l : Launch} {X : Nat × (Nat → Int32)} {e : Int} (d : Nat) : Vc l X U0 Pt8 e (d + 1) Kc106 :=
  ckf (d := d) (Ks := [Kc56, Kc68]) (cy := 152) (cd := cdX4_bounded) (nl := 3) (fuel := 1000) (Hs := []) (by decide +kernel) (by decide +kernel) (fun na b => by rw [← ceX4_bounded]; exact tkX4_bounded) (List.forall_mem_cons.mpr ⟨vc56 d, List.forall_mem_cons.mpr ⟨vc68 d, fun _ h => absurd h List.not_mem_nil⟩⟩) (cpyX d) (by decide +kernel)
noncomputable def Kc107 : Con := ((39, [(2, 0, 0, [2]), (2, 0, 0, [5009]), (0, 0, 0, []), (0, 100, 100, [])], [(2, 3, (2, 0, 0, [20]))]), [(2, 4, 8), (2, 13, 14)], [(some (0, 0, 0, []), [], []), (some (0, 1, 1, []), [], [(2, 7, (0, 0, 100, []))])])
set_option maxRecDepth 20000 in
theorem vc107 {l : Launch} {X : Nat × (Nat → Int32)} {e : Int} (d : Nat) : Vc l X U0 Pt8 e (d + 6) Kc107 :=
  ckf (d := (d + 5)) (Ks := [Kc9, Kc68, Kc67, Kc106]) (cy := 152) (cd := cdX4_labelled) (nl := 4) (fuel := 1000) (Hs := []) (by decide +kernel) (by decide +kernel) (fun na b => by rw [← ceX4_labelled]; exact tkX4_labelled) (List.forall_mem_cons.mpr ⟨vc9 d, List.forall_mem_cons.mpr ⟨vc68 (d + 5), List.forall_mem_cons.mpr ⟨vc67 (d + 4), List.forall_mem_cons.mpr ⟨vc106 (d + 4), fun _ h => absurd h List.not_mem_nil⟩⟩⟩⟩) (cpyX (d + 5)) (by decide +kernel)
noncomputable def Kc108 : Con := ((31, [(2, 0, 0, [2])], [(2, 3, (2, 0, 0, [20]))]), [(2, 4, 8), (2, 13, 14), (20, 0, 2)], [(some (0, 0, 0, []), [], []), (some (0, 1, 1, []), [], [])])
set_option maxRecDepth 20000 in
theorem vc108 {l : Launch} {X : Nat × (Nat → Int32)} {e : Int} (d : Nat) : Vc l X U0 Pt8 e (d + 7) Kc108 :=
  ckf (d := (d + 6)) (Ks := [Kc67, Kc103, Kc105, Kc107]) (cy := 152) (cd := cdX4_readsClose) (nl := 3) (fuel := 1000) (Hs := []) (by decide +kernel) (by decide +kernel) (fun na b => by rw [← ceX4_readsClose]; exact tkX4_readsClose) (List.forall_mem_cons.mpr ⟨vc67 (d + 5), List.forall_mem_cons.mpr ⟨vc103 d, List.forall_mem_cons.mpr ⟨vc105 d, List.forall_mem_cons.mpr ⟨vc107 d, fun _ h => absurd h List.not_mem_nil⟩⟩⟩⟩) (cpyX (d + 6)) (by decide +kernel)
noncomputable def Kc109 : Con := ((30, [(2, 0, 0, [2])], [(2, 3, (2, 0, 0, [20]))]), [(2, 4, 8), (2, 12, 14), (4, 0, 14), (5, 0, 14), (6, 0, 14), (20, 0, 4), (20, 10, 10), (20, 14, 14), (20, 17, 17), (21, 0, 5), (22, 0, 5), (23, 0, 5), (24, 0, 5), (25, 0, 5), (26, 0, 4), (27, 0, 4), (28, 0, 4), (29, 0, 3), (30, 0, 3), (31, 0, 3), (32, 0, 3)], [(some (0, 0, 0, []), [], []), (some (0, 1, 1, []), [], [])])
set_option maxRecDepth 20000 in
theorem vc109 {l : Launch} {X : Nat × (Nat → Int32)} {e : Int} (d : Nat) : Vc l X U0 Pt8 e (d + 9) Kc109 :=
  ckf (d := (d + 8)) (Ks := [Kc69, Kc68, Kc9, Kc74, Kc77, Kc84, Kc90, Kc99, Kc101, Kc108]) (cy := 152) (cd := cdX4_readsLine) (nl := 1) (fuel := 1000) (Hs := []) (by decide +kernel) (by decide +kernel) (fun na b => by rw [← ceX4_readsLine]; exact tkX4_readsLine) (List.forall_mem_cons.mpr ⟨vc69 (d + 2), List.forall_mem_cons.mpr ⟨vc68 (d + 8), List.forall_mem_cons.mpr ⟨vc9 (d + 3), List.forall_mem_cons.mpr ⟨vc74 d, List.forall_mem_cons.mpr ⟨vc77 d, List.forall_mem_cons.mpr ⟨vc84 d, List.forall_mem_cons.mpr ⟨vc90 d, List.forall_mem_cons.mpr ⟨vc99 d, List.forall_mem_cons.mpr ⟨vc101 (d + 6), List.forall_mem_cons.mpr ⟨vc108 (d + 1), fun _ h => absurd h List.not_mem_nil⟩⟩⟩⟩⟩⟩⟩⟩⟩⟩) (cpyX (d + 8)) (by decide +kernel)
