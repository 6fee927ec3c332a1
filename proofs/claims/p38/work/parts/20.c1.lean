noncomputable def Kc110 : Con := ((23, [(2, 0, 0, [2]), (0, 0, 900, []), (2, 0, 0, [20])], []), [(2, 2, 8), (2, 12, 14), (4, 0, 14), (5, 0, 14), (6, 0, 14), (20, 0, 4), (20, 10, 10), (20, 14, 14), (20, 17, 17), (21, 0, 5), (22, 0, 5), (23, 0, 5), (24, 0, 5), (25, 0, 5), (26, 0, 4), (27, 0, 4), (28, 0, 4), (29, 0, 3), (30, 0, 3), (31, 0, 3), (32, 0, 3)], [(some (0, 0, 0, []), [], []), (some (0, 1, 1, []), [], [])])
set_option maxRecDepth 20000 in
theorem vc110 {l : Launch} {X : Nat × (Nat → Int32)} {e : Int} (d : Nat) : Vc l X U0 Pt8 e (d + 10) Kc110 :=
  ckf (d := (d + 9)) (Ks := [Kc3, Kc64, Kc67, Kc68, Kc109]) (cy := 152) (cd := cdX4_reads) (nl := 4) (fuel := 1000) (Hs := [((49, 0), ([(0, (2, 0, 0, [2])), (3, (0, 1, 0, []))], [], [(0, 0), (0, 901), (0, 900)], [(2, 2, (0, 2, 0, [])), (2, 3, (2, 0, 0, [20]))]), [(0, 3, 0), (2, 2, 2)], (1802, [(1, (-2))]), [])]) (by decide +kernel) (by decide +kernel) (fun na b => by rw [← ceX4_reads]; exact tkX4_reads) (List.forall_mem_cons.mpr ⟨vc3 (d + 9), List.forall_mem_cons.mpr ⟨vc64 (d + 9), List.forall_mem_cons.mpr ⟨vc67 (d + 8), List.forall_mem_cons.mpr ⟨vc68 (d + 9), List.forall_mem_cons.mpr ⟨vc109 d, fun _ h => absurd h List.not_mem_nil⟩⟩⟩⟩⟩) (cpyX (d + 9)) (by decide +kernel)
noncomputable def Kc111 : Con := ((9, [(2, 0, 0, [33]), (2, 0, 0, [20])], []), [(33, 4, 5), (34, 0, 5), (35, 0, 5), (36, 0, 5), (37, 0, 4)], [(none, [], [])])
set_option maxRecDepth 20000 in
theorem vc111 {l : Launch} {X : Nat × (Nat → Int32)} {e : Int} (d : Nat) : Vc l X U0 Pt8 e (d + 1) Kc111 :=
  ckf (d := d) (Ks := []) (cy := 152) (cd := cdX2_begin) (nl := 3) (fuel := 1000) (Hs := [((31, 0), ([(0, (2, 0, 0, [33])), (2, (0, 1, 0, []))], [], [(0, 0), (0, 6)], []), [(0, 2, 0)], (12, [(1, (-2))]), [])]) (by decide +kernel) (by decide +kernel) (fun na b => by rw [← ceX2_begin]; exact tkX2_begin) (fun _ h => absurd h List.not_mem_nil) (cpyX d) (by decide +kernel)
noncomputable def Kc113 : Con := ((54, [(2, 0, 0, [1])], []), [], [(some (0, iLo, iHi, []), [], [])])
set_option maxRecDepth 20000 in
theorem vc113 {l : Launch} {X : Nat × (Nat → Int32)} {e : Int} (d : Nat) : Vc l X U0 Pt8 e d Kc113 :=
  ckf (d := d) (Ks := []) (cy := 152) (cd := cdX6_fault) (nl := 1) (fuel := 1000) (Hs := []) (by decide +kernel) (by decide +kernel) (fun na b => by rw [← ceX6_fault]; exact tkX6_fault) (fun _ h => absurd h List.not_mem_nil) (cpyX d) (by decide +kernel)
noncomputable def Kc114 : Con := ((55, [(2, 0, 0, [1])], []), [], [(some (0, (-1), (-1), []), [], []), (some (0, iLo, iHi, []), [], [])])
set_option maxRecDepth 20000 in
theorem vc114 {l : Launch} {X : Nat × (Nat → Int32)} {e : Int} (d : Nat) : Vc l X U0 Pt8 e d Kc114 :=
  ckf (d := d) (Ks := []) (cy := 152) (cd := cdX6_where) (nl := 1) (fuel := 1000) (Hs := []) (by decide +kernel) (by decide +kernel) (fun na b => by rw [← ceX6_where]; exact tkX6_where) (fun _ h => absurd h List.not_mem_nil) (cpyX d) (by decide +kernel)
noncomputable def Kc115 : Con := ((109, [(2, 0, 0, [1]), (0, iLo, iHi, [])], []), [], [(some (0, 0, 0, []), [], []), (some (0, 1, 1, []), [(1, 0, 5)], [])])
set_option maxRecDepth 20000 in
theorem vc115 {l : Launch} {X : Nat × (Nat → Int32)} {e : Int} (d : Nat) : Vc l X U0 Pt8 e d Kc115 :=
  ckf (d := d) (Ks := []) (cy := 152) (cd := cdX6_isFace) (nl := 2) (fuel := 1000) (Hs := []) (by decide +kernel) (by decide +kernel) (fun na b => by rw [← ceX6_isFace]; exact tkX6_isFace) (fun _ h => absurd h List.not_mem_nil) (cpyX d) (by decide +kernel)
noncomputable def Kc116 : Con := ((11, [(2, 0, 0, [33]), (0, 0, 5, [])], []), [], [(some (0, 0, 0, []), [], []), (some (0, 1, 1, []), [], [])])
set_option maxRecDepth 20000 in
theorem vc116 {l : Launch} {X : Nat × (Nat → Int32)} {e : Int} (d : Nat) : Vc l X U0 Pt8 e d Kc116 :=
  ckf (d := d) (Ks := []) (cy := 152) (cd := cdX2_hasFallen) (nl := 2) (fuel := 1000) (Hs := []) (by decide +kernel) (by decide +kernel) (fun na b => by rw [← ceX2_hasFallen]; exact tkX2_hasFallen) (fun _ h => absurd h List.not_mem_nil) (cpyX d) (by decide +kernel)
noncomputable def Kc117 : Con := ((114, [(2, 0, 0, [1]), (0, iLo, iHi, [])], []), [], [(some (0, (-2), (-2), []), [], []), (some (0, 0, 4, []), [], [])])
set_option maxRecDepth 20000 in
theorem vc117 {l : Launch} {X : Nat × (Nat → Int32)} {e : Int} (d : Nat) : Vc l X U0 Pt8 e d Kc117 :=
  ckf (d := d) (Ks := []) (cy := 152) (cd := cdX6_canonOf) (nl := 3) (fuel := 1000) (Hs := [((2, 0), ([(0, (2, 0, 0, [1])), (1, (0, 1, 0, [])), (2, (0, 2, 0, []))], [], [(0, 0), (iLo, iHi), (0, 5)], []), [(0, 1, 0), (0, 2, 0)], (10, [(2, (-2))]), [])]) (by decide +kernel) (by decide +kernel) (fun na b => by rw [← ceX6_canonOf]; exact tkX6_canonOf) (fun _ h => absurd h List.not_mem_nil) (cpyX d) (by decide +kernel)
noncomputable def Kc118 : Con := ((56, [(2, 0, 0, [1]), (0, iLo, iHi, []), (0, iLo, iHi, [])], []), [(1, 13, 13)], [(some (0, (-1), (-1), []), [], []), (some (0, iLo, iHi, []), [(1, 0, 5), (2, 0, 6)], [])])
set_option maxRecDepth 20000 in
theorem vc118 {l : Launch} {X : Nat × (Nat → Int32)} {e : Int} (d : Nat) : Vc l X U0 Pt8 e (d + 1) Kc118 :=
  ckf (d := d) (Ks := [Kc115, Kc2, Kc63, Kc116, Kc117]) (cy := 152) (cd := cdX6_face) (nl := 3) (fuel := 1000) (Hs := []) (by decide +kernel) (by decide +kernel) (fun na b => by rw [← ceX6_face]; exact tkX6_face) (List.forall_mem_cons.mpr ⟨vc115 d, List.forall_mem_cons.mpr ⟨vc2 d, List.forall_mem_cons.mpr ⟨vc63 d, List.forall_mem_cons.mpr ⟨vc116 d, List.forall_mem_cons.mpr ⟨vc117 d, fun _ h => absurd h List.not_mem_nil⟩⟩⟩⟩⟩) (cpyX d) (by decide +kernel)
noncomputable def Kc119 : Con := ((110, [(2, 0, 0, [1]), (0, iLo, iHi, [])], []), [], [(some (0, 0, 0, []), [], []), (some (0, 1, 1, []), [(1, 0, 4)], [])])
set_option maxRecDepth 20000 in
theorem vc119 {l : Launch} {X : Nat × (Nat → Int32)} {e : Int} (d : Nat) : Vc l X U0 Pt8 e d Kc119 :=
  ckf (d := d) (Ks := []) (cy := 152) (cd := cdX6_isCanon) (nl := 2) (fuel := 1000) (Hs := []) (by decide +kernel) (by decide +kernel) (fun na b => by rw [← ceX6_isCanon]; exact tkX6_isCanon) (fun _ h => absurd h List.not_mem_nil) (cpyX d) (by decide +kernel)
noncomputable def Kc120 : Con := ((57, [(2, 0, 0, [1]), (0, iLo, iHi, []), (0, iLo, iHi, [])], []), [(1, 13, 13)], [(some (0, (-1), (-1), []), [], []), (some (0, iLo, iHi, []), [(1, 0, 4), (2, 0, 2)], [])])
set_option maxRecDepth 20000 in
theorem vc120 {l : Launch} {X : Nat × (Nat → Int32)} {e : Int} (d : Nat) : Vc l X U0 Pt8 e (d + 1) Kc120 :=
  ckf (d := d) (Ks := [Kc119, Kc2, Kc63]) (cy := 152) (cd := cdX6_canon) (nl := 3) (fuel := 1000) (Hs := []) (by decide +kernel) (by decide +kernel) (fun na b => by rw [← ceX6_canon]; exact tkX6_canon) (List.forall_mem_cons.mpr ⟨vc119 d, List.forall_mem_cons.mpr ⟨vc2 d, List.forall_mem_cons.mpr ⟨vc63 d, fun _ h => absurd h List.not_mem_nil⟩⟩⟩) (cpyX d) (by decide +kernel)
noncomputable def Kc121 : Con := ((111, [(2, 0, 0, [1]), (0, iLo, iHi, [])], []), [], [(some (0, 0, 0, []), [], []), (some (0, 1, 1, []), [(1, 0, 19)], [])])
set_option maxRecDepth 20000 in
theorem vc121 {l : Launch} {X : Nat × (Nat → Int32)} {e : Int} (d : Nat) : Vc l X U0 Pt8 e (d + 1) Kc121 :=
  ckf (d := d) (Ks := [Kc22, Kc79]) (cy := 152) (cd := cdX6_isCell) (nl := 2) (fuel := 1000) (Hs := []) (by decide +kernel) (by decide +kernel) (fun na b => by rw [← ceX6_isCell]; exact tkX6_isCell) (List.forall_mem_cons.mpr ⟨vc22 d, List.forall_mem_cons.mpr ⟨vc79 d, fun _ h => absurd h List.not_mem_nil⟩⟩) (cpyX d) (by decide +kernel)
noncomputable def Kc122 : Con := ((44, [(2, 0, 0, [41]), (2, 0, 0, [7]), (0, iLo, iHi, [])], []), [], [(some (0, iLo, iHi, []), [], [])])
set_option maxRecDepth 20000 in
theorem vc122 {l : Launch} {X : Nat × (Nat → Int32)} {e : Int} (d : Nat) : Vc l X U0 Pt8 e d Kc122 :=
  ckf (d := d) (Ks := []) (cy := 152) (cd := cdX5_beside) (nl := 5) (fuel := 1000) (Hs := [((5, 0), ([(1, (2, 0, 0, [7])), (2, (0, 1, 0, [])), (3, (0, 2, 0, [])), (4, (0, 3, 0, []))], [], [(0, 0), (iLo, iHi), (iLo, iHi), (0, 4)], []), [(0, 2, 0), (0, 3, 0), (0, 4, 0)], (8, [(3, (-2))]), [])]) (by decide +kernel) (by decide +kernel) (fun na b => by rw [← ceX5_beside]; exact tkX5_beside) (fun _ h => absurd h List.not_mem_nil) (cpyX d) (by decide +kernel)
noncomputable def Kc123 : Con := ((16, [(2, 0, 0, [7])], []), [], [(some (0, 0, 1048575, []), [], [])])
set_option maxRecDepth 20000 in
theorem vc123 {l : Launch} {X : Nat × (Nat → Int32)} {e : Int} (d : Nat) : Vc l X U0 Pt8 e (d + 1) Kc123 :=
  ckf (d := d) (Ks := [Kc22]) (cy := 152) (cd := cdX3_open) (nl := 1) (fuel := 1000) (Hs := []) (by decide +kernel) (by decide +kernel) (fun na b => by rw [← ceX3_open]; exact tkX3_open) (List.forall_mem_cons.mpr ⟨vc22 d, fun _ h => absurd h List.not_mem_nil⟩) (cpyX d) (by decide +kernel)
noncomputable def Kc124 : Con := ((44, [(2, 0, 0, [41]), (2, 0, 0, [20]), (0, iLo, iHi, [])], []), [], [(some (0, iLo, iHi, []), [], [])])
set_option maxRecDepth 20000 in
theorem vc124 {l : Launch} {X : Nat × (Nat → Int32)} {e : Int} (d : Nat) : Vc l X U0 Pt8 e d Kc124 :=
  ckf (d := d) (Ks := []) (cy := 152) (cd := cdX5_beside) (nl := 5) (fuel := 1000) (Hs := [((5, 0), ([(1, (2, 0, 0, [20])), (2, (0, 1, 0, [])), (3, (0, 2, 0, [])), (4, (0, 3, 0, []))], [], [(0, 0), (iLo, iHi), (iLo, iHi), (0, 4)], []), [(0, 2, 0), (0, 3, 0), (0, 4, 0)], (8, [(3, (-2))]), [])]) (by decide +kernel) (by decide +kernel) (fun na b => by rw [← ceX5_beside]; exact tkX5_beside) (fun _ h => absurd h List.not_mem_nil) (cpyX d) (by decide +kernel)
noncomputable def Kc125 : Con := ((16, [(2, 0, 0, [20])], []), [], [(some (0, 0, 1048575, []), [], [])])
set_option maxRecDepth 20000 in
theorem vc125 {l : Launch} {X : Nat × (Nat → Int32)} {e : Int} (d : Nat) : Vc l X U0 Pt8 e (d + 1) Kc125 :=
  ckf (d := d) (Ks := [Kc79]) (cy := 152) (cd := cdX3_open) (nl := 1) (fuel := 1000) (Hs := []) (by decide +kernel) (by decide +kernel) (fun na b => by rw [← ceX3_open]; exact tkX3_open) (List.forall_mem_cons.mpr ⟨vc79 d, fun _ h => absurd h List.not_mem_nil⟩) (cpyX d) (by decide +kernel)
noncomputable def Kc126 : Con := ((58, [(2, 0, 0, [1]), (0, iLo, iHi, []), (0, iLo, iHi, [])], []), [(1, 13, 13)], [(some (0, (-1), (-1), []), [], []), (some (0, iLo, iHi, []), [(1, 0, 19), (2, 0, 3)], [])])
set_option maxRecDepth 20000 in
theorem vc126 {l : Launch} {X : Nat × (Nat → Int32)} {e : Int} (d : Nat) : Vc l X U0 Pt8 e (d + 2) Kc126 :=
  ckf (d := (d + 1)) (Ks := [Kc121, Kc2, Kc26, Kc63, Kc82, Kc45, Kc98, Kc122, Kc123, Kc124, Kc125]) (cy := 152) (cd := cdX6_cell) (nl := 3) (fuel := 1000) (Hs := []) (by decide +kernel) (by decide +kernel) (fun na b => by rw [← ceX6_cell]; exact tkX6_cell) (List.forall_mem_cons.mpr ⟨vc121 d, List.forall_mem_cons.mpr ⟨vc2 (d + 1), List.forall_mem_cons.mpr ⟨vc26 (d + 1), List.forall_mem_cons.mpr ⟨vc63 (d + 1), List.forall_mem_cons.mpr ⟨vc82 (d + 1), List.forall_mem_cons.mpr ⟨vc45 (d + 1), List.forall_mem_cons.mpr ⟨vc98 (d + 1), List.forall_mem_cons.mpr ⟨vc122 (d + 1), List.forall_mem_cons.mpr ⟨vc123 d, List.forall_mem_cons.mpr ⟨vc124 (d + 1), List.forall_mem_cons.mpr ⟨vc125 d, fun _ h => absurd h List.not_mem_nil⟩⟩⟩⟩⟩⟩⟩⟩⟩⟩⟩) (cpyX (d + 1)) (by decide +kernel)
noncomputable def Kc127 : Con := ((108, [(2, 0, 0, [1])], []), [], [(some (0, 0, 0, []), [], []), (some (0, 1, 1, []), [], [])])
set_option maxRecDepth 20000 in
theorem vc127 {l : Launch} {X : Nat × (Nat → Int32)} {e : Int} (d : Nat) : Vc l X U0 Pt8 e d Kc127 :=
  ckf (d := d) (Ks := []) (cy := 152) (cd := cdX6_hasClose) (nl := 1) (fuel := 1000) (Hs := []) (by decide +kernel) (by decide +kernel) (fun na b => by rw [← ceX6_hasClose]; exact tkX6_hasClose) (fun _ h => absurd h List.not_mem_nil) (cpyX d) (by decide +kernel)
noncomputable def Kc128 : Con := ((59, [(2, 0, 0, [1])], []), [(1, 13, 13)], [(some (0, (-1), (-1), []), [], []), (some (0, iLo, iHi, []), [], [])])
set_option maxRecDepth 20000 in
theorem vc128 {l : Launch} {X : Nat × (Nat → Int32)} {e : Int} (d : Nat) : Vc l X U0 Pt8 e (d + 1) Kc128 :=
  ckf (d := d) (Ks := [Kc127, Kc2, Kc63]) (cy := 152) (cd := cdX6_burden) (nl := 3) (fuel := 1000) (Hs := [((17, 0), ([(0, (2, 0, 0, [1])), (1, (0, 1, 0, [])), (2, (0, 2, 0, []))], [], [(0, 0), (iLo, iHi), (0, 6)], []), [(0, 1, 0), (0, 2, 0)], (12, [(2, (-2))]), [])]) (by decide +kernel) (by decide +kernel) (fun na b => by rw [← ceX6_burden]; exact tkX6_burden) (List.forall_mem_cons.mpr ⟨vc127 d, List.forall_mem_cons.mpr ⟨vc2 d, List.forall_mem_cons.mpr ⟨vc63 d, fun _ h => absurd h List.not_mem_nil⟩⟩⟩) (cpyX d) (by decide +kernel)
noncomputable def Kc129 : Con := ((107, [(0, iLo, iHi, []), (0, 0, 0, []), (0, 60, 60, [])], []), [], [(some (0, 0, 0, []), [], []), (some (0, 1, 1, []), [(0, 0, 60)], [])])
set_option maxRecDepth 20000 in
theorem vc129 {l : Launch} {X : Nat × (Nat → Int32)} {e : Int} (d : Nat) : Vc l X U0 Pt8 e d Kc129 :=
  ckf (d := d) (Ks := []) (cy := 152) (cd := cdX6_within) (nl := 3) (fuel := 1000) (Hs := []) (by decide +kernel) (by decide +kernel) (fun na b => by rw [← ceX6_within]; exact tkX6_within) (fun _ h => absurd h List.not_mem_nil) (cpyX d) (by decide +kernel)
noncomputable def Kc130 : Con := ((120, [(2, 0, 0, [1]), (0, iLo, iHi, []), (0, 0, 0, []), (0, 60, 60, [])], []), [(1, 13, 13)], [(some (0, 0, 0, []), [], []), (some (0, 1, 1, []), [(1, 0, 60)], [])])
set_option maxRecDepth 20000 in
theorem vc130 {l : Launch} {X : Nat × (Nat → Int32)} {e : Int} (d : Nat) : Vc l X U0 Pt8 e (d + 1) Kc130 :=
  ckf (d := d) (Ks := [Kc129, Kc2]) (cy := 152) (cd := cdX6_numberFits) (nl := 4) (fuel := 1000) (Hs := []) (by decide +kernel) (by decide +kernel) (fun na b => by rw [← ceX6_numberFits]; exact tkX6_numberFits) (List.forall_mem_cons.mpr ⟨vc129 d, List.forall_mem_cons.mpr ⟨vc2 d, fun _ h => absurd h List.not_mem_nil⟩⟩) (cpyX d) (by decide +kernel)
noncomputable def Kc131 : Con := ((115, [(2, 0, 0, [1]), (0, iLo, iHi, []), (0, iLo, iHi, [])], []), [(1, 13, 13)], [(some (0, 0, 0, []), [], []), (some (0, 1, 1, []), [(1, 0, 5), (2, 0, 60)], [])])
set_option maxRecDepth 20000 in
theorem vc131 {l : Launch} {X : Nat × (Nat → Int32)} {e : Int} (d : Nat) : Vc l X U0 Pt8 e (d + 2) Kc131 :=
  ckf (d := (d + 1)) (Ks := [Kc115, Kc2, Kc130]) (cy := 152) (cd := cdX6_canFollow) (nl := 3) (fuel := 1000) (Hs := []) (by decide +kernel) (by decide +kernel) (fun na b => by rw [← ceX6_canFollow]; exact tkX6_canFollow) (List.forall_mem_cons.mpr ⟨vc115 (d + 1), List.forall_mem_cons.mpr ⟨vc2 (d + 1), List.forall_mem_cons.mpr ⟨vc130 d, fun _ h => absurd h List.not_mem_nil⟩⟩⟩) (cpyX (d + 1)) (by decide +kernel)
noncomputable def Kc132 : Con := ((0, [(2, 0, 0, [40]), (2, 0, 0, [7]), (0, 0, 5, []), (0, (-2), (-2), []), (0, 0, 0, [])], []), [(40, 0, 7)], [(none, [], [])])
set_option maxRecDepth 20000 in
theorem vc132 {l : Launch} {X : Nat × (Nat → Int32)} {e : Int} (d : Nat) : Vc l X U0 Pt8 e d Kc132 :=
  ckf (d := d) (Ks := []) (cy := 152) (cd := cdX0_start) (nl := 5) (fuel := 1000) (Hs := []) (by decide +kernel) (by decide +kernel) (fun na b => by rw [← ceX0_start]; exact tkX0_start) (fun _ h => absurd h List.not_mem_nil) (cpyX d) (by decide +kernel)
noncomputable def Kc133 : Con := ((0, [(2, 0, 0, [40]), (2, 0, 0, [20]), (0, 0, 5, []), (0, (-2), (-2), []), (0, 0, 0, [])], []), [(40, 0, 7)], [(none, [], [])])
set_option maxRecDepth 20000 in
theorem vc133 {l : Launch} {X : Nat × (Nat → Int32)} {e : Int} (d : Nat) : Vc l X U0 Pt8 e d Kc133 :=
  ckf (d := d) (Ks := []) (cy := 152) (cd := cdX0_start) (nl := 5) (fuel := 1000) (Hs := []) (by decide +kernel) (by decide +kernel) (fun na b => by rw [← ceX0_start]; exact tkX0_start) (fun _ h => absurd h List.not_mem_nil) (cpyX d) (by decide +kernel)
noncomputable def Kc134 : Con := ((121, [(2, 0, 0, [1]), (0, 0, 5, []), (0, (-2), (-2), [])], []), [(40, 0, 7)], [(none, [], [])])
set_option maxRecDepth 20000 in
theorem vc134 {l : Launch} {X : Nat × (Nat → Int32)} {e : Int} (d : Nat) : Vc l X U0 Pt8 e (d + 1) Kc134 :=
  ckf (d := d) (Ks := [Kc132, Kc133]) (cy := 152) (cd := cdX6_startNow) (nl := 3) (fuel := 1000) (Hs := []) (by decide +kernel) (by decide +kernel) (fun na b => by rw [← ceX6_startNow]; exact tkX6_startNow) (List.forall_mem_cons.mpr ⟨vc132 d, List.forall_mem_cons.mpr ⟨vc133 d, fun _ h => absurd h List.not_mem_nil⟩⟩) (cpyX d) (by decide +kernel)
noncomputable def Kc135 : Con := ((1, [(2, 0, 0, [40]), (0, iLo, iHi, [])], []), [(40, 4, 7)], [(some (0, 1, 1, []), [], []), (some (0, 0, 0, []), [], [])])
set_option maxRecDepth 20000 in
theorem vc135 {l : Launch} {X : Nat × (Nat → Int32)} {e : Int} (d : Nat) : Vc l X U0 Pt8 e d Kc135 :=
  ckf (d := d) (Ks := []) (cy := 152) (cd := cdX0_pass) (nl := 3) (fuel := 1000) (Hs := []) (by decide +kernel) (by decide +kernel) (fun na b => by rw [← ceX0_pass]; exact tkX0_pass) (fun _ h => absurd h List.not_mem_nil) (cpyX d) (by decide +kernel)
noncomputable def Kc136 : Con := ((2, [(2, 0, 0, [40]), (0, 0, 60, [])], []), [(40, 4, 7)], [(none, [], [])])
set_option maxRecDepth 20000 in
theorem vc136 {l : Launch} {X : Nat × (Nat → Int32)} {e : Int} (d : Nat) : Vc l X U0 Pt8 e (d + 1) Kc136 :=
  ckf (d := d) (Ks := [Kc135]) (cy := 152) (cd := cdX0_passAll) (nl := 3) (fuel := 1000) (Hs := [((2, 0), ([(0, (2, 0, 0, [40])), (1, (0, 1, 0, [])), (2, (0, 2, 0, []))], [], [(0, 0), (0, 60), (1, 61)], []), [(0, 1, 0), (0, 2, 0)], (122, [(2, (-2))]), [])]) (by decide +kernel) (by decide +kernel) (fun na b => by rw [← ceX0_passAll]; exact tkX0_passAll) (List.forall_mem_cons.mpr ⟨vc135 d, fun _ h => absurd h List.not_mem_nil⟩) (cpyX d) (by decide +kernel)
noncomputable def Kc137 : Con := ((0, [(2, 0, 0, [40]), (2, 0, 0, [7]), (0, 0, 5, []), (0, 0, 4, []), (0, iLo, iHi, [])], []), [(40, 0, 7)], [(none, [], [])])
set_option maxRecDepth 20000 in
theorem vc137 {l : Launch} {X : Nat × (Nat → Int32)} {e : Int} (d : Nat) : Vc l X U0 Pt8 e d Kc137 :=
  ckf (d := d) (Ks := []) (cy := 152) (cd := cdX0_start) (nl := 5) (fuel := 1000) (Hs := []) (by decide +kernel) (by decide +kernel) (fun na b => by rw [← ceX0_start]; exact tkX0_start) (fun _ h => absurd h List.not_mem_nil) (cpyX d) (by decide +kernel)
noncomputable def Kc138 : Con := ((0, [(2, 0, 0, [40]), (2, 0, 0, [20]), (0, 0, 5, []), (0, 0, 4, []), (0, iLo, iHi, [])], []), [(40, 0, 7)], [(none, [], [])])
set_option maxRecDepth 20000 in
theorem vc138 {l : Launch} {X : Nat × (Nat → Int32)} {e : Int} (d : Nat) : Vc l X U0 Pt8 e d Kc138 :=
  ckf (d := d) (Ks := []) (cy := 152) (cd := cdX0_start) (nl := 5) (fuel := 1000) (Hs := []) (by decide +kernel) (by decide +kernel) (fun na b => by rw [← ceX0_start]; exact tkX0_start) (fun _ h => absurd h List.not_mem_nil) (cpyX d) (by decide +kernel)
noncomputable def Kc139 : Con := ((121, [(2, 0, 0, [1]), (0, 0, 5, []), (0, 0, 4, [])], []), [(40, 0, 7)], [(none, [], [])])
set_option maxRecDepth 20000 in
theorem vc139 {l : Launch} {X : Nat × (Nat → Int32)} {e : Int} (d : Nat) : Vc l X U0 Pt8 e (d + 1) Kc139 :=
  ckf (d := d) (Ks := [Kc137, Kc138]) (cy := 152) (cd := cdX6_startNow) (nl := 3) (fuel := 1000) (Hs := []) (by decide +kernel) (by decide +kernel) (fun na b => by rw [← ceX6_startNow]; exact tkX6_startNow) (List.forall_mem_cons.mpr ⟨vc137 d, List.forall_mem_cons.mpr ⟨vc138 d, fun _ h => absurd h List.not_mem_nil⟩⟩) (cpyX d) (by decide +kernel)
noncomputable def Kc140 : Con := ((122, [(2, 0, 0, [1]), (0, 0, 5, []), (0, 0, 60, [])], []), [(40, 0, 7)], [(none, [], [])])
set_option maxRecDepth 20000 in
theorem vc140 {l : Launch} {X : Nat × (Nat → Int32)} {e : Int} (d : Nat) : Vc l X U0 Pt8 e (d + 2) Kc140 :=
  ckf (d := (d + 1)) (Ks := [Kc117, Kc134, Kc136, Kc139]) (cy := 152) (cd := cdX6_follow) (nl := 3) (fuel := 1000) (Hs := []) (by decide +kernel) (by decide +kernel) (fun na b => by rw [← ceX6_follow]; exact tkX6_follow) (List.forall_mem_cons.mpr ⟨vc117 (d + 1), List.forall_mem_cons.mpr ⟨vc134 d, List.forall_mem_cons.mpr ⟨vc136 d, List.forall_mem_cons.mpr ⟨vc139 d, fun _ h => absurd h List.not_mem_nil⟩⟩⟩⟩) (cpyX (d + 1)) (by decide +kernel)
noncomputable def Kc141 : Con := ((60, [(2, 0, 0, [1]), (0, iLo, iHi, []), (0, iLo, iHi, [])], []), [(1, 13, 13), (40, 0, 7)], [(some (0, (-1), (-1), []), [], []), (some (0, iLo, iHi, []), [(1, 0, 5), (2, 0, 60)], [])])
set_option maxRecDepth 20000 in
theorem vc141 {l : Launch} {X : Nat × (Nat → Int32)} {e : Int} (d : Nat) : Vc l X U0 Pt8 e (d + 3) Kc141 :=
  ckf (d := (d + 2)) (Ks := [Kc131, Kc140, Kc63]) (cy := 152) (cd := cdX6_bears) (nl := 3) (fuel := 1000) (Hs := []) (by decide +kernel) (by decide +kernel) (fun na b => by rw [← ceX6_bears]; exact tkX6_bears) (List.forall_mem_cons.mpr ⟨vc131 d, List.forall_mem_cons.mpr ⟨vc140 d, List.forall_mem_cons.mpr ⟨vc63 (d + 2), fun _ h => absurd h List.not_mem_nil⟩⟩⟩) (cpyX (d + 2)) (by decide +kernel)
noncomputable def Kc142 : Con := ((61, [(2, 0, 0, [1]), (0, iLo, iHi, []), (0, iLo, iHi, [])], []), [(1, 13, 13), (40, 0, 7)], [(some (0, (-1), (-1), []), [], []), (some (0, iLo, iHi, []), [(1, 0, 5), (2, 0, 60)], [])])
set_option maxRecDepth 20000 in
theorem vc142 {l : Launch} {X : Nat × (Nat → Int32)} {e : Int} (d : Nat) : Vc l X U0 Pt8 e (d + 3) Kc142 :=
  ckf (d := (d + 2)) (Ks := [Kc131, Kc140, Kc63]) (cy := 152) (cd := cdX6_holds) (nl := 3) (fuel := 1000) (Hs := []) (by decide +kernel) (by decide +kernel) (fun na b => by rw [← ceX6_holds]; exact tkX6_holds) (List.forall_mem_cons.mpr ⟨vc131 d, List.forall_mem_cons.mpr ⟨vc140 d, List.forall_mem_cons.mpr ⟨vc63 (d + 2), fun _ h => absurd h List.not_mem_nil⟩⟩⟩) (cpyX (d + 2)) (by decide +kernel)
noncomputable def Kc143 : Con := ((62, [(2, 0, 0, [1]), (0, iLo, iHi, []), (0, iLo, iHi, [])], []), [(1, 13, 13), (40, 0, 7)], [(some (0, (-1), (-1), []), [], []), (some (0, iLo, iHi, []), [(1, 0, 5), (2, 0, 60)], [])])
set_option maxRecDepth 20000 in
theorem vc143 {l : Launch} {X : Nat × (Nat → Int32)} {e : Int} (d : Nat) : Vc l X U0 Pt8 e (d + 3) Kc143 :=
  ckf (d := (d + 2)) (Ks := [Kc131, Kc140, Kc63]) (cy := 152) (cd := cdX6_drops) (nl := 3) (fuel := 1000) (Hs := []) (by decide +kernel) (by decide +kernel) (fun na b => by rw [← ceX6_drops]; exact tkX6_drops) (List.forall_mem_cons.mpr ⟨vc131 d, List.forall_mem_cons.mpr ⟨vc140 d, List.forall_mem_cons.mpr ⟨vc63 (d + 2), fun _ h => absurd h List.not_mem_nil⟩⟩⟩) (cpyX (d + 2)) (by decide +kernel)
noncomputable def Kc144 : Con := ((3, [(2, 0, 0, [40]), (0, 60, 60, [])], []), [(40, 4, 7)], [(some (0, (-2), (-2), []), [], []), (some (0, 1, 60, []), [], [])])
set_option maxRecDepth 20000 in
theorem vc144 {l : Launch} {X : Nat × (Nat → Int32)} {e : Int} (d : Nat) : Vc l X U0 Pt8 e (d + 1) Kc144 :=
  ckf (d := d) (Ks := [Kc135]) (cy := 152) (cd := cdX0_firstDrop) (nl := 3) (fuel := 1000) (Hs := [((2, 0), ([(0, (2, 0, 0, [40])), (1, (0, 1, 0, [])), (2, (0, 2, 0, []))], [], [(0, 0), (60, 60), (1, 61)], []), [(0, 1, 0), (0, 2, 0)], (122, [(2, (-2))]), [])]) (by decide +kernel) (by decide +kernel) (fun na b => by rw [← ceX0_firstDrop]; exact tkX0_firstDrop) (List.forall_mem_cons.mpr ⟨vc135 d, fun _ h => absurd h List.not_mem_nil⟩) (cpyX d) (by decide +kernel)
noncomputable def Kc145 : Con := ((63, [(2, 0, 0, [1]), (0, iLo, iHi, [])], []), [(1, 13, 13), (40, 0, 7)], [(some (0, (-1), (-1), []), [], []), (some (0, iLo, iHi, []), [(1, 0, 5)], [])])
set_option maxRecDepth 20000 in
theorem vc145 {l : Launch} {X : Nat × (Nat → Int32)} {e : Int} (d : Nat) : Vc l X U0 Pt8 e (d + 2) Kc145 :=
  ckf (d := (d + 1)) (Ks := [Kc115, Kc2, Kc117, Kc134, Kc144, Kc63, Kc139]) (cy := 152) (cd := cdX6_dropsIn) (nl := 2) (fuel := 1000) (Hs := []) (by decide +kernel) (by decide +kernel) (fun na b => by rw [← ceX6_dropsIn]; exact tkX6_dropsIn) (List.forall_mem_cons.mpr ⟨vc115 (d + 1), List.forall_mem_cons.mpr ⟨vc2 (d + 1), List.forall_mem_cons.mpr ⟨vc117 (d + 1), List.forall_mem_cons.mpr ⟨vc134 d, List.forall_mem_cons.mpr ⟨vc144 d, List.forall_mem_cons.mpr ⟨vc63 (d + 1), List.forall_mem_cons.mpr ⟨vc139 d, fun _ h => absurd h List.not_mem_nil⟩⟩⟩⟩⟩⟩⟩) (cpyX (d + 1)) (by decide +kernel)
noncomputable def Kc146 : Con := ((64, [(2, 0, 0, [1]), (0, iLo, iHi, [])], []), [(1, 13, 13), (40, 0, 7)], [(some (0, (-1), (-1), []), [], []), (some (0, iLo, iHi, []), [], [])])
set_option maxRecDepth 20000 in
theorem vc146 {l : Launch} {X : Nat × (Nat → Int32)} {e : Int} (d : Nat) : Vc l X U0 Pt8 e (d + 2) Kc146 :=
  ckf (d := (d + 1)) (Ks := [Kc115, Kc2, Kc117, Kc134, Kc139, Kc63, Kc135]) (cy := 152) (cd := cdX6_fallsIn) (nl := 3) (fuel := 1000) (Hs := [((26, 0), ([(0, (2, 0, 0, [1])), (2, (0, 1, 0, []))], [], [(0, 0), (0, 61)], []), [(0, 2, 0)], (122, [(1, (-2))]), [])]) (by decide +kernel) (by decide +kernel) (fun na b => by rw [← ceX6_fallsIn]; exact tkX6_fallsIn) (List.forall_mem_cons.mpr ⟨vc115 (d + 1), List.forall_mem_cons.mpr ⟨vc2 (d + 1), List.forall_mem_cons.mpr ⟨vc117 (d + 1), List.forall_mem_cons.mpr ⟨vc134 d, List.forall_mem_cons.mpr ⟨vc139 d, List.forall_mem_cons.mpr ⟨vc63 (d + 1), List.forall_mem_cons.mpr ⟨vc135 (d + 1), fun _ h => absurd h List.not_mem_nil⟩⟩⟩⟩⟩⟩⟩) (cpyX (d + 1)) (by decide +kernel)
noncomputable def Kc147 : Con := ((107, [(0, iLo, iHi, []), (0, 1, 1, []), (0, 60, 60, [])], []), [], [(some (0, 0, 0, []), [], []), (some (0, 1, 1, []), [(0, 1, 60)], [])])
set_option maxRecDepth 20000 in
theorem vc147 {l : Launch} {X : Nat × (Nat → Int32)} {e : Int} (d : Nat) : Vc l X U0 Pt8 e d Kc147 :=
  ckf (d := d) (Ks := []) (cy := 152) (cd := cdX6_within) (nl := 3) (fuel := 1000) (Hs := []) (by decide +kernel) (by decide +kernel) (fun na b => by rw [← ceX6_within]; exact tkX6_within) (fun _ h => absurd h List.not_mem_nil) (cpyX d) (by decide +kernel)
noncomputable def Kc148 : Con := ((120, [(2, 0, 0, [1]), (0, iLo, iHi, []), (0, 1, 1, []), (0, 60, 60, [])], []), [(1, 13, 13)], [(some (0, 0, 0, []), [], []), (some (0, 1, 1, []), [(1, 1, 60)], [])])
set_option maxRecDepth 20000 in
theorem vc148 {l : Launch} {X : Nat × (Nat → Int32)} {e : Int} (d : Nat) : Vc l X U0 Pt8 e (d + 1) Kc148 :=
  ckf (d := d) (Ks := [Kc147, Kc2]) (cy := 152) (cd := cdX6_numberFits) (nl := 4) (fuel := 1000) (Hs := []) (by decide +kernel) (by decide +kernel) (fun na b => by rw [← ceX6_numberFits]; exact tkX6_numberFits) (List.forall_mem_cons.mpr ⟨vc147 d, List.forall_mem_cons.mpr ⟨vc2 d, fun _ h => absurd h List.not_mem_nil⟩⟩) (cpyX d) (by decide +kernel)
noncomputable def Kc149 : Con := ((116, [(2, 0, 0, [1]), (0, iLo, iHi, []), (0, 1, 1, []), (0, 60, 60, [])], []), [(1, 13, 13)], [(some (0, 0, 0, []), [], []), (some (0, 1, 1, []), [(1, 1, 60)], [])])
set_option maxRecDepth 20000 in
theorem vc149 {l : Launch} {X : Nat × (Nat → Int32)} {e : Int} (d : Nat) : Vc l X U0 Pt8 e (d + 2) Kc149 :=
  ckf (d := (d + 1)) (Ks := [Kc127, Kc2, Kc148]) (cy := 152) (cd := cdX6_canLookAhead) (nl := 4) (fuel := 1000) (Hs := []) (by decide +kernel) (by decide +kernel) (fun na b => by rw [← ceX6_canLookAhead]; exact tkX6_canLookAhead) (List.forall_mem_cons.mpr ⟨vc127 (d + 1), List.forall_mem_cons.mpr ⟨vc2 (d + 1), List.forall_mem_cons.mpr ⟨vc148 d, fun _ h => absurd h List.not_mem_nil⟩⟩⟩) (cpyX (d + 1)) (by decide +kernel)
noncomputable def Kc150 : Con := ((123, [(2, 0, 0, [1]), (0, 1, 60, [])], []), [(40, 0, 7), (54, 1, 60)], [(none, [], [])])
set_option maxRecDepth 20000 in
theorem vc150 {l : Launch} {X : Nat × (Nat → Int32)} {e : Int} (d : Nat) : Vc l X U0 Pt8 e (d + 2) Kc150 :=
  ckf (d := (d + 1)) (Ks := [Kc117, Kc134, Kc139, Kc135]) (cy := 152) (cd := cdX6_foretellWet) (nl := 4) (fuel := 1000) (Hs := [((2, 0), ([(0, (2, 0, 0, [1])), (1, (0, 1, 0, [])), (2, (0, 2, 0, []))], [], [(0, 0), (1, 60), (1, 61)], []), [(0, 1, 0), (0, 2, 0)], (1982, [(2, (-4))]), []), ((22, 0), ([(0, (2, 0, 0, [1])), (1, (0, 1, 0, [])), (2, (0, 2, 0, []))], [], [(0, 0), (1, 60), (0, 6)], []), [(0, 1, 0), (0, 2, 0)], (1733, [(2, (-248))]), []), ((45, 0), ([(0, (2, 0, 0, [1])), (1, (0, 1, 0, [])), (2, (0, 2, 0, [])), (3, (0, 3, 0, []))], [], [(0, 0), (1, 60), (0, 5), (1, 61)], []), [(0, 1, 0), (0, 2, 0), (0, 3, 0)], (1732, [(2, (-248)), (3, (-4))]), [])]) (by decide +kernel) (by decide +kernel) (fun na b => by rw [← ceX6_foretellWet]; exact tkX6_foretellWet) (List.forall_mem_cons.mpr ⟨vc117 (d + 1), List.forall_mem_cons.mpr ⟨vc134 d, List.forall_mem_cons.mpr ⟨vc139 d, List.forall_mem_cons.mpr ⟨vc135 (d + 1), fun _ h => absurd h List.not_mem_nil⟩⟩⟩⟩) (cpyX (d + 1)) (by decide +kernel)
noncomputable def Kc151 : Con := ((65, [(2, 0, 0, [1]), (0, iLo, iHi, [])], []), [(1, 13, 13), (40, 0, 7), (54, 1, 60)], [(some (0, (-1), (-1), []), [], []), (some (0, iLo, iHi, []), [(1, 1, 60)], [])])
set_option maxRecDepth 20000 in
theorem vc151 {l : Launch} {X : Nat × (Nat → Int32)} {e : Int} (d : Nat) : Vc l X U0 Pt8 e (d + 3) Kc151 :=
  ckf (d := (d + 2)) (Ks := [Kc149, Kc150, Kc63]) (cy := 152) (cd := cdX6_wet) (nl := 2) (fuel := 1000) (Hs := []) (by decide +kernel) (by decide +kernel) (fun na b => by rw [← ceX6_wet]; exact tkX6_wet) (List.forall_mem_cons.mpr ⟨vc149 d, List.forall_mem_cons.mpr ⟨vc150 d, List.forall_mem_cons.mpr ⟨vc63 (d + 2), fun _ h => absurd h List.not_mem_nil⟩⟩⟩) (cpyX (d + 2)) (by decide +kernel)
noncomputable def Kc152 : Con := ((124, [(2, 0, 0, [1]), (0, 0, 19, []), (0, 0, 60, [])], []), [(40, 0, 7)], [(some (0, iLo, iHi, []), [], [])])
set_option maxRecDepth 20000 in
theorem vc152 {l : Launch} {X : Nat × (Nat → Int32)} {e : Int} (d : Nat) : Vc l X U0 Pt8 e (d + 3) Kc152 :=
  ckf (d := (d + 2)) (Ks := [Kc45, Kc140, Kc98]) (cy := 152) (cd := cdX6_wetDaysOf) (nl := 4) (fuel := 1000) (Hs := []) (by decide +kernel) (by decide +kernel) (fun na b => by rw [← ceX6_wetDaysOf]; exact tkX6_wetDaysOf) (List.forall_mem_cons.mpr ⟨vc45 (d + 2), List.forall_mem_cons.mpr ⟨vc140 d, List.forall_mem_cons.mpr ⟨vc98 (d + 2), fun _ h => absurd h List.not_mem_nil⟩⟩⟩) (cpyX (d + 2)) (by decide +kernel)
noncomputable def Kc153 : Con := ((66, [(2, 0, 0, [1]), (0, iLo, iHi, []), (0, iLo, iHi, [])], []), [(1, 13, 13), (40, 0, 7)], [(some (0, (-1), (-1), []), [], []), (some (0, iLo, iHi, []), [(1, 0, 19), (2, 0, 60)], [])])
set_option maxRecDepth 20000 in
theorem vc153 {l : Launch} {X : Nat × (Nat → Int32)} {e : Int} (d : Nat) : Vc l X U0 Pt8 e (d + 4) Kc153 :=
  ckf (d := (d + 3)) (Ks := [Kc121, Kc2, Kc129, Kc152, Kc63]) (cy := 152) (cd := cdX6_wetDays) (nl := 3) (fuel := 1000) (Hs := []) (by decide +kernel) (by decide +kernel) (fun na b => by rw [← ceX6_wetDays]; exact tkX6_wetDays) (List.forall_mem_cons.mpr ⟨vc121 (d + 2), List.forall_mem_cons.mpr ⟨vc2 (d + 3), List.forall_mem_cons.mpr ⟨vc129 (d + 3), List.forall_mem_cons.mpr ⟨vc152 d, List.forall_mem_cons.mpr ⟨vc63 (d + 3), fun _ h => absurd h List.not_mem_nil⟩⟩⟩⟩⟩) (cpyX (d + 3)) (by decide +kernel)
noncomputable def Kc154 : Con := ((2, [(2, 0, 0, [40]), (0, 60, 60, [])], []), [(40, 4, 7)], [(none, [], [])])
set_option maxRecDepth 20000 in
theorem vc154 {l : Launch} {X : Nat × (Nat → Int32)} {e : Int} (d : Nat) : Vc l X U0 Pt8 e (d + 1) Kc154 :=
  ckf (d := d) (Ks := [Kc135]) (cy := 152) (cd := cdX0_passAll) (nl := 3) (fuel := 1000) (Hs := [((2, 0), ([(0, (2, 0, 0, [40])), (1, (0, 1, 0, [])), (2, (0, 2, 0, []))], [], [(0, 0), (60, 60), (1, 61)], []), [(0, 1, 0), (0, 2, 0)], (122, [(2, (-2))]), [])]) (by decide +kernel) (by decide +kernel) (fun na b => by rw [← ceX0_passAll]; exact tkX0_passAll) (List.forall_mem_cons.mpr ⟨vc135 d, fun _ h => absurd h List.not_mem_nil⟩) (cpyX d) (by decide +kernel)
noncomputable def Kc155 : Con := ((122, [(2, 0, 0, [1]), (0, 0, 5, []), (0, 60, 60, [])], []), [(40, 0, 7)], [(none, [], [])])
set_option maxRecDepth 20000 in
theorem vc155 {l : Launch} {X : Nat × (Nat → Int32)} {e : Int} (d : Nat) : Vc l X U0 Pt8 e (d + 2) Kc155 :=
  ckf (d := (d + 1)) (Ks := [Kc117, Kc134, Kc154, Kc139]) (cy := 152) (cd := cdX6_follow) (nl := 3) (fuel := 1000) (Hs := []) (by decide +kernel) (by decide +kernel) (fun na b => by rw [← ceX6_follow]; exact tkX6_follow) (List.forall_mem_cons.mpr ⟨vc117 (d + 1), List.forall_mem_cons.mpr ⟨vc134 d, List.forall_mem_cons.mpr ⟨vc154 d, List.forall_mem_cons.mpr ⟨vc139 d, fun _ h => absurd h List.not_mem_nil⟩⟩⟩⟩) (cpyX (d + 1)) (by decide +kernel)
noncomputable def Kc156 : Con := ((124, [(2, 0, 0, [1]), (0, 0, 0, []), (0, 60, 60, [])], []), [(40, 0, 7)], [(some (0, iLo, iHi, []), [], [])])
set_option maxRecDepth 20000 in
theorem vc156 {l : Launch} {X : Nat × (Nat → Int32)} {e : Int} (d : Nat) : Vc l X U0 Pt8 e (d + 3) Kc156 :=
  ckf (d := (d + 2)) (Ks := [Kc45, Kc155, Kc98]) (cy := 152) (cd := cdX6_wetDaysOf) (nl := 4) (fuel := 1000) (Hs := []) (by decide +kernel) (by decide +kernel) (fun na b => by rw [← ceX6_wetDaysOf]; exact tkX6_wetDaysOf) (List.forall_mem_cons.mpr ⟨vc45 (d + 2), List.forall_mem_cons.mpr ⟨vc155 d, List.forall_mem_cons.mpr ⟨vc98 (d + 2), fun _ h => absurd h List.not_mem_nil⟩⟩⟩) (cpyX (d + 2)) (by decide +kernel)
noncomputable def Kc157 : Con := ((124, [(2, 0, 0, [1]), (0, 1, 19, []), (0, 60, 60, [])], []), [(40, 0, 7)], [(some (0, iLo, iHi, []), [], [])])
set_option maxRecDepth 20000 in
theorem vc157 {l : Launch} {X : Nat × (Nat → Int32)} {e : Int} (d : Nat) : Vc l X U0 Pt8 e (d + 3) Kc157 :=
  ckf (d := (d + 2)) (Ks := [Kc45, Kc155, Kc98]) (cy := 152) (cd := cdX6_wetDaysOf) (nl := 4) (fuel := 1000) (Hs := []) (by decide +kernel) (by decide +kernel) (fun na b => by rw [← ceX6_wetDaysOf]; exact tkX6_wetDaysOf) (List.forall_mem_cons.mpr ⟨vc45 (d + 2), List.forall_mem_cons.mpr ⟨vc155 d, List.forall_mem_cons.mpr ⟨vc98 (d + 2), fun _ h => absurd h List.not_mem_nil⟩⟩⟩) (cpyX (d + 2)) (by decide +kernel)
noncomputable def Kc158 : Con := ((67, [(2, 0, 0, [1])], []), [(1, 13, 13), (40, 0, 7)], [(some (0, (-1), (-1), []), [], []), (some (0, iLo, iHi, []), [], [])])
set_option maxRecDepth 20000 in
theorem vc158 {l : Launch} {X : Nat × (Nat → Int32)} {e : Int} (d : Nat) : Vc l X U0 Pt8 e (d + 4) Kc158 :=
  ckf (d := (d + 3)) (Ks := [Kc127, Kc2, Kc156, Kc22, Kc63, Kc157, Kc79]) (cy := 152) (cd := cdX6_wettest) (nl := 5) (fuel := 1000) (Hs := [((25, 0), ([(0, (2, 0, 0, [1])), (1, (0, 1, 0, [])), (2, (0, 2, 0, [])), (3, (0, 3, 0, []))], [], [(0, 0), (0, 19), (iLo, iHi), (1, 20)], []), [(0, 1, 0), (0, 2, 0), (0, 3, 0)], (40, [(3, (-2))]), [])]) (by decide +kernel) (by decide +kernel) (fun na b => by rw [← ceX6_wettest]; exact tkX6_wettest) (List.forall_mem_cons.mpr ⟨vc127 (d + 3), List.forall_mem_cons.mpr ⟨vc2 (d + 3), List.forall_mem_cons.mpr ⟨vc156 d, List.forall_mem_cons.mpr ⟨vc22 (d + 3), List.forall_mem_cons.mpr ⟨vc63 (d + 3), List.forall_mem_cons.mpr ⟨vc157 d, List.forall_mem_cons.mpr ⟨vc79 (d + 3), fun _ h => absurd h List.not_mem_nil⟩⟩⟩⟩⟩⟩⟩) (cpyX (d + 3)) (by decide +kernel)
noncomputable def Kc159 : Con := ((123, [(2, 0, 0, [1]), (0, 60, 60, [])], []), [(40, 0, 7), (54, 1, 60)], [(none, [], [])])
set_option maxRecDepth 20000 in
theorem vc159 {l : Launch} {X : Nat × (Nat → Int32)} {e : Int} (d : Nat) : Vc l X U0 Pt8 e (d + 2) Kc159 :=
  ckf (d := (d + 1)) (Ks := [Kc117, Kc134, Kc139, Kc135]) (cy := 152) (cd := cdX6_foretellWet) (nl := 4) (fuel := 1000) (Hs := [((2, 0), ([(0, (2, 0, 0, [1])), (1, (0, 1, 0, [])), (2, (0, 2, 0, []))], [], [(0, 0), (60, 60), (1, 61)], []), [(0, 1, 0), (0, 2, 0)], (1982, [(2, (-4))]), []), ((22, 0), ([(0, (2, 0, 0, [1])), (1, (0, 1, 0, [])), (2, (0, 2, 0, []))], [], [(0, 0), (60, 60), (0, 6)], []), [(0, 1, 0), (0, 2, 0)], (1733, [(2, (-248))]), []), ((45, 0), ([(0, (2, 0, 0, [1])), (1, (0, 1, 0, [])), (2, (0, 2, 0, [])), (3, (0, 3, 0, []))], [], [(0, 0), (60, 60), (0, 5), (1, 61)], []), [(0, 1, 0), (0, 2, 0), (0, 3, 0)], (1732, [(2, (-248)), (3, (-4))]), [])]) (by decide +kernel) (by decide +kernel) (fun na b => by rw [← ceX6_foretellWet]; exact tkX6_foretellWet) (List.forall_mem_cons.mpr ⟨vc117 (d + 1), List.forall_mem_cons.mpr ⟨vc134 d, List.forall_mem_cons.mpr ⟨vc139 d, List.forall_mem_cons.mpr ⟨vc135 (d + 1), fun _ h => absurd h List.not_mem_nil⟩⟩⟩⟩) (cpyX (d + 1)) (by decide +kernel)
noncomputable def Kc160 : Con := ((68, [(2, 0, 0, [1])], []), [(1, 13, 13), (40, 0, 7), (54, 1, 60)], [(some (0, (-1), (-1), []), [], []), (some (0, iLo, iHi, []), [], [])])
set_option maxRecDepth 20000 in
theorem vc160 {l : Launch} {X : Nat × (Nat → Int32)} {e : Int} (d : Nat) : Vc l X U0 Pt8 e (d + 3) Kc160 :=
  ckf (d := (d + 2)) (Ks := [Kc127, Kc2, Kc159, Kc63]) (cy := 152) (cd := cdX6_sunny) (nl := 2) (fuel := 1000) (Hs := [((21, 0), ([(0, (2, 0, 0, [1])), (1, (0, 1, 0, []))], [], [(0, 0), (1, 61)], []), [(0, 1, 0)], (122, [(1, (-2))]), [])]) (by decide +kernel) (by decide +kernel) (fun na b => by rw [← ceX6_sunny]; exact tkX6_sunny) (List.forall_mem_cons.mpr ⟨vc127 (d + 2), List.forall_mem_cons.mpr ⟨vc2 (d + 2), List.forall_mem_cons.mpr ⟨vc159 d, List.forall_mem_cons.mpr ⟨vc63 (d + 2), fun _ h => absurd h List.not_mem_nil⟩⟩⟩⟩) (cpyX (d + 2)) (by decide +kernel)
noncomputable def Kc161 : Con := ((277, [(0, 0, iHi, []), (0, iLo, iHi, [])], []), [], [(some (0, 0, iHi, []), [], [])])
set_option maxRecDepth 20000 in
theorem vc161 {l : Launch} {X : Nat × (Nat → Int32)} {e : Int} (d : Nat) : Vc l X U0 Pt8 e d Kc161 :=
  ckFf (d := d) (Ks := []) (cy := 152) (cd := cdJ9_max_7cf53) (nl := 2) (fuel := 1000) (Hs := []) (by decide +kernel) rfl (fun na b => by rw [← ceJ9_max_7cf53]; exact tkJ9_max_7cf53) (fun _ h => absurd h List.not_mem_nil) (cpyX d) (by decide +kernel)
noncomputable def Kc162 : Con := ((69, [(2, 0, 0, [1])], []), [(1, 13, 13), (40, 0, 7)], [(some (0, (-1), (-1), []), [], []), (some (0, iLo, iHi, []), [], [])])
set_option maxRecDepth 20000 in
theorem vc162 {l : Launch} {X : Nat × (Nat → Int32)} {e : Int} (d : Nat) : Vc l X U0 Pt8 e (d + 2) Kc162 :=
  ckf (d := (d + 1)) (Ks := [Kc127, Kc2, Kc63, Kc117, Kc134, Kc139, Kc135, Kc161]) (cy := 152) (cd := cdX6_heaviest) (nl := 4) (fuel := 1000) (Hs := [((17, 0), ([(0, (2, 0, 0, [1])), (1, (0, 1, 0, [])), (2, (0, 2, 0, []))], [], [(0, 0), (0, iHi), (0, 6)], []), [(0, 1, 0), (0, 2, 0)], (1300, [(2, (-186))]), []), ((40, 0), ([(0, (2, 0, 0, [1])), (1, (0, 1, 0, [])), (2, (0, 2, 0, [])), (3, (0, 3, 0, []))], [], [(0, 0), (0, iHi), (0, 5), (1, 61)], []), [(0, 1, 0), (0, 2, 0), (0, 3, 0)], (1299, [(2, (-186)), (3, (-3))]), [])]) (by decide +kernel) (by decide +kernel) (fun na b => by rw [← ceX6_heaviest]; exact tkX6_heaviest) (List.forall_mem_cons.mpr ⟨vc127 (d + 1), List.forall_mem_cons.mpr ⟨vc2 (d + 1), List.forall_mem_cons.mpr ⟨vc63 (d + 1), List.forall_mem_cons.mpr ⟨vc117 (d + 1), List.forall_mem_cons.mpr ⟨vc134 d, List.forall_mem_cons.mpr ⟨vc139 d, List.forall_mem_cons.mpr ⟨vc135 (d + 1), List.forall_mem_cons.mpr ⟨vc161 (d + 1), fun _ h => absurd h List.not_mem_nil⟩⟩⟩⟩⟩⟩⟩⟩) (cpyX (d + 1)) (by decide +kernel)
noncomputable def Kc163 : Con := ((116, [(2, 0, 0, [1]), (0, iLo, iHi, []), (0, 0, 0, []), (0, 60, 60, [])], []), [(1, 13, 13)], [(some (0, 0, 0, []), [], []), (some (0, 1, 1, []), [(1, 0, 60)], [])])
set_option maxRecDepth 20000 in
theorem vc163 {l : Launch} {X : Nat × (Nat → Int32)} {e : Int} (d : Nat) : Vc l X U0 Pt8 e (d + 2) Kc163 :=
  ckf (d := (d + 1)) (Ks := [Kc127, Kc2, Kc130]) (cy := 152) (cd := cdX6_canLookAhead) (nl := 4) (fuel := 1000) (Hs := []) (by decide +kernel) (by decide +kernel) (fun na b => by rw [← ceX6_canLookAhead]; exact tkX6_canLookAhead) (List.forall_mem_cons.mpr ⟨vc127 (d + 1), List.forall_mem_cons.mpr ⟨vc2 (d + 1), List.forall_mem_cons.mpr ⟨vc130 d, fun _ h => absurd h List.not_mem_nil⟩⟩⟩) (cpyX (d + 1)) (by decide +kernel)
noncomputable def Kc164 : Con := ((70, [(2, 0, 0, [1]), (0, iLo, iHi, [])], []), [(1, 13, 13), (40, 0, 7)], [(some (0, (-1), (-1), []), [], []), (some (0, iLo, iHi, []), [], [])])
set_option maxRecDepth 20000 in
theorem vc164 {l : Launch} {X : Nat × (Nat → Int32)} {e : Int} (d : Nat) : Vc l X U0 Pt8 e (d + 3) Kc164 :=
  ckf (d := (d + 2)) (Ks := [Kc163, Kc63, Kc140]) (cy := 152) (cd := cdX6_fallen) (nl := 4) (fuel := 1000) (Hs := [((17, 0), ([(0, (2, 0, 0, [1])), (1, (0, 1, 0, [])), (2, (0, 2, 0, [])), (3, (0, 3, 0, []))], [], [(0, 0), (0, 60), (iLo, iHi), (0, 6)], []), [(0, 1, 0), (0, 2, 0), (0, 3, 0)], (12, [(3, (-2))]), [])]) (by decide +kernel) (by decide +kernel) (fun na b => by rw [← ceX6_fallen]; exact tkX6_fallen) (List.forall_mem_cons.mpr ⟨vc163 d, List.forall_mem_cons.mpr ⟨vc63 (d + 2), List.forall_mem_cons.mpr ⟨vc140 d, fun _ h => absurd h List.not_mem_nil⟩⟩⟩) (cpyX (d + 2)) (by decide +kernel)
noncomputable def Kc165 : Con := ((128, [(2, 0, 0, [1]), (0, 0, 4, []), (0, 0, 5, [])], []), [], [(some (0, 1, 1, []), [], []), (some (0, 0, 0, []), [], [])])
set_option maxRecDepth 20000 in
theorem vc165 {l : Launch} {X : Nat × (Nat → Int32)} {e : Int} (d : Nat) : Vc l X U0 Pt8 e (d + 1) Kc165 :=
  ckf (d := d) (Ks := [Kc117, Kc116]) (cy := 152) (cd := cdX6_couldHave) (nl := 4) (fuel := 1000) (Hs := []) (by decide +kernel) (by decide +kernel) (fun na b => by rw [← ceX6_couldHave]; exact tkX6_couldHave) (List.forall_mem_cons.mpr ⟨vc117 d, List.forall_mem_cons.mpr ⟨vc116 d, fun _ h => absurd h List.not_mem_nil⟩⟩) (cpyX d) (by decide +kernel)
noncomputable def Kc166 : Con := ((2, [(2, 0, 0, [40]), (0, 1, 30, [])], []), [(40, 4, 7)], [(none, [], [])])
set_option maxRecDepth 20000 in
theorem vc166 {l : Launch} {X : Nat × (Nat → Int32)} {e : Int} (d : Nat) : Vc l X U0 Pt8 e (d + 1) Kc166 :=
  ckf (d := d) (Ks := [Kc135]) (cy := 152) (cd := cdX0_passAll) (nl := 3) (fuel := 1000) (Hs := [((2, 0), ([(0, (2, 0, 0, [40])), (1, (0, 1, 0, [])), (2, (0, 2, 0, []))], [], [(0, 0), (1, 30), (1, 31)], []), [(0, 1, 0), (0, 2, 0)], (62, [(2, (-2))]), [])]) (by decide +kernel) (by decide +kernel) (fun na b => by rw [← ceX0_passAll]; exact tkX0_passAll) (List.forall_mem_cons.mpr ⟨vc135 d, fun _ h => absurd h List.not_mem_nil⟩) (cpyX d) (by decide +kernel)
noncomputable def Kc167 : Con := ((129, [(2, 0, 0, [1]), (0, 0, 5, []), (0, (-2), (-2), []), (0, 1, 30, [])], []), [(40, 0, 7)], [(some (0, iLo, iHi, []), [], [])])
set_option maxRecDepth 20000 in
theorem vc167 {l : Launch} {X : Nat × (Nat → Int32)} {e : Int} (d : Nat) : Vc l X U0 Pt8 e (d + 2) Kc167 :=
  ckf (d := (d + 1)) (Ks := [Kc116, Kc134, Kc166]) (cy := 152) (cd := cdX6_costOf) (nl := 4) (fuel := 1000) (Hs := []) (by decide +kernel) (by decide +kernel) (fun na b => by rw [← ceX6_costOf]; exact tkX6_costOf) (List.forall_mem_cons.mpr ⟨vc116 (d + 1), List.forall_mem_cons.mpr ⟨vc134 d, List.forall_mem_cons.mpr ⟨vc166 d, fun _ h => absurd h List.not_mem_nil⟩⟩⟩) (cpyX (d + 1)) (by decide +kernel)
noncomputable def Kc168 : Con := ((129, [(2, 0, 0, [1]), (0, 0, 5, []), (0, 0, 4, []), (0, 1, 30, [])], []), [(40, 0, 7)], [(some (0, iLo, iHi, []), [], [])])
set_option maxRecDepth 20000 in
theorem vc168 {l : Launch} {X : Nat × (Nat → Int32)} {e : Int} (d : Nat) : Vc l X U0 Pt8 e (d + 2) Kc168 :=
  ckf (d := (d + 1)) (Ks := [Kc116, Kc139, Kc166]) (cy := 152) (cd := cdX6_costOf) (nl := 4) (fuel := 1000) (Hs := []) (by decide +kernel) (by decide +kernel) (fun na b => by rw [← ceX6_costOf]; exact tkX6_costOf) (List.forall_mem_cons.mpr ⟨vc116 (d + 1), List.forall_mem_cons.mpr ⟨vc139 d, List.forall_mem_cons.mpr ⟨vc166 d, fun _ h => absurd h List.not_mem_nil⟩⟩⟩) (cpyX (d + 1)) (by decide +kernel)
noncomputable def Kc169 : Con := ((130, [(2, 0, 0, [1]), (0, 0, 4, []), (0, 0, 5, []), (0, 1, 30, [])], []), [(40, 0, 7)], [(some (0, iLo, iHi, []), [], [])])
set_option maxRecDepth 20000 in
theorem vc169 {l : Launch} {X : Nat × (Nat → Int32)} {e : Int} (d : Nat) : Vc l X U0 Pt8 e (d + 3) Kc169 :=
  ckf (d := (d + 2)) (Ks := [Kc117, Kc167, Kc168]) (cy := 152) (cd := cdX6_costIf) (nl := 7) (fuel := 1000) (Hs := [((6, 0), ([(0, (2, 0, 0, [1])), (1, (0, 1, 0, [])), (2, (0, 2, 0, [])), (3, (0, 3, 0, [])), (4, (0, 4, 0, [])), (5, (0, 5, 0, []))], [], [(0, 0), (0, 4), (0, 5), (1, 30), (iLo, iHi), (0, 6)], []), [(0, 1, 0), (0, 2, 0), (0, 3, 0), (0, 4, 0), (0, 5, 0)], (12, [(5, (-2))]), [])]) (by decide +kernel) (by decide +kernel) (fun na b => by rw [← ceX6_costIf]; exact tkX6_costIf) (List.forall_mem_cons.mpr ⟨vc117 (d + 2), List.forall_mem_cons.mpr ⟨vc167 d, List.forall_mem_cons.mpr ⟨vc168 d, fun _ h => absurd h List.not_mem_nil⟩⟩⟩) (cpyX (d + 2)) (by decide +kernel)
noncomputable def Kc170 : Con := ((71, [(2, 0, 0, [1]), (0, iLo, iHi, []), (0, iLo, iHi, []), (0, iLo, iHi, [])], []), [(1, 13, 13), (40, 0, 7)], [(some (0, (-1), (-1), []), [], []), (some (0, iLo, iHi, []), [(1, 0, 4), (2, 0, 5), (3, 1, 30)], [])])
set_option maxRecDepth 20000 in
theorem vc170 {l : Launch} {X : Nat × (Nat → Int32)} {e : Int} (d : Nat) : Vc l X U0 Pt8 e (d + 4) Kc170 :=
  ckf (d := (d + 3)) (Ks := [Kc119, Kc2, Kc115, Kc18, Kc165, Kc169, Kc63]) (cy := 152) (cd := cdX6_dropsIf) (nl := 4) (fuel := 1000) (Hs := []) (by decide +kernel) (by decide +kernel) (fun na b => by rw [← ceX6_dropsIf]; exact tkX6_dropsIf) (List.forall_mem_cons.mpr ⟨vc119 (d + 3), List.forall_mem_cons.mpr ⟨vc2 (d + 3), List.forall_mem_cons.mpr ⟨vc115 (d + 3), List.forall_mem_cons.mpr ⟨vc18 (d + 3), List.forall_mem_cons.mpr ⟨vc165 (d + 2), List.forall_mem_cons.mpr ⟨vc169 d, List.forall_mem_cons.mpr ⟨vc63 (d + 3), fun _ h => absurd h List.not_mem_nil⟩⟩⟩⟩⟩⟩⟩) (cpyX (d + 3)) (by decide +kernel)
noncomputable def Kc171 : Con := ((72, [(2, 0, 0, [1]), (0, iLo, iHi, []), (0, iLo, iHi, [])], []), [(1, 13, 13), (40, 0, 7)], [(some (0, (-1), (-1), []), [], []), (some (0, iLo, iHi, []), [], [])])
set_option maxRecDepth 20000 in
theorem vc171 {l : Launch} {X : Nat × (Nat → Int32)} {e : Int} (d : Nat) : Vc l X U0 Pt8 e (d + 4) Kc171 :=
  ckf (d := (d + 3)) (Ks := [Kc119, Kc2, Kc18, Kc63, Kc165, Kc169]) (cy := 152) (cd := cdX6_faceFor) (nl := 7) (fuel := 1000) (Hs := [((39, 0), ([(0, (2, 0, 0, [1])), (1, (0, 1, 0, [])), (2, (0, 2, 0, [])), (3, (0, 3, 0, [])), (4, (0, 4, 0, [])), (5, (0, 5, 0, []))], [], [(0, 0), (0, 4), (1, 30), ((-2), 5), (iLo, iHi), (0, 6)], []), [(0, 1, 0), (0, 2, 0), (0, 3, 0), (0, 4, 0), (0, 5, 0)], (12, [(5, (-2))]), [])]) (by decide +kernel) (by decide +kernel) (fun na b => by rw [← ceX6_faceFor]; exact tkX6_faceFor) (List.forall_mem_cons.mpr ⟨vc119 (d + 3), List.forall_mem_cons.mpr ⟨vc2 (d + 3), List.forall_mem_cons.mpr ⟨vc18 (d + 3), List.forall_mem_cons.mpr ⟨vc63 (d + 3), List.forall_mem_cons.mpr ⟨vc165 (d + 2), List.forall_mem_cons.mpr ⟨vc169 d, fun _ h => absurd h List.not_mem_nil⟩⟩⟩⟩⟩⟩) (cpyX (d + 3)) (by decide +kernel)
noncomputable def Kc172 : Con := ((120, [(2, 0, 0, [1]), (0, iLo, iHi, []), (0, 1, 1, []), (0, 30, 30, [])], []), [(1, 13, 13)], [(some (0, 0, 0, []), [], []), (some (0, 1, 1, []), [(1, 1, 30)], [])])
set_option maxRecDepth 20000 in
theorem vc172 {l : Launch} {X : Nat × (Nat → Int32)} {e : Int} (d : Nat) : Vc l X U0 Pt8 e (d + 1) Kc172 :=
  ckf (d := d) (Ks := [Kc18, Kc2]) (cy := 152) (cd := cdX6_numberFits) (nl := 4) (fuel := 1000) (Hs := []) (by decide +kernel) (by decide +kernel) (fun na b => by rw [← ceX6_numberFits]; exact tkX6_numberFits) (List.forall_mem_cons.mpr ⟨vc18 d, List.forall_mem_cons.mpr ⟨vc2 d, fun _ h => absurd h List.not_mem_nil⟩⟩) (cpyX d) (by decide +kernel)
noncomputable def Kc173 : Con := ((116, [(2, 0, 0, [1]), (0, iLo, iHi, []), (0, 1, 1, []), (0, 30, 30, [])], []), [(1, 13, 13)], [(some (0, 0, 0, []), [], []), (some (0, 1, 1, []), [(1, 1, 30)], [])])
set_option maxRecDepth 20000 in
theorem vc173 {l : Launch} {X : Nat × (Nat → Int32)} {e : Int} (d : Nat) : Vc l X U0 Pt8 e (d + 2) Kc173 :=
  ckf (d := (d + 1)) (Ks := [Kc127, Kc2, Kc172]) (cy := 152) (cd := cdX6_canLookAhead) (nl := 4) (fuel := 1000) (Hs := []) (by decide +kernel) (by decide +kernel) (fun na b => by rw [← ceX6_canLookAhead]; exact tkX6_canLookAhead) (List.forall_mem_cons.mpr ⟨vc127 (d + 1), List.forall_mem_cons.mpr ⟨vc2 (d + 1), List.forall_mem_cons.mpr ⟨vc172 d, fun _ h => absurd h List.not_mem_nil⟩⟩⟩) (cpyX (d + 1)) (by decide +kernel)
noncomputable def Kc174 : Con := ((131, [(2, 0, 0, [1])], []), [], [(some (0, 0, 0, []), [], []), (some (0, 1, 1, []), [], [])])
set_option maxRecDepth 20000 in
theorem vc174 {l : Launch} {X : Nat × (Nat → Int32)} {e : Int} (d : Nat) : Vc l X U0 Pt8 e (d + 1) Kc174 :=
  ckf (d := d) (Ks := [Kc116]) (cy := 152) (cd := cdX6_tooFewFaces) (nl := 3) (fuel := 1000) (Hs := [((4, 0), ([(0, (2, 0, 0, [1])), (1, (0, 1, 0, [])), (2, (0, 2, 0, []))], [], [(0, 0), (iLo, iHi), (0, 6)], []), [(0, 1, 0), (0, 2, 0)], (12, [(2, (-2))]), [])]) (by decide +kernel) (by decide +kernel) (fun na b => by rw [← ceX6_tooFewFaces]; exact tkX6_tooFewFaces) (List.forall_mem_cons.mpr ⟨vc116 d, fun _ h => absurd h List.not_mem_nil⟩) (cpyX d) (by decide +kernel)
noncomputable def Kc175 : Con := ((4, [(2, 0, 0, [43]), (0, 0, 6, []), (0, 0, 5, [])], []), [(43, 4, 8)], [(none, [], [])])
set_option maxRecDepth 20000 in
theorem vc175 {l : Launch} {X : Nat × (Nat → Int32)} {e : Int} (d : Nat) : Vc l X U0 Pt8 e d Kc175 :=
  ckf (d := d) (Ks := []) (cy := 152) (cd := cdX1_clear) (nl := 3) (fuel := 1000) (Hs := []) (by decide +kernel) (by decide +kernel) (fun na b => by rw [← ceX1_clear]; exact tkX1_clear) (fun _ h => absurd h List.not_mem_nil) (cpyX d) (by decide +kernel)
noncomputable def Kc176 : Con := ((8, [(2, 0, 0, [43]), (0, 5, 5, []), (0, iLo, iHi, []), (0, iLo, iHi, [])], []), [(43, 8, 8), (53, 0, 4)], [(none, [], [])])
set_option maxRecDepth 20000 in
theorem vc176 {l : Launch} {X : Nat × (Nat → Int32)} {e : Int} (d : Nat) : Vc l X U0 Pt8 e (d + 1) Kc176 :=
  ckf (d := d) (Ks := []) (cy := 152) (cd := cdX1_place) (nl := 5) (fuel := 1000) (Hs := []) (by decide +kernel) (by decide +kernel) (fun na b => by rw [← ceX1_place]; exact tkX1_place) (fun _ h => absurd h List.not_mem_nil) (cpyX d) (by decide +kernel)
noncomputable def Kc177 : Con := ((8, [(2, 0, 0, [43]), (0, 4, 4, []), (0, iLo, iHi, []), (0, iLo, iHi, [])], []), [(43, 8, 8), (52, 4, 4), (53, 0, 4)], [(none, [], [])])
set_option maxRecDepth 20000 in
theorem vc177 {l : Launch} {X : Nat × (Nat → Int32)} {e : Int} (d : Nat) : Vc l X U0 Pt8 e (d + 2) Kc177 :=
  ckf (d := (d + 1)) (Ks := [Kc176]) (cy := 152) (cd := cdX1_place) (nl := 5) (fuel := 1000) (Hs := [((44, 0), ([(0, (2, 0, 0, [43])), (1, (0, 1, 0, [])), (2, (0, 2, 0, [])), (3, (0, 3, 0, [])), (4, (0, 4, 0, []))], [], [(0, 0), (4, 4), (iLo, iHi), (iLo, iHi), (0, 6)], []), [(0, 1, 0), (0, 2, 0), (0, 3, 0), (0, 4, 0)], (12, [(4, (-2))]), [])]) (by decide +kernel) (by decide +kernel) (fun na b => by rw [← ceX1_place]; exact tkX1_place) (List.forall_mem_cons.mpr ⟨vc176 d, fun _ h => absurd h List.not_mem_nil⟩) (cpyX (d + 1)) (by decide +kernel)
noncomputable def Kc178 : Con := ((8, [(2, 0, 0, [43]), (0, 3, 3, []), (0, iLo, iHi, []), (0, iLo, iHi, [])], []), [(43, 8, 8), (52, 3, 4), (53, 0, 4)], [(none, [], [])])
set_option maxRecDepth 20000 in
theorem vc178 {l : Launch} {X : Nat × (Nat → Int32)} {e : Int} (d : Nat) : Vc l X U0 Pt8 e (d + 3) Kc178 :=
  ckf (d := (d + 2)) (Ks := [Kc177]) (cy := 152) (cd := cdX1_place) (nl := 5) (fuel := 1000) (Hs := [((44, 0), ([(0, (2, 0, 0, [43])), (1, (0, 1, 0, [])), (2, (0, 2, 0, [])), (3, (0, 3, 0, [])), (4, (0, 4, 0, []))], [], [(0, 0), (3, 3), (iLo, iHi), (iLo, iHi), (0, 6)], []), [(0, 1, 0), (0, 2, 0), (0, 3, 0), (0, 4, 0)], (12, [(4, (-2))]), [])]) (by decide +kernel) (by decide +kernel) (fun na b => by rw [← ceX1_place]; exact tkX1_place) (List.forall_mem_cons.mpr ⟨vc177 d, fun _ h => absurd h List.not_mem_nil⟩) (cpyX (d + 2)) (by decide +kernel)
noncomputable def Kc179 : Con := ((8, [(2, 0, 0, [43]), (0, 2, 2, []), (0, iLo, iHi, []), (0, iLo, iHi, [])], []), [(43, 8, 8), (52, 2, 4), (53, 0, 4)], [(none, [], [])])
set_option maxRecDepth 20000 in
theorem vc179 {l : Launch} {X : Nat × (Nat → Int32)} {e : Int} (d : Nat) : Vc l X U0 Pt8 e (d + 4) Kc179 :=
  ckf (d := (d + 3)) (Ks := [Kc178]) (cy := 152) (cd := cdX1_place) (nl := 5) (fuel := 1000) (Hs := [((44, 0), ([(0, (2, 0, 0, [43])), (1, (0, 1, 0, [])), (2, (0, 2, 0, [])), (3, (0, 3, 0, [])), (4, (0, 4, 0, []))], [], [(0, 0), (2, 2), (iLo, iHi), (iLo, iHi), (0, 6)], []), [(0, 1, 0), (0, 2, 0), (0, 3, 0), (0, 4, 0)], (12, [(4, (-2))]), [])]) (by decide +kernel) (by decide +kernel) (fun na b => by rw [← ceX1_place]; exact tkX1_place) (List.forall_mem_cons.mpr ⟨vc178 d, fun _ h => absurd h List.not_mem_nil⟩) (cpyX (d + 3)) (by decide +kernel)
noncomputable def Kc180 : Con := ((8, [(2, 0, 0, [43]), (0, 1, 1, []), (0, iLo, iHi, []), (0, iLo, iHi, [])], []), [(43, 8, 8), (52, 1, 4), (53, 0, 4)], [(none, [], [])])
set_option maxRecDepth 20000 in
theorem vc180 {l : Launch} {X : Nat × (Nat → Int32)} {e : Int} (d : Nat) : Vc l X U0 Pt8 e (d + 5) Kc180 :=
  ckf (d := (d + 4)) (Ks := [Kc179]) (cy := 152) (cd := cdX1_place) (nl := 5) (fuel := 1000) (Hs := [((44, 0), ([(0, (2, 0, 0, [43])), (1, (0, 1, 0, [])), (2, (0, 2, 0, [])), (3, (0, 3, 0, [])), (4, (0, 4, 0, []))], [], [(0, 0), (1, 1), (iLo, iHi), (iLo, iHi), (0, 6)], []), [(0, 1, 0), (0, 2, 0), (0, 3, 0), (0, 4, 0)], (12, [(4, (-2))]), [])]) (by decide +kernel) (by decide +kernel) (fun na b => by rw [← ceX1_place]; exact tkX1_place) (List.forall_mem_cons.mpr ⟨vc179 d, fun _ h => absurd h List.not_mem_nil⟩) (cpyX (d + 4)) (by decide +kernel)
noncomputable def Kc181 : Con := ((8, [(2, 0, 0, [43]), (0, 0, 0, []), (0, iLo, iHi, []), (0, iLo, iHi, [])], []), [(43, 8, 8), (52, 0, 4), (53, 0, 4)], [(none, [], [])])
set_option maxRecDepth 20000 in
theorem vc181 {l : Launch} {X : Nat × (Nat → Int32)} {e : Int} (d : Nat) : Vc l X U0 Pt8 e (d + 6) Kc181 :=
  ckf (d := (d + 5)) (Ks := [Kc180]) (cy := 152) (cd := cdX1_place) (nl := 5) (fuel := 1000) (Hs := [((44, 0), ([(0, (2, 0, 0, [43])), (1, (0, 1, 0, [])), (2, (0, 2, 0, [])), (3, (0, 3, 0, [])), (4, (0, 4, 0, []))], [], [(0, 0), (0, 0), (iLo, iHi), (iLo, iHi), (0, 6)], []), [(0, 1, 0), (0, 2, 0), (0, 3, 0), (0, 4, 0)], (12, [(4, (-2))]), [])]) (by decide +kernel) (by decide +kernel) (fun na b => by rw [← ceX1_place]; exact tkX1_place) (List.forall_mem_cons.mpr ⟨vc180 d, fun _ h => absurd h List.not_mem_nil⟩) (cpyX (d + 5)) (by decide +kernel)
noncomputable def Kc182 : Con := ((7, [(2, 0, 0, [43])], []), [(43, 8, 8), (52, 0, 4), (53, 0, 4)], [(none, [], [])])
set_option maxRecDepth 20000 in
theorem vc182 {l : Launch} {X : Nat × (Nat → Int32)} {e : Int} (d : Nat) : Vc l X U0 Pt8 e (d + 7) Kc182 :=
  ckf (d := (d + 6)) (Ks := [Kc181]) (cy := 152) (cd := cdX1_solve) (nl := 1) (fuel := 1000) (Hs := []) (by decide +kernel) (by decide +kernel) (fun na b => by rw [← ceX1_solve]; exact tkX1_solve) (List.forall_mem_cons.mpr ⟨vc181 d, fun _ h => absurd h List.not_mem_nil⟩) (cpyX (d + 6)) (by decide +kernel)
noncomputable def Kc183 : Con := ((5, [(2, 0, 0, [43]), (0, 0, 5, []), (0, iLo, iHi, [])], []), [(43, 6, 7), (51, 0, 5)], [(none, [], [])])
set_option maxRecDepth 20000 in
theorem vc183 {l : Launch} {X : Nat × (Nat → Int32)} {e : Int} (d : Nat) : Vc l X U0 Pt8 e d Kc183 :=
  ckf (d := d) (Ks := []) (cy := 152) (cd := cdX1_addFace) (nl := 3) (fuel := 1000) (Hs := []) (by decide +kernel) (by decide +kernel) (fun na b => by rw [← ceX1_addFace]; exact tkX1_addFace) (fun _ h => absurd h List.not_mem_nil) (cpyX d) (by decide +kernel)
noncomputable def Kc184 : Con := ((6, [(2, 0, 0, [43]), (0, 0, 5, []), (0, 0, 4, []), (0, iLo, iHi, [])], []), [(45, 0, 4), (46, 0, 4), (47, 0, 4), (48, 0, 4), (49, 0, 4), (50, 0, 4)], [(none, [], [])])
set_option maxRecDepth 20000 in
theorem vc184 {l : Launch} {X : Nat × (Nat → Int32)} {e : Int} (d : Nat) : Vc l X U0 Pt8 e d Kc184 :=
  ckf (d := d) (Ks := []) (cy := 152) (cd := cdX1_setCost) (nl := 4) (fuel := 1000) (Hs := []) (by decide +kernel) (by decide +kernel) (fun na b => by rw [← ceX1_setCost]; exact tkX1_setCost) (fun _ h => absurd h List.not_mem_nil) (cpyX d) (by decide +kernel)
noncomputable def Kc185 : Con := ((132, [(2, 0, 0, [1]), (0, 1, 30, [])], []), [(40, 0, 7), (43, 4, 8), (45, 0, 4), (46, 0, 4), (47, 0, 4), (48, 0, 4), (49, 0, 4), (50, 0, 4), (51, 0, 5), (52, 0, 4), (53, 0, 4)], [(none, [], [])])
set_option maxRecDepth 20000 in
theorem vc185 {l : Launch} {X : Nat × (Nat → Int32)} {e : Int} (d : Nat) : Vc l X U0 Pt8 e (d + 8) Kc185 :=
  ckf (d := (d + 7)) (Ks := [Kc175, Kc182, Kc116, Kc167, Kc183, Kc168, Kc184]) (cy := 152) (cd := cdX6_makeMatch) (nl := 4) (fuel := 1000) (Hs := [((23, 0), ([(0, (2, 0, 0, [1])), (1, (0, 1, 0, [])), (2, (0, 2, 0, []))], [], [(0, 0), (1, 30), (0, 6)], []), [(0, 1, 0), (0, 2, 0)], (145, [(2, (-21))]), []), ((66, 0), ([(0, (2, 0, 0, [1])), (1, (0, 1, 0, [])), (2, (0, 2, 0, [])), (3, (0, 3, 0, []))], [], [(0, 0), (1, 30), (0, 5), (0, 5)], []), [(0, 1, 0), (0, 2, 0), (0, 3, 0)], (141, [(2, (-21)), (3, (-3))]), [])]) (by decide +kernel) (by decide +kernel) (fun na b => by rw [← ceX6_makeMatch]; exact tkX6_makeMatch) (List.forall_mem_cons.mpr ⟨vc175 (d + 7), List.forall_mem_cons.mpr ⟨vc182 d, List.forall_mem_cons.mpr ⟨vc116 (d + 7), List.forall_mem_cons.mpr ⟨vc167 (d + 5), List.forall_mem_cons.mpr ⟨vc183 (d + 7), List.forall_mem_cons.mpr ⟨vc168 (d + 5), List.forall_mem_cons.mpr ⟨vc184 (d + 7), fun _ h => absurd h List.not_mem_nil⟩⟩⟩⟩⟩⟩⟩) (cpyX (d + 7)) (by decide +kernel)
noncomputable def Kc186 : Con := ((73, [(2, 0, 0, [1]), (0, iLo, iHi, [])], []), [(1, 13, 13), (40, 0, 7), (43, 4, 8), (45, 0, 4), (46, 0, 4), (47, 0, 4), (48, 0, 4), (49, 0, 4), (50, 0, 4), (51, 0, 5), (52, 0, 4), (53, 0, 4)], [(some (0, (-1), (-1), []), [], []), (some (0, iLo, iHi, []), [(1, 1, 30)], [])])
set_option maxRecDepth 20000 in
theorem vc186 {l : Launch} {X : Nat × (Nat → Int32)} {e : Int} (d : Nat) : Vc l X U0 Pt8 e (d + 9) Kc186 :=
  ckf (d := (d + 8)) (Ks := [Kc173, Kc174, Kc185, Kc63]) (cy := 152) (cd := cdX6_match) (nl := 2) (fuel := 1000) (Hs := []) (by decide +kernel) (by decide +kernel) (fun na b => by rw [← ceX6_match]; exact tkX6_match) (List.forall_mem_cons.mpr ⟨vc173 (d + 6), List.forall_mem_cons.mpr ⟨vc174 (d + 7), List.forall_mem_cons.mpr ⟨vc185 d, List.forall_mem_cons.mpr ⟨vc63 (d + 8), fun _ h => absurd h List.not_mem_nil⟩⟩⟩⟩) (cpyX (d + 8)) (by decide +kernel)
noncomputable def Kc187 : Con := ((74, [(2, 0, 0, [1]), (0, iLo, iHi, [])], []), [(1, 13, 13), (40, 0, 7), (43, 4, 8), (45, 0, 4), (46, 0, 4), (47, 0, 4), (48, 0, 4), (49, 0, 4), (50, 0, 4), (51, 0, 5), (52, 0, 4), (53, 0, 4)], [(some (0, (-1), (-1), []), [], []), (some (0, iLo, iHi, []), [(1, 1, 30)], [])])
set_option maxRecDepth 20000 in
theorem vc187 {l : Launch} {X : Nat × (Nat → Int32)} {e : Int} (d : Nat) : Vc l X U0 Pt8 e (d + 9) Kc187 :=
  ckf (d := (d + 8)) (Ks := [Kc173, Kc174, Kc185, Kc63]) (cy := 152) (cd := cdX6_matchDrops) (nl := 2) (fuel := 1000) (Hs := []) (by decide +kernel) (by decide +kernel) (fun na b => by rw [← ceX6_matchDrops]; exact tkX6_matchDrops) (List.forall_mem_cons.mpr ⟨vc173 (d + 6), List.forall_mem_cons.mpr ⟨vc174 (d + 7), List.forall_mem_cons.mpr ⟨vc185 d, List.forall_mem_cons.mpr ⟨vc63 (d + 8), fun _ h => absurd h List.not_mem_nil⟩⟩⟩⟩) (cpyX (d + 8)) (by decide +kernel)
noncomputable def Kc188 : Con := ((75, [(2, 0, 0, [1]), (0, iLo, iHi, []), (0, iLo, iHi, [])], []), [(1, 13, 13), (40, 0, 7), (43, 4, 8), (45, 0, 4), (46, 0, 4), (47, 0, 4), (48, 0, 4), (49, 0, 4), (50, 0, 4), (51, 0, 5), (52, 0, 4), (53, 0, 4)], [(some (0, (-1), (-1), []), [], []), (some (0, iLo, iHi, []), [(1, 0, 4), (2, 1, 30)], [])])
set_option maxRecDepth 20000 in
theorem vc188 {l : Launch} {X : Nat × (Nat → Int32)} {e : Int} (d : Nat) : Vc l X U0 Pt8 e (d + 9) Kc188 :=
  ckf (d := (d + 8)) (Ks := [Kc119, Kc2, Kc174, Kc18, Kc185, Kc63]) (cy := 152) (cd := cdX6_matchAt) (nl := 3) (fuel := 1000) (Hs := []) (by decide +kernel) (by decide +kernel) (fun na b => by rw [← ceX6_matchAt]; exact tkX6_matchAt) (List.forall_mem_cons.mpr ⟨vc119 (d + 8), List.forall_mem_cons.mpr ⟨vc2 (d + 8), List.forall_mem_cons.mpr ⟨vc174 (d + 7), List.forall_mem_cons.mpr ⟨vc18 (d + 8), List.forall_mem_cons.mpr ⟨vc185 d, List.forall_mem_cons.mpr ⟨vc63 (d + 8), fun _ h => absurd h List.not_mem_nil⟩⟩⟩⟩⟩⟩) (cpyX (d + 8)) (by decide +kernel)
noncomputable def Kc189 : Con := ((45, [(2, 0, 0, [41]), (2, 0, 0, [7]), (0, iLo, iHi, []), (0, iLo, iHi, []), (0, iLo, iHi, [])], []), [], [(some (0, (-2), (-2), []), [], []), (some (0, 0, 19, []), [], [])])
set_option maxRecDepth 20000 in
theorem vc189 {l : Launch} {X : Nat × (Nat → Int32)} {e : Int} (d : Nat) : Vc l X U0 Pt8 e (d + 1) Kc189 :=
  ckf (d := d) (Ks := [Kc122]) (cy := 152) (cd := cdX5_fewest) (nl := 9) (fuel := 1000) (Hs := [((18, 0), ([(0, (2, 0, 0, [41])), (1, (2, 0, 0, [7])), (2, (0, 1, 0, [])), (5, (0, 2, 0, [])), (6, (0, 3, 0, [])), (7, (0, 4, 0, []))], [], [(0, 0), (iLo, iHi), (iLo, iHi), (iLo, iHi), (0, 20)], []), [(0, 2, 0), (0, 5, 0), (0, 6, 0), (0, 7, 0)], (40, [(4, (-2))]), [])]) (by decide +kernel) (by decide +kernel) (fun na b => by rw [← ceX5_fewest]; exact tkX5_fewest) (List.forall_mem_cons.mpr ⟨vc122 d, fun _ h => absurd h List.not_mem_nil⟩) (cpyX d) (by decide +kernel)
noncomputable def Kc190 : Con := ((45, [(2, 0, 0, [41]), (2, 0, 0, [20]), (0, iLo, iHi, []), (0, iLo, iHi, []), (0, iLo, iHi, [])], []), [], [(some (0, (-2), (-2), []), [], []), (some (0, 0, 19, []), [], [])])
set_option maxRecDepth 20000 in
theorem vc190 {l : Launch} {X : Nat × (Nat → Int32)} {e : Int} (d : Nat) : Vc l X U0 Pt8 e (d + 1) Kc190 :=
  ckf (d := d) (Ks := [Kc124]) (cy := 152) (cd := cdX5_fewest) (nl := 9) (fuel := 1000) (Hs := [((18, 0), ([(0, (2, 0, 0, [41])), (1, (2, 0, 0, [20])), (2, (0, 1, 0, [])), (5, (0, 2, 0, [])), (6, (0, 3, 0, [])), (7, (0, 4, 0, []))], [], [(0, 0), (iLo, iHi), (iLo, iHi), (iLo, iHi), (0, 20)], []), [(0, 2, 0), (0, 5, 0), (0, 6, 0), (0, 7, 0)], (40, [(4, (-2))]), [])]) (by decide +kernel) (by decide +kernel) (fun na b => by rw [← ceX5_fewest]; exact tkX5_fewest) (List.forall_mem_cons.mpr ⟨vc124 d, fun _ h => absurd h List.not_mem_nil⟩) (cpyX d) (by decide +kernel)
noncomputable def Kc191 : Con := ((76, [(2, 0, 0, [1]), (0, iLo, iHi, []), (0, iLo, iHi, [])], []), [(1, 13, 13)], [(some (0, (-1), (-1), []), [], []), (some (0, iLo, iHi, []), [(1, 0, 19), (2, 0, 19)], [])])
set_option maxRecDepth 20000 in
theorem vc191 {l : Launch} {X : Nat × (Nat → Int32)} {e : Int} (d : Nat) : Vc l X U0 Pt8 e (d + 2) Kc191 :=
  ckf (d := (d + 1)) (Ks := [Kc121, Kc2, Kc123, Kc189, Kc63, Kc125, Kc190]) (cy := 152) (cd := cdX6_steps) (nl := 3) (fuel := 1000) (Hs := []) (by decide +kernel) (by decide +kernel) (fun na b => by rw [← ceX6_steps]; exact tkX6_steps) (List.forall_mem_cons.mpr ⟨vc121 d, List.forall_mem_cons.mpr ⟨vc2 (d + 1), List.forall_mem_cons.mpr ⟨vc123 d, List.forall_mem_cons.mpr ⟨vc189 d, List.forall_mem_cons.mpr ⟨vc63 (d + 1), List.forall_mem_cons.mpr ⟨vc125 d, List.forall_mem_cons.mpr ⟨vc190 d, fun _ h => absurd h List.not_mem_nil⟩⟩⟩⟩⟩⟩⟩) (cpyX (d + 1)) (by decide +kernel)
noncomputable def Kc192 : Con := ((112, [(2, 0, 0, [1]), (0, iLo, iHi, [])], []), [], [(some (0, 0, 0, []), [], []), (some (0, 1, 1, []), [(1, 0, 3)], [])])
set_option maxRecDepth 20000 in
theorem vc192 {l : Launch} {X : Nat × (Nat → Int32)} {e : Int} (d : Nat) : Vc l X U0 Pt8 e d Kc192 :=
  ckf (d := d) (Ks := []) (cy := 152) (cd := cdX6_isWalker) (nl := 2) (fuel := 1000) (Hs := []) (by decide +kernel) (by decide +kernel) (fun na b => by rw [← ceX6_isWalker]; exact tkX6_isWalker) (fun _ h => absurd h List.not_mem_nil) (cpyX d) (by decide +kernel)
noncomputable def Kc193 : Con := ((117, [(2, 0, 0, [1]), (0, iLo, iHi, []), (0, iLo, iHi, [])], []), [(1, 13, 13)], [(some (0, 0, 0, []), [], []), (some (0, 1, 1, []), [(1, 0, 3), (2, 1, 60)], [])])
set_option maxRecDepth 20000 in
theorem vc193 {l : Launch} {X : Nat × (Nat → Int32)} {e : Int} (d : Nat) : Vc l X U0 Pt8 e (d + 2) Kc193 :=
  ckf (d := (d + 1)) (Ks := [Kc192, Kc2, Kc148]) (cy := 152) (cd := cdX6_canWalk) (nl := 3) (fuel := 1000) (Hs := []) (by decide +kernel) (by decide +kernel) (fun na b => by rw [← ceX6_canWalk]; exact tkX6_canWalk) (List.forall_mem_cons.mpr ⟨vc192 (d + 1), List.forall_mem_cons.mpr ⟨vc2 (d + 1), List.forall_mem_cons.mpr ⟨vc148 d, fun _ h => absurd h List.not_mem_nil⟩⟩⟩) (cpyX (d + 1)) (by decide +kernel)
noncomputable def Kc194 : Con := ((50, [(2, 0, 0, [41]), (0, iLo, iHi, [])], []), [], [(some (0, 0, 32, []), [], [])])
set_option maxRecDepth 20000 in
theorem vc194 {l : Launch} {X : Nat × (Nat → Int32)} {e : Int} (d : Nat) : Vc l X U0 Pt8 e d Kc194 :=
  ckf (d := d) (Ks := []) (cy := 152) (cd := cdX5_weight) (nl := 2) (fuel := 1000) (Hs := []) (by decide +kernel) (by decide +kernel) (fun na b => by rw [← ceX5_weight]; exact tkX5_weight) (fun _ h => absurd h List.not_mem_nil) (cpyX d) (by decide +kernel)
noncomputable def Kc195 : Con := ((277, [(0, 1, 1, []), (0, 0, 5, [])], []), [], [(some (0, 1, 5, []), [], [])])
set_option maxRecDepth 20000 in
theorem vc195 {l : Launch} {X : Nat × (Nat → Int32)} {e : Int} (d : Nat) : Vc l X U0 Pt8 e d Kc195 :=
  ckFf (d := d) (Ks := []) (cy := 152) (cd := cdJ9_max_7cf53) (nl := 2) (fuel := 1000) (Hs := []) (by decide +kernel) rfl (fun na b => by rw [← ceJ9_max_7cf53]; exact tkJ9_max_7cf53) (fun _ h => absurd h List.not_mem_nil) (cpyX d) (by decide +kernel)
noncomputable def Kc196 : Con := ((51, [(2, 0, 0, [41]), (2, 0, 0, [7]), (0, iLo, iHi, []), (0, iLo, iHi, [])], []), [], [(some (0, (-2), (-2), []), [], []), (some (0, 0, 19, []), [], [])])
set_option maxRecDepth 20000 in
theorem vc196 {l : Launch} {X : Nat × (Nat → Int32)} {e : Int} (d : Nat) : Vc l X U0 Pt8 e (d + 1) Kc196 :=
  ckf (d := d) (Ks := [Kc195, Kc26]) (cy := 152) (cd := cdX5_next) (nl := 9) (fuel := 1000) (Hs := []) (by decide +kernel) (by decide +kernel) (fun na b => by rw [← ceX5_next]; exact tkX5_next) (List.forall_mem_cons.mpr ⟨vc195 d, List.forall_mem_cons.mpr ⟨vc26 d, fun _ h => absurd h List.not_mem_nil⟩⟩) (cpyX d) (by decide +kernel)
noncomputable def Kc197 : Con := ((279, [(0, iLo, 1048576, []), (0, iLo, iHi, [])], []), [], [(some (0, iLo, 1048576, []), [], [])])
set_option maxRecDepth 20000 in
theorem vc197 {l : Launch} {X : Nat × (Nat → Int32)} {e : Int} (d : Nat) : Vc l X U0 Pt8 e d Kc197 :=
  ckFf (d := d) (Ks := []) (cy := 152) (cd := cdJ9_min_7cf53) (nl := 2) (fuel := 1000) (Hs := []) (by decide +kernel) rfl (fun na b => by rw [← ceJ9_min_7cf53]; exact tkJ9_min_7cf53) (fun _ h => absurd h List.not_mem_nil) (cpyX d) (by decide +kernel)
noncomputable def Kc198 : Con := ((49, [(2, 0, 0, [41]), (2, 0, 0, [7]), (0, iLo, iHi, [])], []), [], [(some (0, iLo, 1048576, []), [], [])])
set_option maxRecDepth 20000 in
theorem vc198 {l : Launch} {X : Nat × (Nat → Int32)} {e : Int} (d : Nat) : Vc l X U0 Pt8 e (d + 2) Kc198 :=
  ckf (d := (d + 1)) (Ks := [Kc196, Kc194, Kc197]) (cy := 152) (cd := cdX5_leastOnward) (nl := 6) (fuel := 1000) (Hs := [((6, 0), ([(0, (2, 0, 0, [41])), (1, (2, 0, 0, [7])), (2, (0, 1, 0, [])), (3, (0, 2, 0, [])), (4, (0, 3, 0, []))], [], [(0, 0), (iLo, iHi), (iLo, 1048576), (0, 4)], []), [(0, 2, 0), (0, 3, 0), (0, 4, 0)], (8, [(3, (-2))]), [])]) (by decide +kernel) (by decide +kernel) (fun na b => by rw [← ceX5_leastOnward]; exact tkX5_leastOnward) (List.forall_mem_cons.mpr ⟨vc196 d, List.forall_mem_cons.mpr ⟨vc194 (d + 1), List.forall_mem_cons.mpr ⟨vc197 (d + 1), fun _ h => absurd h List.not_mem_nil⟩⟩⟩) (cpyX (d + 1)) (by decide +kernel)
noncomputable def Kc199 : Con := ((46, [(2, 0, 0, [41]), (2, 0, 0, [7]), (0, iLo, iHi, []), (0, 0, 19, [])], []), [(41, 1, 1), (42, 0, 19)], [(none, [], [])])
set_option maxRecDepth 20000 in
theorem vc199 {l : Launch} {X : Nat × (Nat → Int32)} {e : Int} (d : Nat) : Vc l X U0 Pt8 e (d + 3) Kc199 :=
  ckf (d := (d + 2)) (Ks := [Kc194, Kc22, Kc198, Kc26]) (cy := 152) (cd := cdX5_measure) (nl := 8) (fuel := 1000) (Hs := [((8, 0), ([(0, (2, 0, 0, [41])), (1, (2, 0, 0, [7])), (3, (0, 1, 0, [])), (4, (0, 2, 0, []))], [], [(0, 0), (0, 19), (0, 20), (iLo, iHi)], [(41, 1, (0, 3, 0, []))]), [(0, 3, 0), (0, 4, 0), (2, 41, 1)], (1930, [(2, (-4))]), []), ((47, 0), ([(0, (2, 0, 0, [41])), (1, (2, 0, 0, [7])), (4, (0, 1, 0, [])), (5, (0, 2, 0, []))], [], [(0, 0), (0, 1), (0, 20), (iLo, iHi)], [(41, 1, (0, 3, 0, []))]), [(0, 4, 0), (0, 5, 0), (2, 41, 1)], (1845, [(2, (-88))]), []), ((65, 0), ([(0, (2, 0, 0, [41])), (1, (2, 0, 0, [7])), (4, (0, 1, 0, [])), (5, (0, 2, 0, [])), (6, (0, 3, 0, []))], [], [(0, 0), (0, 1), (0, 19), (0, 20), (iLo, iHi)], [(41, 1, (0, 4, 0, []))]), [(0, 4, 0), (0, 5, 0), (0, 6, 0), (2, 41, 1)], (1840, [(2, (-88)), (3, (-4))]), [])]) (by decide +kernel) (by decide +kernel) (fun na b => by rw [← ceX5_measure]; exact tkX5_measure) (List.forall_mem_cons.mpr ⟨vc194 (d + 2), List.forall_mem_cons.mpr ⟨vc22 (d + 2), List.forall_mem_cons.mpr ⟨vc198 d, List.forall_mem_cons.mpr ⟨vc26 (d + 2), fun _ h => absurd h List.not_mem_nil⟩⟩⟩⟩) (cpyX (d + 2)) (by decide +kernel)
noncomputable def Kc200 : Con := ((51, [(2, 0, 0, [41]), (2, 0, 0, [20]), (0, iLo, iHi, []), (0, iLo, iHi, [])], []), [], [(some (0, (-2), (-2), []), [], []), (some (0, 0, 19, []), [], [])])
set_option maxRecDepth 20000 in
theorem vc200 {l : Launch} {X : Nat × (Nat → Int32)} {e : Int} (d : Nat) : Vc l X U0 Pt8 e (d + 1) Kc200 :=
  ckf (d := d) (Ks := [Kc195, Kc82]) (cy := 152) (cd := cdX5_next) (nl := 9) (fuel := 1000) (Hs := []) (by decide +kernel) (by decide +kernel) (fun na b => by rw [← ceX5_next]; exact tkX5_next) (List.forall_mem_cons.mpr ⟨vc195 d, List.forall_mem_cons.mpr ⟨vc82 d, fun _ h => absurd h List.not_mem_nil⟩⟩) (cpyX d) (by decide +kernel)
noncomputable def Kc201 : Con := ((49, [(2, 0, 0, [41]), (2, 0, 0, [20]), (0, iLo, iHi, [])], []), [], [(some (0, iLo, 1048576, []), [], [])])
set_option maxRecDepth 20000 in
theorem vc201 {l : Launch} {X : Nat × (Nat → Int32)} {e : Int} (d : Nat) : Vc l X U0 Pt8 e (d + 2) Kc201 :=
  ckf (d := (d + 1)) (Ks := [Kc200, Kc194, Kc197]) (cy := 152) (cd := cdX5_leastOnward) (nl := 6) (fuel := 1000) (Hs := [((6, 0), ([(0, (2, 0, 0, [41])), (1, (2, 0, 0, [20])), (2, (0, 1, 0, [])), (3, (0, 2, 0, [])), (4, (0, 3, 0, []))], [], [(0, 0), (iLo, iHi), (iLo, 1048576), (0, 4)], []), [(0, 2, 0), (0, 3, 0), (0, 4, 0)], (8, [(3, (-2))]), [])]) (by decide +kernel) (by decide +kernel) (fun na b => by rw [← ceX5_leastOnward]; exact tkX5_leastOnward) (List.forall_mem_cons.mpr ⟨vc200 d, List.forall_mem_cons.mpr ⟨vc194 (d + 1), List.forall_mem_cons.mpr ⟨vc197 (d + 1), fun _ h => absurd h List.not_mem_nil⟩⟩⟩) (cpyX (d + 1)) (by decide +kernel)
noncomputable def Kc202 : Con := ((46, [(2, 0, 0, [41]), (2, 0, 0, [20]), (0, iLo, iHi, []), (0, 0, 19, [])], []), [(41, 1, 1), (42, 0, 19)], [(none, [], [])])
set_option maxRecDepth 20000 in
theorem vc202 {l : Launch} {X : Nat × (Nat → Int32)} {e : Int} (d : Nat) : Vc l X U0 Pt8 e (d + 3) Kc202 :=
  ckf (d := (d + 2)) (Ks := [Kc194, Kc79, Kc201, Kc82]) (cy := 152) (cd := cdX5_measure) (nl := 8) (fuel := 1000) (Hs := [((8, 0), ([(0, (2, 0, 0, [41])), (1, (2, 0, 0, [20])), (3, (0, 1, 0, [])), (4, (0, 2, 0, []))], [], [(0, 0), (0, 19), (0, 20), (iLo, iHi)], [(41, 1, (0, 3, 0, []))]), [(0, 3, 0), (0, 4, 0), (2, 41, 1)], (1930, [(2, (-4))]), []), ((47, 0), ([(0, (2, 0, 0, [41])), (1, (2, 0, 0, [20])), (4, (0, 1, 0, [])), (5, (0, 2, 0, []))], [], [(0, 0), (0, 1), (0, 20), (iLo, iHi)], [(41, 1, (0, 3, 0, []))]), [(0, 4, 0), (0, 5, 0), (2, 41, 1)], (1845, [(2, (-88))]), []), ((65, 0), ([(0, (2, 0, 0, [41])), (1, (2, 0, 0, [20])), (4, (0, 1, 0, [])), (5, (0, 2, 0, [])), (6, (0, 3, 0, []))], [], [(0, 0), (0, 1), (0, 19), (0, 20), (iLo, iHi)], [(41, 1, (0, 4, 0, []))]), [(0, 4, 0), (0, 5, 0), (0, 6, 0), (2, 41, 1)], (1840, [(2, (-88)), (3, (-4))]), [])]) (by decide +kernel) (by decide +kernel) (fun na b => by rw [← ceX5_measure]; exact tkX5_measure) (List.forall_mem_cons.mpr ⟨vc194 (d + 2), List.forall_mem_cons.mpr ⟨vc79 (d + 2), List.forall_mem_cons.mpr ⟨vc201 d, List.forall_mem_cons.mpr ⟨vc82 (d + 2), fun _ h => absurd h List.not_mem_nil⟩⟩⟩⟩) (cpyX (d + 2)) (by decide +kernel)
noncomputable def Kc203 : Con := ((133, [(2, 0, 0, [1]), (0, 0, 3, []), (0, 1, 60, [])], []), [(40, 0, 7), (41, 1, 1), (42, 0, 19), (54, 1, 60)], [(some (0, iLo, iHi, []), [], [])])
set_option maxRecDepth 20000 in
theorem vc203 {l : Launch} {X : Nat × (Nat → Int32)} {e : Int} (d : Nat) : Vc l X U0 Pt8 e (d + 4) Kc203 :=
  ckf (d := (d + 3)) (Ks := [Kc150, Kc199, Kc202]) (cy := 152) (cd := cdX6_wayCost) (nl := 3) (fuel := 1000) (Hs := []) (by decide +kernel) (by decide +kernel) (fun na b => by rw [← ceX6_wayCost]; exact tkX6_wayCost) (List.forall_mem_cons.mpr ⟨vc150 (d + 1), List.forall_mem_cons.mpr ⟨vc199 d, List.forall_mem_cons.mpr ⟨vc202 d, fun _ h => absurd h List.not_mem_nil⟩⟩⟩) (cpyX (d + 3)) (by decide +kernel)
noncomputable def Kc204 : Con := ((77, [(2, 0, 0, [1]), (0, iLo, iHi, []), (0, iLo, iHi, [])], []), [(1, 13, 13), (40, 0, 7), (41, 1, 1), (42, 0, 19), (54, 1, 60)], [(some (0, (-1), (-1), []), [], []), (some (0, iLo, iHi, []), [(1, 0, 3), (2, 1, 60)], [])])
set_option maxRecDepth 20000 in
theorem vc204 {l : Launch} {X : Nat × (Nat → Int32)} {e : Int} (d : Nat) : Vc l X U0 Pt8 e (d + 5) Kc204 :=
  ckf (d := (d + 4)) (Ks := [Kc193, Kc203, Kc63]) (cy := 152) (cd := cdX6_wets) (nl := 4) (fuel := 1000) (Hs := []) (by decide +kernel) (by decide +kernel) (fun na b => by rw [← ceX6_wets]; exact tkX6_wets) (List.forall_mem_cons.mpr ⟨vc193 (d + 2), List.forall_mem_cons.mpr ⟨vc203 d, List.forall_mem_cons.mpr ⟨vc63 (d + 4), fun _ h => absurd h List.not_mem_nil⟩⟩⟩) (cpyX (d + 4)) (by decide +kernel)
noncomputable def Kc205 : Con := ((78, [(2, 0, 0, [1]), (0, iLo, iHi, []), (0, iLo, iHi, [])], []), [(1, 13, 13), (40, 0, 7), (41, 1, 1), (42, 0, 19), (54, 1, 60)], [(some (0, (-1), (-1), []), [], []), (some (0, iLo, iHi, []), [(1, 0, 3), (2, 1, 60)], [])])
set_option maxRecDepth 20000 in
theorem vc205 {l : Launch} {X : Nat × (Nat → Int32)} {e : Int} (d : Nat) : Vc l X U0 Pt8 e (d + 5) Kc205 :=
  ckf (d := (d + 4)) (Ks := [Kc193, Kc203, Kc63]) (cy := 152) (cd := cdX6_way) (nl := 4) (fuel := 1000) (Hs := []) (by decide +kernel) (by decide +kernel) (fun na b => by rw [← ceX6_way]; exact tkX6_way) (List.forall_mem_cons.mpr ⟨vc193 (d + 2), List.forall_mem_cons.mpr ⟨vc203 d, List.forall_mem_cons.mpr ⟨vc63 (d + 4), fun _ h => absurd h List.not_mem_nil⟩⟩⟩) (cpyX (d + 4)) (by decide +kernel)
noncomputable def Kc206 : Con := ((47, [(2, 0, 0, [41]), (2, 0, 0, [7, 20]), (0, 0, 19, []), (0, iLo, iHi, [])], []), [], [(some (0, iLo, iHi, []), [], [])])
set_option maxRecDepth 20000 in
theorem vc206 {l : Launch} {X : Nat × (Nat → Int32)} {e : Int} (d : Nat) : Vc l X U0 Pt8 e (d + 4) Kc206 := vh_stepAt d
noncomputable def Kc207 : Con := ((79, [(2, 0, 0, [1]), (0, iLo, iHi, []), (0, iLo, iHi, []), (0, iLo, iHi, [])], []), [(1, 13, 13), (40, 0, 7), (41, 1, 1), (42, 0, 19), (54, 1, 60)], [(some (0, (-1), (-1), []), [], []), (some (0, iLo, iHi, []), [(1, 0, 3), (2, 1, 60), (3, 0, 2147483646)], [])])
set_option maxRecDepth 20000 in
theorem vc207 {l : Launch} {X : Nat × (Nat → Int32)} {e : Int} (d : Nat) : Vc l X U0 Pt8 e (d + 5) Kc207 :=
  ckf (d := (d + 4)) (Ks := [Kc193, Kc203, Kc2, Kc206, Kc63]) (cy := 152) (cd := cdX6_wayAt) (nl := 5) (fuel := 1000) (Hs := []) (by decide +kernel) (by decide +kernel) (fun na b => by rw [← ceX6_wayAt]; exact tkX6_wayAt) (List.forall_mem_cons.mpr ⟨vc193 (d + 2), List.forall_mem_cons.mpr ⟨vc203 d, List.forall_mem_cons.mpr ⟨vc2 (d + 4), List.forall_mem_cons.mpr ⟨vc206 d, List.forall_mem_cons.mpr ⟨vc63 (d + 4), fun _ h => absurd h List.not_mem_nil⟩⟩⟩⟩⟩) (cpyX (d + 4)) (by decide +kernel)
noncomputable def Kc208 : Con := ((80, [(2, 0, 0, [1]), (0, iLo, iHi, [])], []), [(1, 13, 13), (40, 0, 7), (54, 1, 60)], [(some (0, (-1), (-1), []), [], []), (some (0, iLo, iHi, []), [], [])])
set_option maxRecDepth 20000 in
theorem vc208 {l : Launch} {X : Nat × (Nat → Int32)} {e : Int} (d : Nat) : Vc l X U0 Pt8 e (d + 3) Kc208 :=
  ckf (d := (d + 2)) (Ks := [Kc192, Kc2, Kc159, Kc63, Kc123, Kc189, Kc125, Kc190]) (cy := 152) (cd := cdX6_dryDay) (nl := 4) (fuel := 1000) (Hs := [((22, 0), ([(0, (2, 0, 0, [1])), (1, (0, 1, 0, [])), (2, (0, 2, 0, []))], [], [(0, 0), (0, 3), (1, 61)], []), [(0, 1, 0), (0, 2, 0)], (122, [(2, (-2))]), [])]) (by decide +kernel) (by decide +kernel) (fun na b => by rw [← ceX6_dryDay]; exact tkX6_dryDay) (List.forall_mem_cons.mpr ⟨vc192 (d + 2), List.forall_mem_cons.mpr ⟨vc2 (d + 2), List.forall_mem_cons.mpr ⟨vc159 d, List.forall_mem_cons.mpr ⟨vc63 (d + 2), List.forall_mem_cons.mpr ⟨vc123 (d + 1), List.forall_mem_cons.mpr ⟨vc189 (d + 1), List.forall_mem_cons.mpr ⟨vc125 (d + 1), List.forall_mem_cons.mpr ⟨vc190 (d + 1), fun _ h => absurd h List.not_mem_nil⟩⟩⟩⟩⟩⟩⟩⟩) (cpyX (d + 2)) (by decide +kernel)
noncomputable def Kc209 : Con := ((134, [(2, 0, 0, [1]), (0, iLo, iHi, [])], []), [], [(some (0, iLo, iHi, []), [], [])])
set_option maxRecDepth 20000 in
theorem vc209 {l : Launch} {X : Nat × (Nat → Int32)} {e : Int} (d : Nat) : Vc l X U0 Pt8 e (d + 2) Kc209 :=
  ckf (d := (d + 1)) (Ks := [Kc189, Kc190]) (cy := 152) (cd := cdX6_stepsTogether) (nl := 5) (fuel := 1000) (Hs := [((4, 0), ([(0, (2, 0, 0, [1])), (1, (0, 1, 0, [])), (2, (0, 2, 0, [])), (3, (0, 3, 0, []))], [], [(0, 0), (iLo, iHi), (iLo, iHi), (0, 4)], []), [(0, 1, 0), (0, 2, 0), (0, 3, 0)], (8, [(3, (-2))]), [])]) (by decide +kernel) (by decide +kernel) (fun na b => by rw [← ceX6_stepsTogether]; exact tkX6_stepsTogether) (List.forall_mem_cons.mpr ⟨vc189 d, List.forall_mem_cons.mpr ⟨vc190 d, fun _ h => absurd h List.not_mem_nil⟩⟩) (cpyX (d + 1)) (by decide +kernel)
noncomputable def Kc210 : Con := ((81, [(2, 0, 0, [1])], []), [(1, 13, 13)], [(some (0, (-1), (-1), []), [], []), (some (0, iLo, iHi, []), [], [])])
set_option maxRecDepth 20000 in
theorem vc210 {l : Launch} {X : Nat × (Nat → Int32)} {e : Int} (d : Nat) : Vc l X U0 Pt8 e (d + 3) Kc210 :=
  ckf (d := (d + 2)) (Ks := [Kc127, Kc2, Kc22, Kc63, Kc26, Kc123, Kc209, Kc79, Kc82, Kc125]) (cy := 152) (cd := cdX6_gate) (nl := 5) (fuel := 1000) (Hs := [((20, 0), ([(0, (2, 0, 0, [1])), (1, (0, 1, 0, [])), (2, (0, 2, 0, [])), (3, (0, 3, 0, []))], [], [(0, 0), ((-2), 19), (iLo, iHi), (0, 20)], []), [(0, 1, 0), (0, 2, 0), (0, 3, 0)], (40, [(3, (-2))]), [])]) (by decide +kernel) (by decide +kernel) (fun na b => by rw [← ceX6_gate]; exact tkX6_gate) (List.forall_mem_cons.mpr ⟨vc127 (d + 2), List.forall_mem_cons.mpr ⟨vc2 (d + 2), List.forall_mem_cons.mpr ⟨vc22 (d + 2), List.forall_mem_cons.mpr ⟨vc63 (d + 2), List.forall_mem_cons.mpr ⟨vc26 (d + 2), List.forall_mem_cons.mpr ⟨vc123 (d + 1), List.forall_mem_cons.mpr ⟨vc209 d, List.forall_mem_cons.mpr ⟨vc79 (d + 2), List.forall_mem_cons.mpr ⟨vc82 (d + 2), List.forall_mem_cons.mpr ⟨vc125 (d + 1), fun _ h => absurd h List.not_mem_nil⟩⟩⟩⟩⟩⟩⟩⟩⟩⟩) (cpyX (d + 2)) (by decide +kernel)
noncomputable def Kc211 : Con := ((3, [(2, 0, 0, [40]), (0, 40, 40, [])], []), [(40, 4, 7)], [(some (0, (-2), (-2), []), [], []), (some (0, 1, 40, []), [], [])])
set_option maxRecDepth 20000 in
theorem vc211 {l : Launch} {X : Nat × (Nat → Int32)} {e : Int} (d : Nat) : Vc l X U0 Pt8 e (d + 1) Kc211 :=
  ckf (d := d) (Ks := [Kc135]) (cy := 152) (cd := cdX0_firstDrop) (nl := 3) (fuel := 1000) (Hs := [((2, 0), ([(0, (2, 0, 0, [40])), (1, (0, 1, 0, [])), (2, (0, 2, 0, []))], [], [(0, 0), (40, 40), (1, 41)], []), [(0, 1, 0), (0, 2, 0)], (82, [(2, (-2))]), [])]) (by decide +kernel) (by decide +kernel) (fun na b => by rw [← ceX0_firstDrop]; exact tkX0_firstDrop) (List.forall_mem_cons.mpr ⟨vc135 d, fun _ h => absurd h List.not_mem_nil⟩) (cpyX d) (by decide +kernel)
noncomputable def Kc212 : Con := ((20, [(2, 0, 0, [7]), (0, 0, 4, []), (0, iLo, iHi, [])], []), [], [(some (0, iLo, iHi, []), [], [])])
set_option maxRecDepth 20000 in
theorem vc212 {l : Launch} {X : Nat × (Nat → Int32)} {e : Int} (d : Nat) : Vc l X U0 Pt8 e (d + 1) Kc212 :=
  ckf (d := d) (Ks := [Kc17]) (cy := 152) (cd := cdX3_vexedBy) (nl := 4) (fuel := 1000) (Hs := []) (by decide +kernel) (by decide +kernel) (fun na b => by rw [← ceX3_vexedBy]; exact tkX3_vexedBy) (List.forall_mem_cons.mpr ⟨vc17 d, fun _ h => absurd h List.not_mem_nil⟩) (cpyX d) (by decide +kernel)
noncomputable def Kc213 : Con := ((20, [(2, 0, 0, [20]), (0, 0, 4, []), (0, iLo, iHi, [])], []), [], [(some (0, iLo, iHi, []), [], [])])
set_option maxRecDepth 20000 in
theorem vc213 {l : Launch} {X : Nat × (Nat → Int32)} {e : Int} (d : Nat) : Vc l X U0 Pt8 e (d + 1) Kc213 :=
  ckf (d := d) (Ks := [Kc75]) (cy := 152) (cd := cdX3_vexedBy) (nl := 4) (fuel := 1000) (Hs := []) (by decide +kernel) (by decide +kernel) (fun na b => by rw [← ceX3_vexedBy]; exact tkX3_vexedBy) (List.forall_mem_cons.mpr ⟨vc75 d, fun _ h => absurd h List.not_mem_nil⟩) (cpyX d) (by decide +kernel)
noncomputable def Kc214 : Con := ((137, [(2, 0, 0, [1]), (0, 0, 5, []), (0, iLo, iHi, [])], []), [(40, 0, 7)], [(some (0, 0, 0, []), [], []), (some (0, 1, 1, []), [], [])])
set_option maxRecDepth 20000 in
theorem vc214 {l : Launch} {X : Nat × (Nat → Int32)} {e : Int} (d : Nat) : Vc l X U0 Pt8 e (d + 2) Kc214 :=
  ckf (d := (d + 1)) (Ks := [Kc30, Kc132, Kc211, Kc212, Kc137, Kc86, Kc133, Kc213, Kc138]) (cy := 152) (cd := cdX6_dropFits) (nl := 4) (fuel := 1000) (Hs := []) (by decide +kernel) (by decide +kernel) (fun na b => by rw [← ceX6_dropFits]; exact tkX6_dropFits) (List.forall_mem_cons.mpr ⟨vc30 (d + 1), List.forall_mem_cons.mpr ⟨vc132 (d + 1), List.forall_mem_cons.mpr ⟨vc211 d, List.forall_mem_cons.mpr ⟨vc212 d, List.forall_mem_cons.mpr ⟨vc137 (d + 1), List.forall_mem_cons.mpr ⟨vc86 (d + 1), List.forall_mem_cons.mpr ⟨vc133 (d + 1), List.forall_mem_cons.mpr ⟨vc213 d, List.forall_mem_cons.mpr ⟨vc138 (d + 1), fun _ h => absurd h List.not_mem_nil⟩⟩⟩⟩⟩⟩⟩⟩⟩) (cpyX (d + 1)) (by decide +kernel)
noncomputable def Kc215 : Con := ((136, [(2, 0, 0, [1]), (0, iLo, iHi, [])], []), [(40, 0, 7)], [(some (0, 1, 1, []), [], []), (some (0, 0, 0, []), [], [])])
set_option maxRecDepth 20000 in
theorem vc215 {l : Launch} {X : Nat × (Nat → Int32)} {e : Int} (d : Nat) : Vc l X U0 Pt8 e (d + 3) Kc215 :=
  ckf (d := (d + 2)) (Ks := [Kc214]) (cy := 152) (cd := cdX6_setFits) (nl := 3) (fuel := 1000) (Hs := [((2, 0), ([(0, (2, 0, 0, [1])), (1, (0, 1, 0, [])), (2, (0, 2, 0, []))], [], [(0, 0), (iLo, iHi), (0, 6)], []), [(0, 1, 0), (0, 2, 0)], (12, [(2, (-2))]), [])]) (by decide +kernel) (by decide +kernel) (fun na b => by rw [← ceX6_setFits]; exact tkX6_setFits) (List.forall_mem_cons.mpr ⟨vc214 d, fun _ h => absurd h List.not_mem_nil⟩) (cpyX (d + 2)) (by decide +kernel)
noncomputable def Kc216 : Con := ((135, [(2, 0, 0, [1])], []), [(40, 0, 7)], [(some (0, iLo, iHi, []), [], [])])
set_option maxRecDepth 20000 in
theorem vc216 {l : Launch} {X : Nat × (Nat → Int32)} {e : Int} (d : Nat) : Vc l X U0 Pt8 e (d + 4) Kc216 :=
  ckf (d := (d + 3)) (Ks := [Kc215]) (cy := 152) (cd := cdX6_fittingSets) (nl := 3) (fuel := 1000) (Hs := [((4, 0), ([(0, (2, 0, 0, [1])), (1, (0, 1, 0, [])), (2, (0, 2, 0, []))], [], [(0, 0), (iLo, iHi), (0, 16)], []), [(0, 1, 0), (0, 2, 0)], (32, [(2, (-2))]), [])]) (by decide +kernel) (by decide +kernel) (fun na b => by rw [← ceX6_fittingSets]; exact tkX6_fittingSets) (List.forall_mem_cons.mpr ⟨vc215 d, fun _ h => absurd h List.not_mem_nil⟩) (cpyX (d + 3)) (by decide +kernel)
noncomputable def Kc217 : Con := ((82, [(2, 0, 0, [1])], []), [(1, 13, 13), (40, 0, 7)], [(some (0, (-1), (-1), []), [], []), (some (0, iLo, iHi, []), [], [])])
set_option maxRecDepth 20000 in
theorem vc217 {l : Launch} {X : Nat × (Nat → Int32)} {e : Int} (d : Nat) : Vc l X U0 Pt8 e (d + 5) Kc217 :=
  ckf (d := (d + 4)) (Ks := [Kc127, Kc2, Kc216, Kc47, Kc63]) (cy := 152) (cd := cdX6_fits) (nl := 1) (fuel := 1000) (Hs := []) (by decide +kernel) (by decide +kernel) (fun na b => by rw [← ceX6_fits]; exact tkX6_fits) (List.forall_mem_cons.mpr ⟨vc127 (d + 4), List.forall_mem_cons.mpr ⟨vc2 (d + 4), List.forall_mem_cons.mpr ⟨vc216 d, List.forall_mem_cons.mpr ⟨vc47 (d + 4), List.forall_mem_cons.mpr ⟨vc63 (d + 4), fun _ h => absurd h List.not_mem_nil⟩⟩⟩⟩⟩) (cpyX (d + 4)) (by decide +kernel)
noncomputable def Kc218 : Con := ((83, [(2, 0, 0, [1]), (0, iLo, iHi, [])], []), [(1, 13, 13), (40, 0, 7)], [(some (0, (-1), (-1), []), [], []), (some (0, iLo, iHi, []), [], [])])
set_option maxRecDepth 20000 in
theorem vc218 {l : Launch} {X : Nat × (Nat → Int32)} {e : Int} (d : Nat) : Vc l X U0 Pt8 e (d + 5) Kc218 :=
  ckf (d := (d + 4)) (Ks := [Kc127, Kc2, Kc216, Kc63]) (cy := 152) (cd := cdX6_fitAt) (nl := 5) (fuel := 1000) (Hs := [((27, 0), ([(0, (2, 0, 0, [1])), (1, (0, 1, 0, [])), (2, (0, 2, 0, [])), (3, (0, 3, 0, [])), (4, (0, 4, 0, []))], [], [(0, 0), (0, iHi), (iLo, iHi), (iLo, iHi), (0, 16)], []), [(0, 1, 0), (0, 2, 0), (0, 3, 0), (0, 4, 0)], (32, [(4, (-2))]), [])]) (by decide +kernel) (by decide +kernel) (fun na b => by rw [← ceX6_fitAt]; exact tkX6_fitAt) (List.forall_mem_cons.mpr ⟨vc127 (d + 4), List.forall_mem_cons.mpr ⟨vc2 (d + 4), List.forall_mem_cons.mpr ⟨vc216 d, List.forall_mem_cons.mpr ⟨vc63 (d + 4), fun _ h => absurd h List.not_mem_nil⟩⟩⟩⟩) (cpyX (d + 4)) (by decide +kernel)
noncomputable def Kc219 : Con := ((138, [(0, iLo, iHi, []), (0, iLo, iHi, [])], []), [], [(some (0, iLo, iHi, []), [], [])])
set_option maxRecDepth 20000 in
theorem vc219 {l : Launch} {X : Nat × (Nat → Int32)} {e : Int} (d : Nat) : Vc l X U0 Pt8 e d Kc219 :=
  ckf (d := d) (Ks := []) (cy := 152) (cd := cdX6_setsWith) (nl := 4) (fuel := 1000) (Hs := [((4, 0), ([(0, (0, 1, 0, [])), (1, (0, 2, 0, [])), (2, (0, 3, 0, [])), (3, (0, 4, 0, []))], [], [(0, 0), (iLo, iHi), (iLo, iHi), (iLo, iHi), (0, 16)], []), [(0, 0, 0), (0, 1, 0), (0, 2, 0), (0, 3, 0)], (32, [(4, (-2))]), [])]) (by decide +kernel) (by decide +kernel) (fun na b => by rw [← ceX6_setsWith]; exact tkX6_setsWith) (fun _ h => absurd h List.not_mem_nil) (cpyX d) (by decide +kernel)
