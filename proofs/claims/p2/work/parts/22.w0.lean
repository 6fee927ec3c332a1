def Kc1106 : Con := ((280, [(2, 0, 0, [5021])], []), [], [(some (0, 5, 5, []), [], [])])
theorem vc1106 {l : Launch} {X : Nat × (Nat → Int32)} {e : Int} (d : Nat) : Vc l X U0 Pt7 e (d + 4) Kc1106 := sorry
def Kc1107 : Con := ((281, [(2, 0, 0, [5021]), (0, 0, 4, [])], []), [], [(some (0, 0, 65535, []), [], [])])
theorem vc1107 {l : Launch} {X : Nat × (Nat → Int32)} {e : Int} (d : Nat) : Vc l X U0 Pt7 e (d + 4) Kc1107 := sorry
def Kc1108 : Con := ((160, [(2, 0, 0, [150]), (2, 0, 0, [5021])], []), [], [(some (0, 0, 0, []), [], []), (some (0, 0, 1, []), [], [])])
set_option maxRecDepth 20000 in
theorem vc1108 {l : Launch} {X : Nat × (Nat → Int32)} {e : Int} (d : Nat) : Vc l X U0 Pt7 e (d + 5) Kc1108 :=
  ck (d := (d + 4)) (Ks := [Kc1106, Kc1107]) (cy := 152) (cd := cdX7_isWord) (nl := 4) (fuel := 1000) (Hs := [((32, 0), ([(0, (2, 0, 0, [150])), (1, (2, 0, 0, [5021])), (2, (0, 1, 0, [])), (3, (0, 2, 0, []))], [], [(0, 0), (0, 1), (0, 5), (5, 5)], [(150, 8, (0, 3, 0, []))]), [(0, 2, 0), (0, 3, 0), (2, 150, 8)], (10, [(2, (-2))]), [])]) (by decide) rfl (fun na b => by rw [← ceX7_isWord]; exact tkX7_isWord) (List.forall_mem_cons.mpr ⟨vc1106 d, List.forall_mem_cons.mpr ⟨vc1107 d, fun _ h => absurd h List.not_mem_nil⟩⟩) (cpyX (d + 4)) (by decide +kernel)
def Kc1109 : Con := ((280, [(2, 0, 0, [5022])], []), [], [(some (0, 4, 4, []), [], [])])
theorem vc1109 {l : Launch} {X : Nat × (Nat → Int32)} {e : Int} (d : Nat) : Vc l X U0 Pt7 e (d + 4) Kc1109 := sorry
def Kc1110 : Con := ((281, [(2, 0, 0, [5022]), (0, 0, 3, [])], []), [], [(some (0, 0, 65535, []), [], [])])
theorem vc1110 {l : Launch} {X : Nat × (Nat → Int32)} {e : Int} (d : Nat) : Vc l X U0 Pt7 e (d + 4) Kc1110 := sorry
def Kc1111 : Con := ((160, [(2, 0, 0, [150]), (2, 0, 0, [5022])], []), [], [(some (0, 0, 0, []), [], []), (some (0, 0, 1, []), [], [])])
set_option maxRecDepth 20000 in
theorem vc1111 {l : Launch} {X : Nat × (Nat → Int32)} {e : Int} (d : Nat) : Vc l X U0 Pt7 e (d + 5) Kc1111 :=
  ck (d := (d + 4)) (Ks := [Kc1109, Kc1110]) (cy := 152) (cd := cdX7_isWord) (nl := 4) (fuel := 1000) (Hs := [((32, 0), ([(0, (2, 0, 0, [150])), (1, (2, 0, 0, [5022])), (2, (0, 1, 0, [])), (3, (0, 2, 0, []))], [], [(0, 0), (0, 1), (0, 4), (4, 4)], [(150, 8, (0, 3, 0, []))]), [(0, 2, 0), (0, 3, 0), (2, 150, 8)], (8, [(2, (-2))]), [])]) (by decide) rfl (fun na b => by rw [← ceX7_isWord]; exact tkX7_isWord) (List.forall_mem_cons.mpr ⟨vc1109 d, List.forall_mem_cons.mpr ⟨vc1110 d, fun _ h => absurd h List.not_mem_nil⟩⟩) (cpyX (d + 4)) (by decide +kernel)
def Kc1112 : Con := ((159, [(2, 0, 0, [150]), (0, iLo, iHi, []), (0, iLo, iHi, [])], []), [(150, 9, 10), (150, 13, 13)], [(none, [], [(150, 13, (0, 1, 1, []))])])
set_option maxRecDepth 20000 in
theorem vc1112 {l : Launch} {X : Nat × (Nat → Int32)} {e : Int} (d : Nat) : Vc l X U0 Pt7 e d Kc1112 :=
  ck (d := d) (Ks := []) (cy := 152) (cd := cdX7_wrong) (nl := 3) (fuel := 1000) (Hs := []) (by decide) rfl (fun na b => by rw [← ceX7_wrong]; exact tkX7_wrong) (fun _ h => absurd h List.not_mem_nil) (cpyX d) (by decide +kernel)
def Kc1113 : Con := ((167, [(2, 0, 0, [150])], [(150, 13, (0, 1, 1, []))]), [], [(none, [], [(150, 13, (0, 1, 1, []))])])
set_option maxRecDepth 20000 in
theorem vc1113 {l : Launch} {X : Nat × (Nat → Int32)} {e : Int} (d : Nat) : Vc l X U0 Pt7 e (d + 1) Kc1113 :=
  ck (d := d) (Ks := []) (cy := 152) (cd := cdX7_pass) (nl := 1) (fuel := 1000) (Hs := []) (by decide) rfl (fun na b => by rw [← ceX7_pass]; exact tkX7_pass) (fun _ h => absurd h List.not_mem_nil) (cpyX d) (by decide +kernel)
def Kc1114 : Con := ((172, [(2, 0, 0, [150]), (2, 0, 0, [5022]), (0, 0, 0, [])], [(154, 9, (0, 0, 0, []))]), [(150, 9, 10), (150, 13, 13)], [(some (0, 0, 0, []), [], []), (some (0, 1, 1, []), [], [(150, 13, (0, 1, 1, []))])])
set_option maxRecDepth 20000 in
theorem vc1114 {l : Launch} {X : Nat × (Nat → Int32)} {e : Int} (d : Nat) : Vc l X U0 Pt7 e (d + 6) Kc1114 :=
  ck (d := (d + 5)) (Ks := [Kc1111, Kc1112, Kc1113]) (cy := 152) (cd := cdX7_begins) (nl := 3) (fuel := 1000) (Hs := []) (by decide) rfl (fun na b => by rw [← ceX7_begins]; exact tkX7_begins) (List.forall_mem_cons.mpr ⟨vc1111 d, List.forall_mem_cons.mpr ⟨vc1112 (d + 5), List.forall_mem_cons.mpr ⟨vc1113 (d + 4), fun _ h => absurd h List.not_mem_nil⟩⟩⟩) (cpyX (d + 5)) (by decide +kernel)
def Kc1115 : Con := ((280, [(2, 0, 0, [5023])], []), [], [(some (0, 4, 4, []), [], [])])
theorem vc1115 {l : Launch} {X : Nat × (Nat → Int32)} {e : Int} (d : Nat) : Vc l X U0 Pt7 e (d + 4) Kc1115 := sorry
def Kc1116 : Con := ((281, [(2, 0, 0, [5023]), (0, 0, 3, [])], []), [], [(some (0, 0, 65535, []), [], [])])
theorem vc1116 {l : Launch} {X : Nat × (Nat → Int32)} {e : Int} (d : Nat) : Vc l X U0 Pt7 e (d + 4) Kc1116 := sorry
def Kc1117 : Con := ((160, [(2, 0, 0, [150]), (2, 0, 0, [5023])], []), [], [(some (0, 0, 0, []), [], []), (some (0, 0, 1, []), [], [])])
set_option maxRecDepth 20000 in
theorem vc1117 {l : Launch} {X : Nat × (Nat → Int32)} {e : Int} (d : Nat) : Vc l X U0 Pt7 e (d + 5) Kc1117 :=
  ck (d := (d + 4)) (Ks := [Kc1115, Kc1116]) (cy := 152) (cd := cdX7_isWord) (nl := 4) (fuel := 1000) (Hs := [((32, 0), ([(0, (2, 0, 0, [150])), (1, (2, 0, 0, [5023])), (2, (0, 1, 0, [])), (3, (0, 2, 0, []))], [], [(0, 0), (0, 1), (0, 4), (4, 4)], [(150, 8, (0, 3, 0, []))]), [(0, 2, 0), (0, 3, 0), (2, 150, 8)], (8, [(2, (-2))]), [])]) (by decide) rfl (fun na b => by rw [← ceX7_isWord]; exact tkX7_isWord) (List.forall_mem_cons.mpr ⟨vc1115 d, List.forall_mem_cons.mpr ⟨vc1116 d, fun _ h => absurd h List.not_mem_nil⟩⟩) (cpyX (d + 4)) (by decide +kernel)
def Kc1118 : Con := ((172, [(2, 0, 0, [150]), (2, 0, 0, [5023]), (0, 0, 0, [])], [(154, 9, (0, 0, 0, []))]), [(150, 9, 10), (150, 13, 13)], [(some (0, 0, 0, []), [], []), (some (0, 1, 1, []), [], [(150, 13, (0, 1, 1, []))])])
set_option maxRecDepth 20000 in
theorem vc1118 {l : Launch} {X : Nat × (Nat → Int32)} {e : Int} (d : Nat) : Vc l X U0 Pt7 e (d + 6) Kc1118 :=
  ck (d := (d + 5)) (Ks := [Kc1117, Kc1112, Kc1113, Kc1111]) (cy := 152) (cd := cdX7_begins) (nl := 3) (fuel := 1000) (Hs := []) (by decide) rfl (fun na b => by rw [← ceX7_begins]; exact tkX7_begins) (List.forall_mem_cons.mpr ⟨vc1117 d, List.forall_mem_cons.mpr ⟨vc1112 (d + 5), List.forall_mem_cons.mpr ⟨vc1113 (d + 4), List.forall_mem_cons.mpr ⟨vc1111 d, fun _ h => absurd h List.not_mem_nil⟩⟩⟩⟩) (cpyX (d + 5)) (by decide +kernel)
def Kc1119 : Con := ((280, [(2, 0, 0, [5024])], []), [], [(some (0, 5, 5, []), [], [])])
theorem vc1119 {l : Launch} {X : Nat × (Nat → Int32)} {e : Int} (d : Nat) : Vc l X U0 Pt7 e (d + 4) Kc1119 := sorry
def Kc1120 : Con := ((281, [(2, 0, 0, [5024]), (0, 0, 4, [])], []), [], [(some (0, 0, 65535, []), [], [])])
theorem vc1120 {l : Launch} {X : Nat × (Nat → Int32)} {e : Int} (d : Nat) : Vc l X U0 Pt7 e (d + 4) Kc1120 := sorry
def Kc1121 : Con := ((160, [(2, 0, 0, [150]), (2, 0, 0, [5024])], []), [], [(some (0, 0, 0, []), [], []), (some (0, 0, 1, []), [], [])])
set_option maxRecDepth 20000 in
theorem vc1121 {l : Launch} {X : Nat × (Nat → Int32)} {e : Int} (d : Nat) : Vc l X U0 Pt7 e (d + 5) Kc1121 :=
  ck (d := (d + 4)) (Ks := [Kc1119, Kc1120]) (cy := 152) (cd := cdX7_isWord) (nl := 4) (fuel := 1000) (Hs := [((32, 0), ([(0, (2, 0, 0, [150])), (1, (2, 0, 0, [5024])), (2, (0, 1, 0, [])), (3, (0, 2, 0, []))], [], [(0, 0), (0, 1), (0, 5), (5, 5)], [(150, 8, (0, 3, 0, []))]), [(0, 2, 0), (0, 3, 0), (2, 150, 8)], (10, [(2, (-2))]), [])]) (by decide) rfl (fun na b => by rw [← ceX7_isWord]; exact tkX7_isWord) (List.forall_mem_cons.mpr ⟨vc1119 d, List.forall_mem_cons.mpr ⟨vc1120 d, fun _ h => absurd h List.not_mem_nil⟩⟩) (cpyX (d + 4)) (by decide +kernel)
def Kc1122 : Con := ((172, [(2, 0, 0, [150]), (2, 0, 0, [5024]), (0, 1, 1, [])], [(154, 9, (0, 0, 0, []))]), [(150, 9, 10), (150, 13, 13)], [(some (0, 0, 0, []), [], []), (some (0, 1, 1, []), [], [(150, 13, (0, 1, 1, []))])])
set_option maxRecDepth 20000 in
theorem vc1122 {l : Launch} {X : Nat × (Nat → Int32)} {e : Int} (d : Nat) : Vc l X U0 Pt7 e (d + 6) Kc1122 :=
  ck (d := (d + 5)) (Ks := [Kc1121, Kc1112, Kc1113, Kc1111]) (cy := 152) (cd := cdX7_begins) (nl := 3) (fuel := 1000) (Hs := []) (by decide) rfl (fun na b => by rw [← ceX7_begins]; exact tkX7_begins) (List.forall_mem_cons.mpr ⟨vc1121 d, List.forall_mem_cons.mpr ⟨vc1112 (d + 5), List.forall_mem_cons.mpr ⟨vc1113 (d + 4), List.forall_mem_cons.mpr ⟨vc1111 d, fun _ h => absurd h List.not_mem_nil⟩⟩⟩⟩) (cpyX (d + 5)) (by decide +kernel)
def Kc1123 : Con := ((280, [(2, 0, 0, [5025])], []), [], [(some (0, 6, 6, []), [], [])])
theorem vc1123 {l : Launch} {X : Nat × (Nat → Int32)} {e : Int} (d : Nat) : Vc l X U0 Pt7 e (d + 4) Kc1123 := sorry
def Kc1124 : Con := ((281, [(2, 0, 0, [5025]), (0, 0, 5, [])], []), [], [(some (0, 0, 65535, []), [], [])])
theorem vc1124 {l : Launch} {X : Nat × (Nat → Int32)} {e : Int} (d : Nat) : Vc l X U0 Pt7 e (d + 4) Kc1124 := sorry
def Kc1125 : Con := ((160, [(2, 0, 0, [150]), (2, 0, 0, [5025])], []), [], [(some (0, 0, 0, []), [], []), (some (0, 0, 1, []), [], [])])
set_option maxRecDepth 20000 in
theorem vc1125 {l : Launch} {X : Nat × (Nat → Int32)} {e : Int} (d : Nat) : Vc l X U0 Pt7 e (d + 5) Kc1125 :=
  ck (d := (d + 4)) (Ks := [Kc1123, Kc1124]) (cy := 152) (cd := cdX7_isWord) (nl := 4) (fuel := 1000) (Hs := [((32, 0), ([(0, (2, 0, 0, [150])), (1, (2, 0, 0, [5025])), (2, (0, 1, 0, [])), (3, (0, 2, 0, []))], [], [(0, 0), (0, 1), (0, 6), (6, 6)], [(150, 8, (0, 3, 0, []))]), [(0, 2, 0), (0, 3, 0), (2, 150, 8)], (12, [(2, (-2))]), [])]) (by decide) rfl (fun na b => by rw [← ceX7_isWord]; exact tkX7_isWord) (List.forall_mem_cons.mpr ⟨vc1123 d, List.forall_mem_cons.mpr ⟨vc1124 d, fun _ h => absurd h List.not_mem_nil⟩⟩) (cpyX (d + 4)) (by decide +kernel)
def Kc1126 : Con := ((172, [(2, 0, 0, [150]), (2, 0, 0, [5025]), (0, 0, 0, [])], [(154, 9, (0, 0, 0, []))]), [(150, 9, 10), (150, 13, 13)], [(some (0, 0, 0, []), [], []), (some (0, 1, 1, []), [], [(150, 13, (0, 1, 1, []))])])
set_option maxRecDepth 20000 in
theorem vc1126 {l : Launch} {X : Nat × (Nat → Int32)} {e : Int} (d : Nat) : Vc l X U0 Pt7 e (d + 6) Kc1126 :=
  ck (d := (d + 5)) (Ks := [Kc1125, Kc1112, Kc1113, Kc1111]) (cy := 152) (cd := cdX7_begins) (nl := 3) (fuel := 1000) (Hs := []) (by decide) rfl (fun na b => by rw [← ceX7_begins]; exact tkX7_begins) (List.forall_mem_cons.mpr ⟨vc1125 d, List.forall_mem_cons.mpr ⟨vc1112 (d + 5), List.forall_mem_cons.mpr ⟨vc1113 (d + 4), List.forall_mem_cons.mpr ⟨vc1111 d, fun _ h => absurd h List.not_mem_nil⟩⟩⟩⟩) (cpyX (d + 5)) (by decide +kernel)
def Kc1127 : Con := ((280, [(2, 0, 0, [5026])], []), [], [(some (0, 6, 6, []), [], [])])
theorem vc1127 {l : Launch} {X : Nat × (Nat → Int32)} {e : Int} (d : Nat) : Vc l X U0 Pt7 e (d + 4) Kc1127 := sorry
def Kc1128 : Con := ((281, [(2, 0, 0, [5026]), (0, 0, 5, [])], []), [], [(some (0, 0, 65535, []), [], [])])
theorem vc1128 {l : Launch} {X : Nat × (Nat → Int32)} {e : Int} (d : Nat) : Vc l X U0 Pt7 e (d + 4) Kc1128 := sorry
def Kc1129 : Con := ((160, [(2, 0, 0, [150]), (2, 0, 0, [5026])], []), [], [(some (0, 0, 0, []), [], []), (some (0, 0, 1, []), [], [])])
set_option maxRecDepth 20000 in
theorem vc1129 {l : Launch} {X : Nat × (Nat → Int32)} {e : Int} (d : Nat) : Vc l X U0 Pt7 e (d + 5) Kc1129 :=
  ck (d := (d + 4)) (Ks := [Kc1127, Kc1128]) (cy := 152) (cd := cdX7_isWord) (nl := 4) (fuel := 1000) (Hs := [((32, 0), ([(0, (2, 0, 0, [150])), (1, (2, 0, 0, [5026])), (2, (0, 1, 0, [])), (3, (0, 2, 0, []))], [], [(0, 0), (0, 1), (0, 6), (6, 6)], [(150, 8, (0, 3, 0, []))]), [(0, 2, 0), (0, 3, 0), (2, 150, 8)], (12, [(2, (-2))]), [])]) (by decide) rfl (fun na b => by rw [← ceX7_isWord]; exact tkX7_isWord) (List.forall_mem_cons.mpr ⟨vc1127 d, List.forall_mem_cons.mpr ⟨vc1128 d, fun _ h => absurd h List.not_mem_nil⟩⟩) (cpyX (d + 4)) (by decide +kernel)
def Kc1130 : Con := ((172, [(2, 0, 0, [150]), (2, 0, 0, [5026]), (0, 0, 0, [])], [(154, 9, (0, 0, 0, []))]), [(150, 9, 10), (150, 13, 13)], [(some (0, 0, 0, []), [], []), (some (0, 1, 1, []), [], [(150, 13, (0, 1, 1, []))])])
set_option maxRecDepth 20000 in
theorem vc1130 {l : Launch} {X : Nat × (Nat → Int32)} {e : Int} (d : Nat) : Vc l X U0 Pt7 e (d + 6) Kc1130 :=
  ck (d := (d + 5)) (Ks := [Kc1129, Kc1112, Kc1113, Kc1111]) (cy := 152) (cd := cdX7_begins) (nl := 3) (fuel := 1000) (Hs := []) (by decide) rfl (fun na b => by rw [← ceX7_begins]; exact tkX7_begins) (List.forall_mem_cons.mpr ⟨vc1129 d, List.forall_mem_cons.mpr ⟨vc1112 (d + 5), List.forall_mem_cons.mpr ⟨vc1113 (d + 4), List.forall_mem_cons.mpr ⟨vc1111 d, fun _ h => absurd h List.not_mem_nil⟩⟩⟩⟩) (cpyX (d + 5)) (by decide +kernel)
def Kc1131 : Con := ((280, [(2, 0, 0, [5027])], []), [], [(some (0, 7, 7, []), [], [])])
theorem vc1131 {l : Launch} {X : Nat × (Nat → Int32)} {e : Int} (d : Nat) : Vc l X U0 Pt7 e (d + 4) Kc1131 := sorry
def Kc1132 : Con := ((281, [(2, 0, 0, [5027]), (0, 0, 6, [])], []), [], [(some (0, 0, 65535, []), [], [])])
theorem vc1132 {l : Launch} {X : Nat × (Nat → Int32)} {e : Int} (d : Nat) : Vc l X U0 Pt7 e (d + 4) Kc1132 := sorry
def Kc1133 : Con := ((160, [(2, 0, 0, [150]), (2, 0, 0, [5027])], []), [], [(some (0, 0, 0, []), [], []), (some (0, 0, 1, []), [], [])])
set_option maxRecDepth 20000 in
theorem vc1133 {l : Launch} {X : Nat × (Nat → Int32)} {e : Int} (d : Nat) : Vc l X U0 Pt7 e (d + 5) Kc1133 :=
  ck (d := (d + 4)) (Ks := [Kc1131, Kc1132]) (cy := 152) (cd := cdX7_isWord) (nl := 4) (fuel := 1000) (Hs := [((32, 0), ([(0, (2, 0, 0, [150])), (1, (2, 0, 0, [5027])), (2, (0, 1, 0, [])), (3, (0, 2, 0, []))], [], [(0, 0), (0, 1), (0, 7), (7, 7)], [(150, 8, (0, 3, 0, []))]), [(0, 2, 0), (0, 3, 0), (2, 150, 8)], (14, [(2, (-2))]), [])]) (by decide) rfl (fun na b => by rw [← ceX7_isWord]; exact tkX7_isWord) (List.forall_mem_cons.mpr ⟨vc1131 d, List.forall_mem_cons.mpr ⟨vc1132 d, fun _ h => absurd h List.not_mem_nil⟩⟩) (cpyX (d + 4)) (by decide +kernel)
def Kc1134 : Con := ((172, [(2, 0, 0, [150]), (2, 0, 0, [5027]), (0, 1, 1, [])], [(154, 9, (0, 0, 0, []))]), [(150, 9, 10), (150, 13, 13)], [(some (0, 0, 0, []), [], []), (some (0, 1, 1, []), [], [(150, 13, (0, 1, 1, []))])])
set_option maxRecDepth 20000 in
theorem vc1134 {l : Launch} {X : Nat × (Nat → Int32)} {e : Int} (d : Nat) : Vc l X U0 Pt7 e (d + 6) Kc1134 :=
  ck (d := (d + 5)) (Ks := [Kc1133, Kc1112, Kc1113, Kc1111]) (cy := 152) (cd := cdX7_begins) (nl := 3) (fuel := 1000) (Hs := []) (by decide) rfl (fun na b => by rw [← ceX7_begins]; exact tkX7_begins) (List.forall_mem_cons.mpr ⟨vc1133 d, List.forall_mem_cons.mpr ⟨vc1112 (d + 5), List.forall_mem_cons.mpr ⟨vc1113 (d + 4), List.forall_mem_cons.mpr ⟨vc1111 d, fun _ h => absurd h List.not_mem_nil⟩⟩⟩⟩) (cpyX (d + 5)) (by decide +kernel)
def Kc1135 : Con := ((163, [(2, 0, 0, [150])], [(150, 13, (0, 0, 0, []))]), [(150, 9, 10), (150, 13, 13)], [(none, [], [(150, 13, (0, 1, 1, []))]), (none, [], [(150, 13, (0, 0, 0, []))])])
set_option maxRecDepth 20000 in
theorem vc1135 {l : Launch} {X : Nat × (Nat → Int32)} {e : Int} (d : Nat) : Vc l X U0 Pt7 e (d + 6) Kc1135 :=
  ck (d := (d + 5)) (Ks := [Kc1112, Kc1108, Kc1111, Kc1117, Kc1121, Kc1125, Kc1129, Kc1133]) (cy := 152) (cd := cdX7_mustName) (nl := 1) (fuel := 1000) (Hs := []) (by decide) rfl (fun na b => by rw [← ceX7_mustName]; exact tkX7_mustName) (List.forall_mem_cons.mpr ⟨vc1112 (d + 5), List.forall_mem_cons.mpr ⟨vc1108 d, List.forall_mem_cons.mpr ⟨vc1111 d, List.forall_mem_cons.mpr ⟨vc1117 d, List.forall_mem_cons.mpr ⟨vc1121 d, List.forall_mem_cons.mpr ⟨vc1125 d, List.forall_mem_cons.mpr ⟨vc1129 d, List.forall_mem_cons.mpr ⟨vc1133 d, fun _ h => absurd h List.not_mem_nil⟩⟩⟩⟩⟩⟩⟩⟩) (cpyX (d + 5)) (by decide +kernel)
def Kc1136 : Con := ((164, [(2, 0, 0, [150])], []), [], [(some (0, 0, 14, []), [], []), (some (0, (-1), (-1), []), [], [])])
set_option maxRecDepth 20000 in
theorem vc1136 {l : Launch} {X : Nat × (Nat → Int32)} {e : Int} (d : Nat) : Vc l X U0 Pt7 e d Kc1136 :=
  ck (d := d) (Ks := []) (cy := 152) (cd := cdX7_find) (nl := 4) (fuel := 1000) (Hs := [((2, 0), ([(0, (2, 0, 0, [150])), (1, (0, 0, 0, []))], [], [(0, 0)], []), [], (478, []), []), ((44, 0), ([(0, (2, 0, 0, [150])), (1, (0, 1, 0, [])), (2, (0, 0, 0, [])), (3, (0, 2, 0, []))], [], [(0, 0), (0, 14), (0, 8)], []), [(0, 1, 0), (0, 3, 0)], (474, [(1, (-30)), (2, (-3))]), []), ((44, 0), ([(0, (2, 0, 0, [150])), (1, (0, 1, 0, [])), (2, (0, 0, 1, [])), (3, (0, 2, 0, []))], [], [(0, 0), (0, 14), (0, 8), (0, 8)], [(150, 8, (0, 3, 0, []))]), [(0, 1, 0), (0, 3, 0), (2, 150, 8)], (474, [(1, (-30)), (2, (-3))]), []), ((2, 0), ([(0, (2, 0, 0, [150])), (1, (0, 1, 0, []))], [], [(0, 0), (1, 15), (0, 901)], [(150, 8, (0, 2, 0, []))]), [(0, 1, 0), (2, 150, 8)], (478, [(1, (-30))]), [])]) (by decide) rfl (fun na b => by rw [← ceX7_find]; exact tkX7_find) (fun _ h => absurd h List.not_mem_nil) (cpyX d) (by decide +kernel)
def Kc1137 : Con := ((149, [(0, 0, 14, []), (0, 0, 0, []), (0, 5, 5, [])], []), [], [(some (0, 0, 0, []), [(0, 6, 14)], []), (some (0, 1, 1, []), [(0, 0, 5)], [])])
set_option maxRecDepth 20000 in
theorem vc1137 {l : Launch} {X : Nat × (Nat → Int32)} {e : Int} (d : Nat) : Vc l X U0 Pt7 e d Kc1137 :=
  ck (d := d) (Ks := []) (cy := 152) (cd := cdX7_in) (nl := 3) (fuel := 1000) (Hs := []) (by decide) rfl (fun na b => by rw [← ceX7_in]; exact tkX7_in) (fun _ h => absurd h List.not_mem_nil) (cpyX d) (by decide +kernel)
def Kc1138 : Con := ((149, [(0, (-1), (-1), []), (0, 0, 0, []), (0, 5, 5, [])], []), [], [(some (0, 0, 0, []), [], [])])
set_option maxRecDepth 20000 in
theorem vc1138 {l : Launch} {X : Nat × (Nat → Int32)} {e : Int} (d : Nat) : Vc l X U0 Pt7 e d Kc1138 :=
  ck (d := d) (Ks := []) (cy := 152) (cd := cdX7_in) (nl := 3) (fuel := 1000) (Hs := []) (by decide) rfl (fun na b => by rw [← ceX7_in]; exact tkX7_in) (fun _ h => absurd h List.not_mem_nil) (cpyX d) (by decide +kernel)
def Kc1139 : Con := ((166, [(2, 0, 0, [150]), (0, 0, 0, []), (0, 5, 5, [])], []), [(150, 9, 10), (150, 13, 13)], [(some (0, 0, 5, []), [], [])])
set_option maxRecDepth 20000 in
theorem vc1139 {l : Launch} {X : Nat × (Nat → Int32)} {e : Int} (d : Nat) : Vc l X U0 Pt7 e (d + 7) Kc1139 :=
  ck (d := (d + 6)) (Ks := [Kc1135, Kc1136, Kc1137, Kc1112, Kc1138]) (cy := 152) (cd := cdX7_named) (nl := 4) (fuel := 1000) (Hs := []) (by decide) rfl (fun na b => by rw [← ceX7_named]; exact tkX7_named) (List.forall_mem_cons.mpr ⟨vc1135 d, List.forall_mem_cons.mpr ⟨vc1136 (d + 6), List.forall_mem_cons.mpr ⟨vc1137 (d + 6), List.forall_mem_cons.mpr ⟨vc1112 (d + 6), List.forall_mem_cons.mpr ⟨vc1138 (d + 6), fun _ h => absurd h List.not_mem_nil⟩⟩⟩⟩⟩) (cpyX (d + 6)) (by decide +kernel)
def Kc1140 : Con := ((280, [(2, 0, 0, [5041])], []), [], [(some (0, 3, 3, []), [], [])])
theorem vc1140 {l : Launch} {X : Nat × (Nat → Int32)} {e : Int} (d : Nat) : Vc l X U0 Pt7 e (d + 4) Kc1140 := sorry
def Kc1141 : Con := ((281, [(2, 0, 0, [5041]), (0, 0, 2, [])], []), [], [(some (0, 0, 65535, []), [], [])])
theorem vc1141 {l : Launch} {X : Nat × (Nat → Int32)} {e : Int} (d : Nat) : Vc l X U0 Pt7 e (d + 4) Kc1141 := sorry
def Kc1142 : Con := ((160, [(2, 0, 0, [150]), (2, 0, 0, [5041])], []), [], [(some (0, 0, 0, []), [], []), (some (0, 0, 1, []), [], [])])
set_option maxRecDepth 20000 in
theorem vc1142 {l : Launch} {X : Nat × (Nat → Int32)} {e : Int} (d : Nat) : Vc l X U0 Pt7 e (d + 5) Kc1142 :=
  ck (d := (d + 4)) (Ks := [Kc1140, Kc1141]) (cy := 152) (cd := cdX7_isWord) (nl := 4) (fuel := 1000) (Hs := [((32, 0), ([(0, (2, 0, 0, [150])), (1, (2, 0, 0, [5041])), (2, (0, 1, 0, [])), (3, (0, 2, 0, []))], [], [(0, 0), (0, 1), (0, 3), (3, 3)], [(150, 8, (0, 3, 0, []))]), [(0, 2, 0), (0, 3, 0), (2, 150, 8)], (6, [(2, (-2))]), [])]) (by decide) rfl (fun na b => by rw [← ceX7_isWord]; exact tkX7_isWord) (List.forall_mem_cons.mpr ⟨vc1140 d, List.forall_mem_cons.mpr ⟨vc1141 d, fun _ h => absurd h List.not_mem_nil⟩⟩) (cpyX (d + 4)) (by decide +kernel)
def Kc1143 : Con := ((158, [(2, 0, 0, [150])], []), [(150, 4, 8), (152, 0, 7)], [(none, [], [(150, 6, (0, 0, 1, []))]), (none, [], [(150, 6, (0, 2, 2, [])), (150, 8, (0, 0, 8, []))]), (none, [], [(150, 6, (0, 3, 59, []))])])
theorem vc1143 {l : Launch} {X : Nat × (Nat → Int32)} {e : Int} (d : Nat) : Vc l X U0 Pt7 e (d + 2) Kc1143 := sorry
def Kc1144 : Con := ((161, [(2, 0, 0, [150]), (2, 0, 0, [5041])], []), [(150, 4, 8), (152, 0, 7)], [(some (0, 0, 1, []), [], [])])
set_option maxRecDepth 20000 in
theorem vc1144 {l : Launch} {X : Nat × (Nat → Int32)} {e : Int} (d : Nat) : Vc l X U0 Pt7 e (d + 6) Kc1144 :=
  ck (d := (d + 5)) (Ks := [Kc1142, Kc1143]) (cy := 152) (cd := cdX7_takesWord) (nl := 2) (fuel := 1000) (Hs := []) (by decide) rfl (fun na b => by rw [← ceX7_takesWord]; exact tkX7_takesWord) (List.forall_mem_cons.mpr ⟨vc1142 d, List.forall_mem_cons.mpr ⟨vc1143 (d + 3), fun _ h => absurd h List.not_mem_nil⟩⟩) (cpyX (d + 5)) (by decide +kernel)
def Kc1145 : Con := ((162, [(2, 0, 0, [150]), (2, 0, 0, [5041])], []), [(150, 4, 10), (150, 13, 13), (152, 0, 7)], [(none, [], [])])
set_option maxRecDepth 20000 in
theorem vc1145 {l : Launch} {X : Nat × (Nat → Int32)} {e : Int} (d : Nat) : Vc l X U0 Pt7 e (d + 7) Kc1145 :=
  ck (d := (d + 6)) (Ks := [Kc1144, Kc1112]) (cy := 152) (cd := cdX7_must) (nl := 2) (fuel := 1000) (Hs := []) (by decide) rfl (fun na b => by rw [← ceX7_must]; exact tkX7_must) (List.forall_mem_cons.mpr ⟨vc1144 d, List.forall_mem_cons.mpr ⟨vc1112 (d + 6), fun _ h => absurd h List.not_mem_nil⟩⟩) (cpyX (d + 6)) (by decide +kernel)
def Kc1146 : Con := ((149, [(0, iLo, iHi, []), (0, 1, 1, []), (0, 40, 40, [])], []), [], [(some (0, 0, 0, []), [], []), (some (0, 1, 1, []), [(0, 1, 40)], [])])
set_option maxRecDepth 20000 in
theorem vc1146 {l : Launch} {X : Nat × (Nat → Int32)} {e : Int} (d : Nat) : Vc l X U0 Pt7 e d Kc1146 :=
  ck (d := d) (Ks := []) (cy := 152) (cd := cdX7_in) (nl := 3) (fuel := 1000) (Hs := []) (by decide) rfl (fun na b => by rw [← ceX7_in]; exact tkX7_in) (fun _ h => absurd h List.not_mem_nil) (cpyX d) (by decide +kernel)
def Kc1147 : Con := ((168, [(2, 0, 0, [150]), (0, 1, 1, []), (0, 40, 40, [])], []), [(150, 9, 10), (150, 13, 13)], [(some (0, 1, 40, []), [], [])])
set_option maxRecDepth 20000 in
theorem vc1147 {l : Launch} {X : Nat × (Nat → Int32)} {e : Int} (d : Nat) : Vc l X U0 Pt7 e (d + 1) Kc1147 :=
  ck (d := d) (Ks := [Kc1146, Kc1112]) (cy := 152) (cd := cdX7_numberHere) (nl := 3) (fuel := 1000) (Hs := []) (by decide) rfl (fun na b => by rw [← ceX7_numberHere]; exact tkX7_numberHere) (List.forall_mem_cons.mpr ⟨vc1146 d, List.forall_mem_cons.mpr ⟨vc1112 d, fun _ h => absurd h List.not_mem_nil⟩⟩) (cpyX d) (by decide +kernel)
def Kc1148 : Con := ((167, [(2, 0, 0, [150])], []), [(150, 4, 8), (152, 0, 7)], [(none, [], [(150, 13, (0, 1, 1, []))]), (none, [], [(150, 6, (0, 0, 1, [])), (150, 13, (0, 0, 0, []))]), (none, [], [(150, 6, (0, 2, 2, [])), (150, 8, (0, 0, 8, [])), (150, 13, (0, 0, 0, []))]), (none, [], [(150, 6, (0, 3, 59, [])), (150, 13, (0, 0, 0, []))])])
set_option maxRecDepth 20000 in
theorem vc1148 {l : Launch} {X : Nat × (Nat → Int32)} {e : Int} (d : Nat) : Vc l X U0 Pt7 e (d + 3) Kc1148 :=
  ck (d := (d + 2)) (Ks := [Kc1143]) (cy := 152) (cd := cdX7_pass) (nl := 1) (fuel := 1000) (Hs := []) (by decide) rfl (fun na b => by rw [← ceX7_pass]; exact tkX7_pass) (List.forall_mem_cons.mpr ⟨vc1143 d, fun _ h => absurd h List.not_mem_nil⟩) (cpyX (d + 2)) (by decide +kernel)
def Kc1149 : Con := ((169, [(2, 0, 0, [150]), (0, 1, 1, []), (0, 40, 40, [])], []), [(150, 4, 10), (150, 13, 13), (152, 0, 7)], [(some (0, 1, 40, []), [], [])])
set_option maxRecDepth 20000 in
theorem vc1149 {l : Launch} {X : Nat × (Nat → Int32)} {e : Int} (d : Nat) : Vc l X U0 Pt7 e (d + 4) Kc1149 :=
  ck (d := (d + 3)) (Ks := [Kc1147, Kc1148]) (cy := 152) (cd := cdX7_number) (nl := 4) (fuel := 1000) (Hs := []) (by decide) rfl (fun na b => by rw [← ceX7_number]; exact tkX7_number) (List.forall_mem_cons.mpr ⟨vc1147 (d + 2), List.forall_mem_cons.mpr ⟨vc1148 d, fun _ h => absurd h List.not_mem_nil⟩⟩) (cpyX (d + 3)) (by decide +kernel)
def Kc1150 : Con := ((170, [(2, 0, 0, [150]), (2, 0, 0, [5041]), (0, 1, 1, []), (0, 40, 40, [])], []), [(150, 4, 10), (150, 13, 13), (152, 0, 7)], [(some (0, 1, 40, []), [], [])])
set_option maxRecDepth 20000 in
theorem vc1150 {l : Launch} {X : Nat × (Nat → Int32)} {e : Int} (d : Nat) : Vc l X U0 Pt7 e (d + 8) Kc1150 :=
  ck (d := (d + 7)) (Ks := [Kc1145, Kc1149]) (cy := 152) (cd := cdX7_after) (nl := 4) (fuel := 1000) (Hs := []) (by decide) rfl (fun na b => by rw [← ceX7_after]; exact tkX7_after) (List.forall_mem_cons.mpr ⟨vc1145 d, List.forall_mem_cons.mpr ⟨vc1149 (d + 3), fun _ h => absurd h List.not_mem_nil⟩⟩) (cpyX (d + 7)) (by decide +kernel)
def Kc1151 : Con := ((167, [(2, 0, 0, [150])], [(150, 13, (0, 0, 0, []))]), [(150, 4, 8), (152, 0, 7)], [(none, [], [(150, 6, (0, 0, 1, [])), (150, 13, (0, 0, 0, []))]), (none, [], [(150, 6, (0, 2, 2, [])), (150, 8, (0, 0, 8, [])), (150, 13, (0, 0, 0, []))]), (none, [], [(150, 6, (0, 3, 59, [])), (150, 13, (0, 0, 0, []))])])
set_option maxRecDepth 20000 in
theorem vc1151 {l : Launch} {X : Nat × (Nat → Int32)} {e : Int} (d : Nat) : Vc l X U0 Pt7 e (d + 3) Kc1151 :=
  ck (d := (d + 2)) (Ks := [Kc1143]) (cy := 152) (cd := cdX7_pass) (nl := 1) (fuel := 1000) (Hs := []) (by decide) rfl (fun na b => by rw [← ceX7_pass]; exact tkX7_pass) (List.forall_mem_cons.mpr ⟨vc1143 d, fun _ h => absurd h List.not_mem_nil⟩) (cpyX (d + 2)) (by decide +kernel)
def Kc1152 : Con := ((182, [(2, 0, 0, [150])], [(150, 13, (0, 1, 1, []))]), [(150, 4, 10), (150, 13, 13), (152, 0, 7), (154, 8, 8), (154, 61, 66)], [(none, [], [])])
set_option maxRecDepth 20000 in
theorem vc1152 {l : Launch} {X : Nat × (Nat → Int32)} {e : Int} (d : Nat) : Vc l X U0 Pt7 e (d + 9) Kc1152 :=
  ck (d := (d + 8)) (Ks := [Kc1139, Kc1113, Kc1150, Kc1151, Kc1112]) (cy := 152) (cd := cdX7_droppedLine) (nl := 3) (fuel := 1000) (Hs := []) (by decide) rfl (fun na b => by rw [← ceX7_droppedLine]; exact tkX7_droppedLine) (List.forall_mem_cons.mpr ⟨vc1139 (d + 1), List.forall_mem_cons.mpr ⟨vc1113 (d + 7), List.forall_mem_cons.mpr ⟨vc1150 d, List.forall_mem_cons.mpr ⟨vc1151 (d + 5), List.forall_mem_cons.mpr ⟨vc1112 (d + 8), fun _ h => absurd h List.not_mem_nil⟩⟩⟩⟩⟩) (cpyX (d + 8)) (by decide +kernel)
def Kc1153 : Con := ((181, [(2, 0, 0, [150])], [(150, 13, (0, 1, 1, [])), (154, 7, (0, 4, 4, []))]), [], [(none, [], [])])
set_option maxRecDepth 20000 in
theorem vc1153 {l : Launch} {X : Nat × (Nat → Int32)} {e : Int} (d : Nat) : Vc l X U0 Pt7 e (d + 1) Kc1153 :=
  ck (d := d) (Ks := []) (cy := 152) (cd := cdX7_unsureLine) (nl := 4) (fuel := 1000) (Hs := []) (by decide) rfl (fun na b => by rw [← ceX7_unsureLine]; exact tkX7_unsureLine) (fun _ h => absurd h List.not_mem_nil) (cpyX d) (by decide +kernel)
def Kc1154 : Con := ((172, [(2, 0, 0, [150]), (2, 0, 0, [5026]), (0, 1, 1, [])], [(154, 9, (0, 0, 0, []))]), [(150, 9, 10), (150, 13, 13)], [(some (0, 0, 0, []), [], []), (some (0, 1, 1, []), [], [(150, 13, (0, 1, 1, []))])])
set_option maxRecDepth 20000 in
theorem vc1154 {l : Launch} {X : Nat × (Nat → Int32)} {e : Int} (d : Nat) : Vc l X U0 Pt7 e (d + 6) Kc1154 :=
  ck (d := (d + 5)) (Ks := [Kc1129, Kc1112, Kc1113, Kc1111]) (cy := 152) (cd := cdX7_begins) (nl := 3) (fuel := 1000) (Hs := []) (by decide) rfl (fun na b => by rw [← ceX7_begins]; exact tkX7_begins) (List.forall_mem_cons.mpr ⟨vc1129 d, List.forall_mem_cons.mpr ⟨vc1112 (d + 5), List.forall_mem_cons.mpr ⟨vc1113 (d + 4), List.forall_mem_cons.mpr ⟨vc1111 d, fun _ h => absurd h List.not_mem_nil⟩⟩⟩⟩) (cpyX (d + 5)) (by decide +kernel)
def Kc1155 : Con := ((181, [(2, 0, 0, [150])], [(150, 13, (0, 1, 1, [])), (154, 7, (0, 0, 3, []))]), [], [(none, [], [])])
set_option maxRecDepth 20000 in
theorem vc1155 {l : Launch} {X : Nat × (Nat → Int32)} {e : Int} (d : Nat) : Vc l X U0 Pt7 e (d + 1) Kc1155 :=
  ck (d := d) (Ks := []) (cy := 152) (cd := cdX7_unsureLine) (nl := 4) (fuel := 1000) (Hs := []) (by decide) rfl (fun na b => by rw [← ceX7_unsureLine]; exact tkX7_unsureLine) (fun _ h => absurd h List.not_mem_nil) (cpyX d) (by decide +kernel)
def Kc1156 : Con := ((180, [(2, 0, 0, [150])], [(150, 13, (0, 1, 1, [])), (154, 6, (0, 4, 4, []))]), [], [(none, [], [])])
set_option maxRecDepth 20000 in
theorem vc1156 {l : Launch} {X : Nat × (Nat → Int32)} {e : Int} (d : Nat) : Vc l X U0 Pt7 e (d + 1) Kc1156 :=
  ck (d := d) (Ks := []) (cy := 152) (cd := cdX7_walkerLine) (nl := 4) (fuel := 1000) (Hs := []) (by decide) rfl (fun na b => by rw [← ceX7_walkerLine]; exact tkX7_walkerLine) (fun _ h => absurd h List.not_mem_nil) (cpyX d) (by decide +kernel)
def Kc1157 : Con := ((172, [(2, 0, 0, [150]), (2, 0, 0, [5025]), (0, 1, 1, [])], [(154, 9, (0, 0, 0, []))]), [(150, 9, 10), (150, 13, 13)], [(some (0, 0, 0, []), [], []), (some (0, 1, 1, []), [], [(150, 13, (0, 1, 1, []))])])
set_option maxRecDepth 20000 in
theorem vc1157 {l : Launch} {X : Nat × (Nat → Int32)} {e : Int} (d : Nat) : Vc l X U0 Pt7 e (d + 6) Kc1157 :=
  ck (d := (d + 5)) (Ks := [Kc1125, Kc1112, Kc1113, Kc1111]) (cy := 152) (cd := cdX7_begins) (nl := 3) (fuel := 1000) (Hs := []) (by decide) rfl (fun na b => by rw [← ceX7_begins]; exact tkX7_begins) (List.forall_mem_cons.mpr ⟨vc1125 d, List.forall_mem_cons.mpr ⟨vc1112 (d + 5), List.forall_mem_cons.mpr ⟨vc1113 (d + 4), List.forall_mem_cons.mpr ⟨vc1111 d, fun _ h => absurd h List.not_mem_nil⟩⟩⟩⟩) (cpyX (d + 5)) (by decide +kernel)
def Kc1158 : Con := ((180, [(2, 0, 0, [150])], [(150, 13, (0, 1, 1, [])), (154, 6, (0, 0, 3, []))]), [], [(none, [], [])])
set_option maxRecDepth 20000 in
theorem vc1158 {l : Launch} {X : Nat × (Nat → Int32)} {e : Int} (d : Nat) : Vc l X U0 Pt7 e (d + 1) Kc1158 :=
  ck (d := d) (Ks := []) (cy := 152) (cd := cdX7_walkerLine) (nl := 4) (fuel := 1000) (Hs := []) (by decide) rfl (fun na b => by rw [← ceX7_walkerLine]; exact tkX7_walkerLine) (fun _ h => absurd h List.not_mem_nil) (cpyX d) (by decide +kernel)
def Kc1159 : Con := ((178, [(2, 0, 0, [150])], [(150, 13, (0, 1, 1, [])), (154, 5, (0, 0, 0, []))]), [], [(none, [], [(154, 5, (0, 0, 0, []))])])
set_option maxRecDepth 20000 in
theorem vc1159 {l : Launch} {X : Nat × (Nat → Int32)} {e : Int} (d : Nat) : Vc l X U0 Pt7 e (d + 1) Kc1159 :=
  ck (d := d) (Ks := []) (cy := 152) (cd := cdX7_canonLine) (nl := 5) (fuel := 1000) (Hs := []) (by decide) rfl (fun na b => by rw [← ceX7_canonLine]; exact tkX7_canonLine) (fun _ h => absurd h List.not_mem_nil) (cpyX d) (by decide +kernel)
def Kc1160 : Con := ((177, [(2, 0, 0, [150])], [(150, 13, (0, 1, 1, [])), (154, 4, (0, 6, 6, []))]), [], [(none, [], [])])
set_option maxRecDepth 20000 in
theorem vc1160 {l : Launch} {X : Nat × (Nat → Int32)} {e : Int} (d : Nat) : Vc l X U0 Pt7 e (d + 1) Kc1160 :=
  ck (d := d) (Ks := []) (cy := 152) (cd := cdX7_faceLine) (nl := 7) (fuel := 1000) (Hs := []) (by decide) rfl (fun na b => by rw [← ceX7_faceLine]; exact tkX7_faceLine) (fun _ h => absurd h List.not_mem_nil) (cpyX d) (by decide +kernel)
def Kc1161 : Con := ((172, [(2, 0, 0, [150]), (2, 0, 0, [5023]), (0, 1, 1, [])], [(154, 9, (0, 0, 0, []))]), [(150, 9, 10), (150, 13, 13)], [(some (0, 0, 0, []), [], []), (some (0, 1, 1, []), [], [(150, 13, (0, 1, 1, []))])])
set_option maxRecDepth 20000 in
theorem vc1161 {l : Launch} {X : Nat × (Nat → Int32)} {e : Int} (d : Nat) : Vc l X U0 Pt7 e (d + 6) Kc1161 :=
  ck (d := (d + 5)) (Ks := [Kc1117, Kc1112, Kc1113, Kc1111]) (cy := 152) (cd := cdX7_begins) (nl := 3) (fuel := 1000) (Hs := []) (by decide) rfl (fun na b => by rw [← ceX7_begins]; exact tkX7_begins) (List.forall_mem_cons.mpr ⟨vc1117 d, List.forall_mem_cons.mpr ⟨vc1112 (d + 5), List.forall_mem_cons.mpr ⟨vc1113 (d + 4), List.forall_mem_cons.mpr ⟨vc1111 d, fun _ h => absurd h List.not_mem_nil⟩⟩⟩⟩) (cpyX (d + 5)) (by decide +kernel)
def Kc1162 : Con := ((177, [(2, 0, 0, [150])], [(150, 13, (0, 1, 1, [])), (154, 4, (0, 0, 5, []))]), [], [(none, [], [])])
set_option maxRecDepth 20000 in
theorem vc1162 {l : Launch} {X : Nat × (Nat → Int32)} {e : Int} (d : Nat) : Vc l X U0 Pt7 e (d + 1) Kc1162 :=
  ck (d := d) (Ks := []) (cy := 152) (cd := cdX7_faceLine) (nl := 7) (fuel := 1000) (Hs := []) (by decide) rfl (fun na b => by rw [← ceX7_faceLine]; exact tkX7_faceLine) (fun _ h => absurd h List.not_mem_nil) (cpyX d) (by decide +kernel)
def Kc1163 : Con := ((176, [(2, 0, 0, [150])], [(150, 13, (0, 1, 1, []))]), [], [(none, [], [])])
set_option maxRecDepth 20000 in
theorem vc1163 {l : Launch} {X : Nat × (Nat → Int32)} {e : Int} (d : Nat) : Vc l X U0 Pt7 e (d + 1) Kc1163 :=
  ck (d := d) (Ks := []) (cy := 152) (cd := cdX7_wallLine) (nl := 2) (fuel := 1000) (Hs := []) (by decide) rfl (fun na b => by rw [← ceX7_wallLine]; exact tkX7_wallLine) (fun _ h => absurd h List.not_mem_nil) (cpyX d) (by decide +kernel)
def Kc1164 : Con := ((172, [(2, 0, 0, [150]), (2, 0, 0, [5022]), (0, 1, 1, [])], [(154, 9, (0, 0, 0, []))]), [(150, 9, 10), (150, 13, 13)], [(some (0, 0, 0, []), [], []), (some (0, 1, 1, []), [], [(150, 13, (0, 1, 1, []))])])
set_option maxRecDepth 20000 in
theorem vc1164 {l : Launch} {X : Nat × (Nat → Int32)} {e : Int} (d : Nat) : Vc l X U0 Pt7 e (d + 6) Kc1164 :=
  ck (d := (d + 5)) (Ks := [Kc1111, Kc1112, Kc1113]) (cy := 152) (cd := cdX7_begins) (nl := 3) (fuel := 1000) (Hs := []) (by decide) rfl (fun na b => by rw [← ceX7_begins]; exact tkX7_begins) (List.forall_mem_cons.mpr ⟨vc1111 d, List.forall_mem_cons.mpr ⟨vc1112 (d + 5), List.forall_mem_cons.mpr ⟨vc1113 (d + 4), fun _ h => absurd h List.not_mem_nil⟩⟩⟩) (cpyX (d + 5)) (by decide +kernel)
def Kc1165 : Con := ((280, [(2, 0, 0, [5028])], []), [], [(some (0, 4, 4, []), [], [])])
theorem vc1165 {l : Launch} {X : Nat × (Nat → Int32)} {e : Int} (d : Nat) : Vc l X U0 Pt7 e (d + 4) Kc1165 := sorry
def Kc1166 : Con := ((281, [(2, 0, 0, [5028]), (0, 0, 3, [])], []), [], [(some (0, 0, 65535, []), [], [])])
theorem vc1166 {l : Launch} {X : Nat × (Nat → Int32)} {e : Int} (d : Nat) : Vc l X U0 Pt7 e (d + 4) Kc1166 := sorry
def Kc1167 : Con := ((160, [(2, 0, 0, [150]), (2, 0, 0, [5028])], []), [], [(some (0, 0, 0, []), [], []), (some (0, 0, 1, []), [], [])])
set_option maxRecDepth 20000 in
theorem vc1167 {l : Launch} {X : Nat × (Nat → Int32)} {e : Int} (d : Nat) : Vc l X U0 Pt7 e (d + 5) Kc1167 :=
  ck (d := (d + 4)) (Ks := [Kc1165, Kc1166]) (cy := 152) (cd := cdX7_isWord) (nl := 4) (fuel := 1000) (Hs := [((32, 0), ([(0, (2, 0, 0, [150])), (1, (2, 0, 0, [5028])), (2, (0, 1, 0, [])), (3, (0, 2, 0, []))], [], [(0, 0), (0, 1), (0, 4), (4, 4)], [(150, 8, (0, 3, 0, []))]), [(0, 2, 0), (0, 3, 0), (2, 150, 8)], (8, [(2, (-2))]), [])]) (by decide) rfl (fun na b => by rw [← ceX7_isWord]; exact tkX7_isWord) (List.forall_mem_cons.mpr ⟨vc1165 d, List.forall_mem_cons.mpr ⟨vc1166 d, fun _ h => absurd h List.not_mem_nil⟩⟩) (cpyX (d + 4)) (by decide +kernel)
def Kc1168 : Con := ((161, [(2, 0, 0, [150]), (2, 0, 0, [5028])], []), [(150, 4, 8), (152, 0, 7)], [(some (0, 0, 1, []), [], [])])
set_option maxRecDepth 20000 in
theorem vc1168 {l : Launch} {X : Nat × (Nat → Int32)} {e : Int} (d : Nat) : Vc l X U0 Pt7 e (d + 6) Kc1168 :=
  ck (d := (d + 5)) (Ks := [Kc1167, Kc1143]) (cy := 152) (cd := cdX7_takesWord) (nl := 2) (fuel := 1000) (Hs := []) (by decide) rfl (fun na b => by rw [← ceX7_takesWord]; exact tkX7_takesWord) (List.forall_mem_cons.mpr ⟨vc1167 d, List.forall_mem_cons.mpr ⟨vc1143 (d + 3), fun _ h => absurd h List.not_mem_nil⟩⟩) (cpyX (d + 5)) (by decide +kernel)
def Kc1169 : Con := ((162, [(2, 0, 0, [150]), (2, 0, 0, [5028])], []), [(150, 4, 10), (150, 13, 13), (152, 0, 7)], [(none, [], [])])
set_option maxRecDepth 20000 in
theorem vc1169 {l : Launch} {X : Nat × (Nat → Int32)} {e : Int} (d : Nat) : Vc l X U0 Pt7 e (d + 7) Kc1169 :=
  ck (d := (d + 6)) (Ks := [Kc1168, Kc1112]) (cy := 152) (cd := cdX7_must) (nl := 2) (fuel := 1000) (Hs := []) (by decide) rfl (fun na b => by rw [← ceX7_must]; exact tkX7_must) (List.forall_mem_cons.mpr ⟨vc1168 d, List.forall_mem_cons.mpr ⟨vc1112 (d + 6), fun _ h => absurd h List.not_mem_nil⟩⟩) (cpyX (d + 6)) (by decide +kernel)
def Kc1170 : Con := ((149, [(0, iLo, iHi, []), (0, 2, 2, []), (0, 5, 5, [])], []), [], [(some (0, 0, 0, []), [], []), (some (0, 1, 1, []), [(0, 2, 5)], [])])
set_option maxRecDepth 20000 in
theorem vc1170 {l : Launch} {X : Nat × (Nat → Int32)} {e : Int} (d : Nat) : Vc l X U0 Pt7 e d Kc1170 :=
  ck (d := d) (Ks := []) (cy := 152) (cd := cdX7_in) (nl := 3) (fuel := 1000) (Hs := []) (by decide) rfl (fun na b => by rw [← ceX7_in]; exact tkX7_in) (fun _ h => absurd h List.not_mem_nil) (cpyX d) (by decide +kernel)
def Kc1171 : Con := ((168, [(2, 0, 0, [150]), (0, 2, 2, []), (0, 5, 5, [])], []), [(150, 9, 10), (150, 13, 13)], [(some (0, 2, 5, []), [], [])])
set_option maxRecDepth 20000 in
theorem vc1171 {l : Launch} {X : Nat × (Nat → Int32)} {e : Int} (d : Nat) : Vc l X U0 Pt7 e (d + 1) Kc1171 :=
  ck (d := d) (Ks := [Kc1170, Kc1112]) (cy := 152) (cd := cdX7_numberHere) (nl := 3) (fuel := 1000) (Hs := []) (by decide) rfl (fun na b => by rw [← ceX7_numberHere]; exact tkX7_numberHere) (List.forall_mem_cons.mpr ⟨vc1170 d, List.forall_mem_cons.mpr ⟨vc1112 d, fun _ h => absurd h List.not_mem_nil⟩⟩) (cpyX d) (by decide +kernel)
def Kc1172 : Con := ((169, [(2, 0, 0, [150]), (0, 2, 2, []), (0, 5, 5, [])], []), [(150, 4, 10), (150, 13, 13), (152, 0, 7)], [(some (0, 2, 5, []), [], [])])
set_option maxRecDepth 20000 in
theorem vc1172 {l : Launch} {X : Nat × (Nat → Int32)} {e : Int} (d : Nat) : Vc l X U0 Pt7 e (d + 4) Kc1172 :=
  ck (d := (d + 3)) (Ks := [Kc1171, Kc1148]) (cy := 152) (cd := cdX7_number) (nl := 4) (fuel := 1000) (Hs := []) (by decide) rfl (fun na b => by rw [← ceX7_number]; exact tkX7_number) (List.forall_mem_cons.mpr ⟨vc1171 (d + 2), List.forall_mem_cons.mpr ⟨vc1148 d, fun _ h => absurd h List.not_mem_nil⟩⟩) (cpyX (d + 3)) (by decide +kernel)
def Kc1173 : Con := ((170, [(2, 0, 0, [150]), (2, 0, 0, [5028]), (0, 2, 2, []), (0, 5, 5, [])], []), [(150, 4, 10), (150, 13, 13), (152, 0, 7)], [(some (0, 2, 5, []), [], [])])
set_option maxRecDepth 20000 in
theorem vc1173 {l : Launch} {X : Nat × (Nat → Int32)} {e : Int} (d : Nat) : Vc l X U0 Pt7 e (d + 8) Kc1173 :=
  ck (d := (d + 7)) (Ks := [Kc1169, Kc1172]) (cy := 152) (cd := cdX7_after) (nl := 4) (fuel := 1000) (Hs := []) (by decide) rfl (fun na b => by rw [← ceX7_after]; exact tkX7_after) (List.forall_mem_cons.mpr ⟨vc1169 d, List.forall_mem_cons.mpr ⟨vc1172 (d + 3), fun _ h => absurd h List.not_mem_nil⟩⟩) (cpyX (d + 7)) (by decide +kernel)
def Kc1174 : Con := ((280, [(2, 0, 0, [5029])], []), [], [(some (0, 4, 4, []), [], [])])
theorem vc1174 {l : Launch} {X : Nat × (Nat → Int32)} {e : Int} (d : Nat) : Vc l X U0 Pt7 e (d + 4) Kc1174 := sorry
def Kc1175 : Con := ((281, [(2, 0, 0, [5029]), (0, 0, 3, [])], []), [], [(some (0, 0, 65535, []), [], [])])
theorem vc1175 {l : Launch} {X : Nat × (Nat → Int32)} {e : Int} (d : Nat) : Vc l X U0 Pt7 e (d + 4) Kc1175 := sorry
def Kc1176 : Con := ((160, [(2, 0, 0, [150]), (2, 0, 0, [5029])], []), [], [(some (0, 0, 0, []), [], []), (some (0, 0, 1, []), [], [])])
set_option maxRecDepth 20000 in
theorem vc1176 {l : Launch} {X : Nat × (Nat → Int32)} {e : Int} (d : Nat) : Vc l X U0 Pt7 e (d + 5) Kc1176 :=
  ck (d := (d + 4)) (Ks := [Kc1174, Kc1175]) (cy := 152) (cd := cdX7_isWord) (nl := 4) (fuel := 1000) (Hs := [((32, 0), ([(0, (2, 0, 0, [150])), (1, (2, 0, 0, [5029])), (2, (0, 1, 0, [])), (3, (0, 2, 0, []))], [], [(0, 0), (0, 1), (0, 4), (4, 4)], [(150, 8, (0, 3, 0, []))]), [(0, 2, 0), (0, 3, 0), (2, 150, 8)], (8, [(2, (-2))]), [])]) (by decide) rfl (fun na b => by rw [← ceX7_isWord]; exact tkX7_isWord) (List.forall_mem_cons.mpr ⟨vc1174 d, List.forall_mem_cons.mpr ⟨vc1175 d, fun _ h => absurd h List.not_mem_nil⟩⟩) (cpyX (d + 4)) (by decide +kernel)
def Kc1177 : Con := ((161, [(2, 0, 0, [150]), (2, 0, 0, [5029])], []), [(150, 4, 8), (152, 0, 7)], [(some (0, 0, 1, []), [], [])])
set_option maxRecDepth 20000 in
theorem vc1177 {l : Launch} {X : Nat × (Nat → Int32)} {e : Int} (d : Nat) : Vc l X U0 Pt7 e (d + 6) Kc1177 :=
  ck (d := (d + 5)) (Ks := [Kc1176, Kc1143]) (cy := 152) (cd := cdX7_takesWord) (nl := 2) (fuel := 1000) (Hs := []) (by decide) rfl (fun na b => by rw [← ceX7_takesWord]; exact tkX7_takesWord) (List.forall_mem_cons.mpr ⟨vc1176 d, List.forall_mem_cons.mpr ⟨vc1143 (d + 3), fun _ h => absurd h List.not_mem_nil⟩⟩) (cpyX (d + 5)) (by decide +kernel)
def Kc1178 : Con := ((162, [(2, 0, 0, [150]), (2, 0, 0, [5029])], []), [(150, 4, 10), (150, 13, 13), (152, 0, 7)], [(none, [], [])])
set_option maxRecDepth 20000 in
theorem vc1178 {l : Launch} {X : Nat × (Nat → Int32)} {e : Int} (d : Nat) : Vc l X U0 Pt7 e (d + 7) Kc1178 :=
  ck (d := (d + 6)) (Ks := [Kc1177, Kc1112]) (cy := 152) (cd := cdX7_must) (nl := 2) (fuel := 1000) (Hs := []) (by decide) rfl (fun na b => by rw [← ceX7_must]; exact tkX7_must) (List.forall_mem_cons.mpr ⟨vc1177 d, List.forall_mem_cons.mpr ⟨vc1112 (d + 6), fun _ h => absurd h List.not_mem_nil⟩⟩) (cpyX (d + 6)) (by decide +kernel)
def Kc1179 : Con := ((149, [(0, iLo, iHi, []), (0, 2, 2, []), (0, 4, 4, [])], []), [], [(some (0, 0, 0, []), [], []), (some (0, 1, 1, []), [(0, 2, 4)], [])])
set_option maxRecDepth 20000 in
theorem vc1179 {l : Launch} {X : Nat × (Nat → Int32)} {e : Int} (d : Nat) : Vc l X U0 Pt7 e d Kc1179 :=
  ck (d := d) (Ks := []) (cy := 152) (cd := cdX7_in) (nl := 3) (fuel := 1000) (Hs := []) (by decide) rfl (fun na b => by rw [← ceX7_in]; exact tkX7_in) (fun _ h => absurd h List.not_mem_nil) (cpyX d) (by decide +kernel)
def Kc1180 : Con := ((168, [(2, 0, 0, [150]), (0, 2, 2, []), (0, 4, 4, [])], []), [(150, 9, 10), (150, 13, 13)], [(some (0, 2, 4, []), [], [])])
set_option maxRecDepth 20000 in
theorem vc1180 {l : Launch} {X : Nat × (Nat → Int32)} {e : Int} (d : Nat) : Vc l X U0 Pt7 e (d + 1) Kc1180 :=
  ck (d := d) (Ks := [Kc1179, Kc1112]) (cy := 152) (cd := cdX7_numberHere) (nl := 3) (fuel := 1000) (Hs := []) (by decide) rfl (fun na b => by rw [← ceX7_numberHere]; exact tkX7_numberHere) (List.forall_mem_cons.mpr ⟨vc1179 d, List.forall_mem_cons.mpr ⟨vc1112 d, fun _ h => absurd h List.not_mem_nil⟩⟩) (cpyX d) (by decide +kernel)
def Kc1181 : Con := ((169, [(2, 0, 0, [150]), (0, 2, 2, []), (0, 4, 4, [])], []), [(150, 4, 10), (150, 13, 13), (152, 0, 7)], [(some (0, 2, 4, []), [], [])])
set_option maxRecDepth 20000 in
theorem vc1181 {l : Launch} {X : Nat × (Nat → Int32)} {e : Int} (d : Nat) : Vc l X U0 Pt7 e (d + 4) Kc1181 :=
  ck (d := (d + 3)) (Ks := [Kc1180, Kc1148]) (cy := 152) (cd := cdX7_number) (nl := 4) (fuel := 1000) (Hs := []) (by decide) rfl (fun na b => by rw [← ceX7_number]; exact tkX7_number) (List.forall_mem_cons.mpr ⟨vc1180 (d + 2), List.forall_mem_cons.mpr ⟨vc1148 d, fun _ h => absurd h List.not_mem_nil⟩⟩) (cpyX (d + 3)) (by decide +kernel)
def Kc1182 : Con := ((170, [(2, 0, 0, [150]), (2, 0, 0, [5029]), (0, 2, 2, []), (0, 4, 4, [])], []), [(150, 4, 10), (150, 13, 13), (152, 0, 7)], [(some (0, 2, 4, []), [], [])])
set_option maxRecDepth 20000 in
theorem vc1182 {l : Launch} {X : Nat × (Nat → Int32)} {e : Int} (d : Nat) : Vc l X U0 Pt7 e (d + 8) Kc1182 :=
  ck (d := (d + 7)) (Ks := [Kc1178, Kc1181]) (cy := 152) (cd := cdX7_after) (nl := 4) (fuel := 1000) (Hs := []) (by decide) rfl (fun na b => by rw [← ceX7_after]; exact tkX7_after) (List.forall_mem_cons.mpr ⟨vc1178 d, List.forall_mem_cons.mpr ⟨vc1181 (d + 3), fun _ h => absurd h List.not_mem_nil⟩⟩) (cpyX (d + 7)) (by decide +kernel)
def Kc1183 : Con := ((280, [(2, 0, 0, [5030])], []), [], [(some (0, 4, 4, []), [], [])])
theorem vc1183 {l : Launch} {X : Nat × (Nat → Int32)} {e : Int} (d : Nat) : Vc l X U0 Pt7 e (d + 4) Kc1183 := sorry
def Kc1184 : Con := ((281, [(2, 0, 0, [5030]), (0, 0, 3, [])], []), [], [(some (0, 0, 65535, []), [], [])])
theorem vc1184 {l : Launch} {X : Nat × (Nat → Int32)} {e : Int} (d : Nat) : Vc l X U0 Pt7 e (d + 4) Kc1184 := sorry
def Kc1185 : Con := ((160, [(2, 0, 0, [150]), (2, 0, 0, [5030])], []), [], [(some (0, 0, 0, []), [], []), (some (0, 0, 1, []), [], [])])
set_option maxRecDepth 20000 in
theorem vc1185 {l : Launch} {X : Nat × (Nat → Int32)} {e : Int} (d : Nat) : Vc l X U0 Pt7 e (d + 5) Kc1185 :=
  ck (d := (d + 4)) (Ks := [Kc1183, Kc1184]) (cy := 152) (cd := cdX7_isWord) (nl := 4) (fuel := 1000) (Hs := [((32, 0), ([(0, (2, 0, 0, [150])), (1, (2, 0, 0, [5030])), (2, (0, 1, 0, [])), (3, (0, 2, 0, []))], [], [(0, 0), (0, 1), (0, 4), (4, 4)], [(150, 8, (0, 3, 0, []))]), [(0, 2, 0), (0, 3, 0), (2, 150, 8)], (8, [(2, (-2))]), [])]) (by decide) rfl (fun na b => by rw [← ceX7_isWord]; exact tkX7_isWord) (List.forall_mem_cons.mpr ⟨vc1183 d, List.forall_mem_cons.mpr ⟨vc1184 d, fun _ h => absurd h List.not_mem_nil⟩⟩) (cpyX (d + 4)) (by decide +kernel)
def Kc1186 : Con := ((161, [(2, 0, 0, [150]), (2, 0, 0, [5030])], []), [(150, 4, 8), (152, 0, 7)], [(some (0, 0, 1, []), [], [])])
set_option maxRecDepth 20000 in
theorem vc1186 {l : Launch} {X : Nat × (Nat → Int32)} {e : Int} (d : Nat) : Vc l X U0 Pt7 e (d + 6) Kc1186 :=
  ck (d := (d + 5)) (Ks := [Kc1185, Kc1143]) (cy := 152) (cd := cdX7_takesWord) (nl := 2) (fuel := 1000) (Hs := []) (by decide) rfl (fun na b => by rw [← ceX7_takesWord]; exact tkX7_takesWord) (List.forall_mem_cons.mpr ⟨vc1185 d, List.forall_mem_cons.mpr ⟨vc1143 (d + 3), fun _ h => absurd h List.not_mem_nil⟩⟩) (cpyX (d + 5)) (by decide +kernel)
def Kc1187 : Con := ((162, [(2, 0, 0, [150]), (2, 0, 0, [5030])], []), [(150, 4, 10), (150, 13, 13), (152, 0, 7)], [(none, [], [])])
set_option maxRecDepth 20000 in
theorem vc1187 {l : Launch} {X : Nat × (Nat → Int32)} {e : Int} (d : Nat) : Vc l X U0 Pt7 e (d + 7) Kc1187 :=
  ck (d := (d + 6)) (Ks := [Kc1186, Kc1112]) (cy := 152) (cd := cdX7_must) (nl := 2) (fuel := 1000) (Hs := []) (by decide) rfl (fun na b => by rw [← ceX7_must]; exact tkX7_must) (List.forall_mem_cons.mpr ⟨vc1186 d, List.forall_mem_cons.mpr ⟨vc1112 (d + 6), fun _ h => absurd h List.not_mem_nil⟩⟩) (cpyX (d + 6)) (by decide +kernel)
def Kc1188 : Con := ((149, [(0, iLo, iHi, []), (0, 0, 0, []), (0, 100, 100, [])], []), [], [(some (0, 0, 0, []), [], []), (some (0, 1, 1, []), [(0, 0, 100)], [])])
set_option maxRecDepth 20000 in
theorem vc1188 {l : Launch} {X : Nat × (Nat → Int32)} {e : Int} (d : Nat) : Vc l X U0 Pt7 e d Kc1188 :=
  ck (d := d) (Ks := []) (cy := 152) (cd := cdX7_in) (nl := 3) (fuel := 1000) (Hs := []) (by decide) rfl (fun na b => by rw [← ceX7_in]; exact tkX7_in) (fun _ h => absurd h List.not_mem_nil) (cpyX d) (by decide +kernel)
def Kc1189 : Con := ((168, [(2, 0, 0, [150]), (0, 0, 0, []), (0, 100, 100, [])], []), [(150, 9, 10), (150, 13, 13)], [(some (0, 0, 100, []), [], [])])
set_option maxRecDepth 20000 in
theorem vc1189 {l : Launch} {X : Nat × (Nat → Int32)} {e : Int} (d : Nat) : Vc l X U0 Pt7 e (d + 1) Kc1189 :=
  ck (d := d) (Ks := [Kc1188, Kc1112]) (cy := 152) (cd := cdX7_numberHere) (nl := 3) (fuel := 1000) (Hs := []) (by decide) rfl (fun na b => by rw [← ceX7_numberHere]; exact tkX7_numberHere) (List.forall_mem_cons.mpr ⟨vc1188 d, List.forall_mem_cons.mpr ⟨vc1112 d, fun _ h => absurd h List.not_mem_nil⟩⟩) (cpyX d) (by decide +kernel)
def Kc1190 : Con := ((169, [(2, 0, 0, [150]), (0, 0, 0, []), (0, 100, 100, [])], []), [(150, 4, 10), (150, 13, 13), (152, 0, 7)], [(some (0, 0, 100, []), [], [])])
set_option maxRecDepth 20000 in
theorem vc1190 {l : Launch} {X : Nat × (Nat → Int32)} {e : Int} (d : Nat) : Vc l X U0 Pt7 e (d + 4) Kc1190 :=
  ck (d := (d + 3)) (Ks := [Kc1189, Kc1148]) (cy := 152) (cd := cdX7_number) (nl := 4) (fuel := 1000) (Hs := []) (by decide) rfl (fun na b => by rw [← ceX7_number]; exact tkX7_number) (List.forall_mem_cons.mpr ⟨vc1189 (d + 2), List.forall_mem_cons.mpr ⟨vc1148 d, fun _ h => absurd h List.not_mem_nil⟩⟩) (cpyX (d + 3)) (by decide +kernel)
def Kc1191 : Con := ((170, [(2, 0, 0, [150]), (2, 0, 0, [5030]), (0, 0, 0, []), (0, 100, 100, [])], []), [(150, 4, 10), (150, 13, 13), (152, 0, 7)], [(some (0, 0, 100, []), [], [])])
set_option maxRecDepth 20000 in
theorem vc1191 {l : Launch} {X : Nat × (Nat → Int32)} {e : Int} (d : Nat) : Vc l X U0 Pt7 e (d + 8) Kc1191 :=
  ck (d := (d + 7)) (Ks := [Kc1187, Kc1190]) (cy := 152) (cd := cdX7_after) (nl := 4) (fuel := 1000) (Hs := []) (by decide) rfl (fun na b => by rw [← ceX7_after]; exact tkX7_after) (List.forall_mem_cons.mpr ⟨vc1187 d, List.forall_mem_cons.mpr ⟨vc1190 (d + 3), fun _ h => absurd h List.not_mem_nil⟩⟩) (cpyX (d + 7)) (by decide +kernel)
def Kc1192 : Con := ((174, [(2, 0, 0, [150])], [(154, 9, (0, 0, 0, []))]), [(150, 4, 10), (150, 13, 13), (152, 0, 7), (154, 0, 2), (154, 9, 9)], [(none, [], [(154, 9, (0, 0, 0, []))]), (none, [], [(154, 0, (0, 2, 5, [])), (154, 9, (0, 1, 1, []))])])
set_option maxRecDepth 20000 in
theorem vc1192 {l : Launch} {X : Nat × (Nat → Int32)} {e : Int} (d : Nat) : Vc l X U0 Pt7 e (d + 9) Kc1192 :=
  ck (d := (d + 8)) (Ks := [Kc1143, Kc1173, Kc1182, Kc1191]) (cy := 152) (cd := cdX7_closeLine) (nl := 1) (fuel := 1000) (Hs := []) (by decide) rfl (fun na b => by rw [← ceX7_closeLine]; exact tkX7_closeLine) (List.forall_mem_cons.mpr ⟨vc1143 (d + 6), List.forall_mem_cons.mpr ⟨vc1173 d, List.forall_mem_cons.mpr ⟨vc1182 d, List.forall_mem_cons.mpr ⟨vc1191 d, fun _ h => absurd h List.not_mem_nil⟩⟩⟩⟩) (cpyX (d + 8)) (by decide +kernel)
def Kc1193 : Con := ((173, [(2, 0, 0, [150])], [(154, 5, (0, 0, 0, [])), (154, 9, (0, 0, 0, []))]), [(150, 4, 10), (150, 13, 13), (152, 0, 7), (154, 0, 2), (154, 8, 9), (154, 61, 66)], [(none, [], [(154, 5, (0, 0, 0, [])), (154, 9, (0, 0, 0, []))]), (none, [], [(154, 0, (0, 2, 5, [])), (154, 5, (0, 0, 0, [])), (154, 9, (0, 1, 1, []))])])
set_option maxRecDepth 20000 in
theorem vc1193 {l : Launch} {X : Nat × (Nat → Int32)} {e : Int} (d : Nat) : Vc l X U0 Pt7 e (d + 10) Kc1193 :=
  ck (d := (d + 9)) (Ks := [Kc1108, Kc1114, Kc1118, Kc1122, Kc1126, Kc1130, Kc1134, Kc1112, Kc1152, Kc1153, Kc1154, Kc1155, Kc1156, Kc1157, Kc1158, Kc1159, Kc1160, Kc1161, Kc1162, Kc1163, Kc1164, Kc1192]) (cy := 152) (cd := cdX7_readLine) (nl := 1) (fuel := 1000) (Hs := []) (by decide) rfl (fun na b => by rw [← ceX7_readLine]; exact tkX7_readLine) (List.forall_mem_cons.mpr ⟨vc1108 (d + 4), List.forall_mem_cons.mpr ⟨vc1114 (d + 3), List.forall_mem_cons.mpr ⟨vc1118 (d + 3), List.forall_mem_cons.mpr ⟨vc1122 (d + 3), List.forall_mem_cons.mpr ⟨vc1126 (d + 3), List.forall_mem_cons.mpr ⟨vc1130 (d + 3), List.forall_mem_cons.mpr ⟨vc1134 (d + 3), List.forall_mem_cons.mpr ⟨vc1112 (d + 9), List.forall_mem_cons.mpr ⟨vc1152 d, List.forall_mem_cons.mpr ⟨vc1153 (d + 8), List.forall_mem_cons.mpr ⟨vc1154 (d + 3), List.forall_mem_cons.mpr ⟨vc1155 (d + 8), List.forall_mem_cons.mpr ⟨vc1156 (d + 8), List.forall_mem_cons.mpr ⟨vc1157 (d + 3), List.forall_mem_cons.mpr ⟨vc1158 (d + 8), List.forall_mem_cons.mpr ⟨vc1159 (d + 8), List.forall_mem_cons.mpr ⟨vc1160 (d + 8), List.forall_mem_cons.mpr ⟨vc1161 (d + 3), List.forall_mem_cons.mpr ⟨vc1162 (d + 8), List.forall_mem_cons.mpr ⟨vc1163 (d + 8), List.forall_mem_cons.mpr ⟨vc1164 (d + 3), List.forall_mem_cons.mpr ⟨vc1192 d, fun _ h => absurd h List.not_mem_nil⟩⟩⟩⟩⟩⟩⟩⟩⟩⟩⟩⟩⟩⟩⟩⟩⟩⟩⟩⟩⟩⟩) (cpyX (d + 9)) (by decide +kernel)
def Kc1194 : Con := ((172, [(2, 0, 0, [150]), (2, 0, 0, [5022]), (0, 0, 0, [])], [(154, 9, (0, 1, 1, []))]), [(150, 9, 10), (150, 13, 13)], [(some (0, 0, 0, []), [], []), (some (0, 1, 1, []), [], [(150, 13, (0, 1, 1, []))])])
set_option maxRecDepth 20000 in
theorem vc1194 {l : Launch} {X : Nat × (Nat → Int32)} {e : Int} (d : Nat) : Vc l X U0 Pt7 e (d + 6) Kc1194 :=
  ck (d := (d + 5)) (Ks := [Kc1111, Kc1112, Kc1113]) (cy := 152) (cd := cdX7_begins) (nl := 3) (fuel := 1000) (Hs := []) (by decide) rfl (fun na b => by rw [← ceX7_begins]; exact tkX7_begins) (List.forall_mem_cons.mpr ⟨vc1111 d, List.forall_mem_cons.mpr ⟨vc1112 (d + 5), List.forall_mem_cons.mpr ⟨vc1113 (d + 4), fun _ h => absurd h List.not_mem_nil⟩⟩⟩) (cpyX (d + 5)) (by decide +kernel)
def Kc1195 : Con := ((172, [(2, 0, 0, [150]), (2, 0, 0, [5023]), (0, 0, 0, [])], [(154, 9, (0, 1, 1, []))]), [(150, 9, 10), (150, 13, 13)], [(some (0, 0, 0, []), [], []), (some (0, 1, 1, []), [], [(150, 13, (0, 1, 1, []))])])
set_option maxRecDepth 20000 in
theorem vc1195 {l : Launch} {X : Nat × (Nat → Int32)} {e : Int} (d : Nat) : Vc l X U0 Pt7 e (d + 6) Kc1195 :=
  ck (d := (d + 5)) (Ks := [Kc1117, Kc1112, Kc1113, Kc1111]) (cy := 152) (cd := cdX7_begins) (nl := 3) (fuel := 1000) (Hs := []) (by decide) rfl (fun na b => by rw [← ceX7_begins]; exact tkX7_begins) (List.forall_mem_cons.mpr ⟨vc1117 d, List.forall_mem_cons.mpr ⟨vc1112 (d + 5), List.forall_mem_cons.mpr ⟨vc1113 (d + 4), List.forall_mem_cons.mpr ⟨vc1111 d, fun _ h => absurd h List.not_mem_nil⟩⟩⟩⟩) (cpyX (d + 5)) (by decide +kernel)
def Kc1196 : Con := ((172, [(2, 0, 0, [150]), (2, 0, 0, [5024]), (0, 1, 1, [])], [(154, 9, (0, 1, 1, []))]), [(150, 4, 10), (150, 13, 13), (152, 0, 7)], [(some (0, 0, 0, []), [], []), (some (0, 1, 1, []), [], [(150, 13, (0, 1, 1, []))]), (some (0, 1, 1, []), [], [(150, 6, (0, 0, 1, [])), (150, 13, (0, 0, 0, []))]), (some (0, 1, 1, []), [], [(150, 6, (0, 2, 2, [])), (150, 8, (0, 0, 8, [])), (150, 13, (0, 0, 0, []))]), (some (0, 1, 1, []), [], [(150, 6, (0, 3, 59, [])), (150, 13, (0, 0, 0, []))])])
set_option maxRecDepth 20000 in
theorem vc1196 {l : Launch} {X : Nat × (Nat → Int32)} {e : Int} (d : Nat) : Vc l X U0 Pt7 e (d + 6) Kc1196 :=
  ck (d := (d + 5)) (Ks := [Kc1121, Kc1148, Kc1111, Kc1112, Kc1113]) (cy := 152) (cd := cdX7_begins) (nl := 3) (fuel := 1000) (Hs := []) (by decide) rfl (fun na b => by rw [← ceX7_begins]; exact tkX7_begins) (List.forall_mem_cons.mpr ⟨vc1121 d, List.forall_mem_cons.mpr ⟨vc1148 (d + 2), List.forall_mem_cons.mpr ⟨vc1111 d, List.forall_mem_cons.mpr ⟨vc1112 (d + 5), List.forall_mem_cons.mpr ⟨vc1113 (d + 4), fun _ h => absurd h List.not_mem_nil⟩⟩⟩⟩⟩) (cpyX (d + 5)) (by decide +kernel)
def Kc1197 : Con := ((172, [(2, 0, 0, [150]), (2, 0, 0, [5025]), (0, 0, 0, [])], [(154, 9, (0, 1, 1, []))]), [(150, 9, 10), (150, 13, 13)], [(some (0, 0, 0, []), [], []), (some (0, 1, 1, []), [], [(150, 13, (0, 1, 1, []))])])
set_option maxRecDepth 20000 in
theorem vc1197 {l : Launch} {X : Nat × (Nat → Int32)} {e : Int} (d : Nat) : Vc l X U0 Pt7 e (d + 6) Kc1197 :=
  ck (d := (d + 5)) (Ks := [Kc1125, Kc1112, Kc1113, Kc1111]) (cy := 152) (cd := cdX7_begins) (nl := 3) (fuel := 1000) (Hs := []) (by decide) rfl (fun na b => by rw [← ceX7_begins]; exact tkX7_begins) (List.forall_mem_cons.mpr ⟨vc1125 d, List.forall_mem_cons.mpr ⟨vc1112 (d + 5), List.forall_mem_cons.mpr ⟨vc1113 (d + 4), List.forall_mem_cons.mpr ⟨vc1111 d, fun _ h => absurd h List.not_mem_nil⟩⟩⟩⟩) (cpyX (d + 5)) (by decide +kernel)
def Kc1198 : Con := ((172, [(2, 0, 0, [150]), (2, 0, 0, [5026]), (0, 0, 0, [])], [(154, 9, (0, 1, 1, []))]), [(150, 9, 10), (150, 13, 13)], [(some (0, 0, 0, []), [], []), (some (0, 1, 1, []), [], [(150, 13, (0, 1, 1, []))])])
set_option maxRecDepth 20000 in
theorem vc1198 {l : Launch} {X : Nat × (Nat → Int32)} {e : Int} (d : Nat) : Vc l X U0 Pt7 e (d + 6) Kc1198 :=
  ck (d := (d + 5)) (Ks := [Kc1129, Kc1112, Kc1113, Kc1111]) (cy := 152) (cd := cdX7_begins) (nl := 3) (fuel := 1000) (Hs := []) (by decide) rfl (fun na b => by rw [← ceX7_begins]; exact tkX7_begins) (List.forall_mem_cons.mpr ⟨vc1129 d, List.forall_mem_cons.mpr ⟨vc1112 (d + 5), List.forall_mem_cons.mpr ⟨vc1113 (d + 4), List.forall_mem_cons.mpr ⟨vc1111 d, fun _ h => absurd h List.not_mem_nil⟩⟩⟩⟩) (cpyX (d + 5)) (by decide +kernel)
def Kc1199 : Con := ((172, [(2, 0, 0, [150]), (2, 0, 0, [5027]), (0, 1, 1, [])], [(154, 9, (0, 1, 1, []))]), [(150, 4, 10), (150, 13, 13), (152, 0, 7)], [(some (0, 0, 0, []), [], []), (some (0, 1, 1, []), [], [(150, 13, (0, 1, 1, []))]), (some (0, 1, 1, []), [], [(150, 6, (0, 0, 1, [])), (150, 13, (0, 0, 0, []))]), (some (0, 1, 1, []), [], [(150, 6, (0, 2, 2, [])), (150, 8, (0, 0, 8, [])), (150, 13, (0, 0, 0, []))]), (some (0, 1, 1, []), [], [(150, 6, (0, 3, 59, [])), (150, 13, (0, 0, 0, []))])])
set_option maxRecDepth 20000 in
theorem vc1199 {l : Launch} {X : Nat × (Nat → Int32)} {e : Int} (d : Nat) : Vc l X U0 Pt7 e (d + 6) Kc1199 :=
  ck (d := (d + 5)) (Ks := [Kc1133, Kc1148, Kc1111, Kc1112, Kc1113]) (cy := 152) (cd := cdX7_begins) (nl := 3) (fuel := 1000) (Hs := []) (by decide) rfl (fun na b => by rw [← ceX7_begins]; exact tkX7_begins) (List.forall_mem_cons.mpr ⟨vc1133 d, List.forall_mem_cons.mpr ⟨vc1148 (d + 2), List.forall_mem_cons.mpr ⟨vc1111 d, List.forall_mem_cons.mpr ⟨vc1112 (d + 5), List.forall_mem_cons.mpr ⟨vc1113 (d + 4), fun _ h => absurd h List.not_mem_nil⟩⟩⟩⟩⟩) (cpyX (d + 5)) (by decide +kernel)
def Kc1200 : Con := ((182, [(2, 0, 0, [150])], [(150, 13, (0, 0, 0, []))]), [(150, 4, 10), (150, 13, 13), (152, 0, 7), (154, 8, 8), (154, 61, 66)], [(none, [], [])])
set_option maxRecDepth 20000 in
theorem vc1200 {l : Launch} {X : Nat × (Nat → Int32)} {e : Int} (d : Nat) : Vc l X U0 Pt7 e (d + 9) Kc1200 :=
  ck (d := (d + 8)) (Ks := [Kc1139, Kc1113, Kc1150, Kc1151, Kc1112]) (cy := 152) (cd := cdX7_droppedLine) (nl := 3) (fuel := 1000) (Hs := []) (by decide) rfl (fun na b => by rw [← ceX7_droppedLine]; exact tkX7_droppedLine) (List.forall_mem_cons.mpr ⟨vc1139 (d + 1), List.forall_mem_cons.mpr ⟨vc1113 (d + 7), List.forall_mem_cons.mpr ⟨vc1150 d, List.forall_mem_cons.mpr ⟨vc1151 (d + 5), List.forall_mem_cons.mpr ⟨vc1112 (d + 8), fun _ h => absurd h List.not_mem_nil⟩⟩⟩⟩⟩) (cpyX (d + 8)) (by decide +kernel)
def Kc1201 : Con := ((172, [(2, 0, 0, [150]), (2, 0, 0, [5026]), (0, 1, 1, [])], [(154, 9, (0, 1, 1, []))]), [(150, 4, 10), (150, 13, 13), (152, 0, 7)], [(some (0, 0, 0, []), [], []), (some (0, 1, 1, []), [], [(150, 13, (0, 1, 1, []))]), (some (0, 1, 1, []), [], [(150, 6, (0, 0, 1, [])), (150, 13, (0, 0, 0, []))]), (some (0, 1, 1, []), [], [(150, 6, (0, 2, 2, [])), (150, 8, (0, 0, 8, [])), (150, 13, (0, 0, 0, []))]), (some (0, 1, 1, []), [], [(150, 6, (0, 3, 59, [])), (150, 13, (0, 0, 0, []))])])
set_option maxRecDepth 20000 in
theorem vc1201 {l : Launch} {X : Nat × (Nat → Int32)} {e : Int} (d : Nat) : Vc l X U0 Pt7 e (d + 6) Kc1201 :=
  ck (d := (d + 5)) (Ks := [Kc1129, Kc1148, Kc1111, Kc1112, Kc1113]) (cy := 152) (cd := cdX7_begins) (nl := 3) (fuel := 1000) (Hs := []) (by decide) rfl (fun na b => by rw [← ceX7_begins]; exact tkX7_begins) (List.forall_mem_cons.mpr ⟨vc1129 d, List.forall_mem_cons.mpr ⟨vc1148 (d + 2), List.forall_mem_cons.mpr ⟨vc1111 d, List.forall_mem_cons.mpr ⟨vc1112 (d + 5), List.forall_mem_cons.mpr ⟨vc1113 (d + 4), fun _ h => absurd h List.not_mem_nil⟩⟩⟩⟩⟩) (cpyX (d + 5)) (by decide +kernel)
def Kc1202 : Con := ((149, [(0, 0, 14, []), (0, 6, 6, []), (0, 10, 10, [])], []), [], [(some (0, 0, 0, []), [], []), (some (0, 1, 1, []), [(0, 6, 10)], [])])
set_option maxRecDepth 20000 in
theorem vc1202 {l : Launch} {X : Nat × (Nat → Int32)} {e : Int} (d : Nat) : Vc l X U0 Pt7 e d Kc1202 :=
  ck (d := d) (Ks := []) (cy := 152) (cd := cdX7_in) (nl := 3) (fuel := 1000) (Hs := []) (by decide) rfl (fun na b => by rw [← ceX7_in]; exact tkX7_in) (fun _ h => absurd h List.not_mem_nil) (cpyX d) (by decide +kernel)
def Kc1203 : Con := ((149, [(0, (-1), (-1), []), (0, 6, 6, []), (0, 10, 10, [])], []), [], [(some (0, 0, 0, []), [], [])])
set_option maxRecDepth 20000 in
theorem vc1203 {l : Launch} {X : Nat × (Nat → Int32)} {e : Int} (d : Nat) : Vc l X U0 Pt7 e d Kc1203 :=
  ck (d := d) (Ks := []) (cy := 152) (cd := cdX7_in) (nl := 3) (fuel := 1000) (Hs := []) (by decide) rfl (fun na b => by rw [← ceX7_in]; exact tkX7_in) (fun _ h => absurd h List.not_mem_nil) (cpyX d) (by decide +kernel)
def Kc1204 : Con := ((166, [(2, 0, 0, [150]), (0, 6, 6, []), (0, 10, 10, [])], []), [(150, 9, 10), (150, 13, 13)], [(some (0, 0, 4, []), [], [])])
set_option maxRecDepth 20000 in
theorem vc1204 {l : Launch} {X : Nat × (Nat → Int32)} {e : Int} (d : Nat) : Vc l X U0 Pt7 e (d + 7) Kc1204 :=
  ck (d := (d + 6)) (Ks := [Kc1135, Kc1136, Kc1202, Kc1112, Kc1203]) (cy := 152) (cd := cdX7_named) (nl := 4) (fuel := 1000) (Hs := []) (by decide) rfl (fun na b => by rw [← ceX7_named]; exact tkX7_named) (List.forall_mem_cons.mpr ⟨vc1135 d, List.forall_mem_cons.mpr ⟨vc1136 (d + 6), List.forall_mem_cons.mpr ⟨vc1202 (d + 6), List.forall_mem_cons.mpr ⟨vc1112 (d + 6), List.forall_mem_cons.mpr ⟨vc1203 (d + 6), fun _ h => absurd h List.not_mem_nil⟩⟩⟩⟩⟩) (cpyX (d + 6)) (by decide +kernel)
def Kc1205 : Con := ((149, [(0, iLo, iHi, []), (0, 1, 1, []), (0, 30, 30, [])], []), [], [(some (0, 0, 0, []), [], []), (some (0, 1, 1, []), [(0, 1, 30)], [])])
set_option maxRecDepth 20000 in
theorem vc1205 {l : Launch} {X : Nat × (Nat → Int32)} {e : Int} (d : Nat) : Vc l X U0 Pt7 e d Kc1205 :=
  ck (d := d) (Ks := []) (cy := 152) (cd := cdX7_in) (nl := 3) (fuel := 1000) (Hs := []) (by decide) rfl (fun na b => by rw [← ceX7_in]; exact tkX7_in) (fun _ h => absurd h List.not_mem_nil) (cpyX d) (by decide +kernel)
