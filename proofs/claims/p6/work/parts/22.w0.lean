def Kc1121 : Con := ((280, [(2, 0, 0, [5021])], []), [], [(some (0, 5, 5, []), [], [])])
set_option maxRecDepth 20000 in
theorem vc1121 {l : Launch} {X : Nat × (Nat → Int32)} {e : Int} (d : Nat) : Vc l X U0 Pt7 e (d + 4) Kc1121 := vh_len d [5021] 5 5 (by decide +kernel)
def Kc1122 : Con := ((281, [(2, 0, 0, [5021]), (0, 0, 4, [])], []), [], [(some (0, 0, 65535, []), [], [])])
set_option maxRecDepth 20000 in
theorem vc1122 {l : Launch} {X : Nat × (Nat → Int32)} {e : Int} (d : Nat) : Vc l X U0 Pt7 e (d + 4) Kc1122 := vh_char d [5021] 0 4 (by decide +kernel)
def Kc1123 : Con := ((160, [(2, 0, 0, [150]), (2, 0, 0, [5021])], []), [], [(some (0, 0, 0, []), [], []), (some (0, 0, 1, []), [], [])])
set_option maxRecDepth 20000 in
theorem vc1123 {l : Launch} {X : Nat × (Nat → Int32)} {e : Int} (d : Nat) : Vc l X U0 Pt7 e (d + 5) Kc1123 :=
  ck (d := (d + 4)) (Ks := [Kc1121, Kc1122]) (cy := 152) (cd := cdX7_isWord) (nl := 4) (fuel := 1000) (Hs := [((32, 0), ([(0, (2, 0, 0, [150])), (1, (2, 0, 0, [5021])), (2, (0, 1, 0, [])), (3, (0, 2, 0, []))], [], [(0, 0), (0, 1), (0, 5), (5, 5)], [(150, 8, (0, 3, 0, []))]), [(0, 2, 0), (0, 3, 0), (2, 150, 8)], (10, [(2, (-2))]), [])]) (by decide) rfl (fun na b => by rw [← ceX7_isWord]; exact tkX7_isWord) (List.forall_mem_cons.mpr ⟨vc1121 d, List.forall_mem_cons.mpr ⟨vc1122 d, fun _ h => absurd h List.not_mem_nil⟩⟩) (cpyX (d + 4)) (by decide +kernel)
def Kc1124 : Con := ((280, [(2, 0, 0, [5022])], []), [], [(some (0, 4, 4, []), [], [])])
set_option maxRecDepth 20000 in
theorem vc1124 {l : Launch} {X : Nat × (Nat → Int32)} {e : Int} (d : Nat) : Vc l X U0 Pt7 e (d + 4) Kc1124 := vh_len d [5022] 4 4 (by decide +kernel)
def Kc1125 : Con := ((281, [(2, 0, 0, [5022]), (0, 0, 3, [])], []), [], [(some (0, 0, 65535, []), [], [])])
set_option maxRecDepth 20000 in
theorem vc1125 {l : Launch} {X : Nat × (Nat → Int32)} {e : Int} (d : Nat) : Vc l X U0 Pt7 e (d + 4) Kc1125 := vh_char d [5022] 0 3 (by decide +kernel)
def Kc1126 : Con := ((160, [(2, 0, 0, [150]), (2, 0, 0, [5022])], []), [], [(some (0, 0, 0, []), [], []), (some (0, 0, 1, []), [], [])])
set_option maxRecDepth 20000 in
theorem vc1126 {l : Launch} {X : Nat × (Nat → Int32)} {e : Int} (d : Nat) : Vc l X U0 Pt7 e (d + 5) Kc1126 :=
  ck (d := (d + 4)) (Ks := [Kc1124, Kc1125]) (cy := 152) (cd := cdX7_isWord) (nl := 4) (fuel := 1000) (Hs := [((32, 0), ([(0, (2, 0, 0, [150])), (1, (2, 0, 0, [5022])), (2, (0, 1, 0, [])), (3, (0, 2, 0, []))], [], [(0, 0), (0, 1), (0, 4), (4, 4)], [(150, 8, (0, 3, 0, []))]), [(0, 2, 0), (0, 3, 0), (2, 150, 8)], (8, [(2, (-2))]), [])]) (by decide) rfl (fun na b => by rw [← ceX7_isWord]; exact tkX7_isWord) (List.forall_mem_cons.mpr ⟨vc1124 d, List.forall_mem_cons.mpr ⟨vc1125 d, fun _ h => absurd h List.not_mem_nil⟩⟩) (cpyX (d + 4)) (by decide +kernel)
def Kc1127 : Con := ((159, [(2, 0, 0, [150]), (0, iLo, iHi, []), (0, iLo, iHi, [])], []), [(150, 9, 10), (150, 13, 13)], [(none, [], [(150, 13, (0, 1, 1, []))])])
set_option maxRecDepth 20000 in
theorem vc1127 {l : Launch} {X : Nat × (Nat → Int32)} {e : Int} (d : Nat) : Vc l X U0 Pt7 e d Kc1127 :=
  ck (d := d) (Ks := []) (cy := 152) (cd := cdX7_wrong) (nl := 3) (fuel := 1000) (Hs := []) (by decide) rfl (fun na b => by rw [← ceX7_wrong]; exact tkX7_wrong) (fun _ h => absurd h List.not_mem_nil) (cpyX d) (by decide +kernel)
def Kc1128 : Con := ((167, [(2, 0, 0, [150])], [(150, 13, (0, 1, 1, []))]), [], [(none, [], [(150, 13, (0, 1, 1, []))])])
set_option maxRecDepth 20000 in
theorem vc1128 {l : Launch} {X : Nat × (Nat → Int32)} {e : Int} (d : Nat) : Vc l X U0 Pt7 e (d + 1) Kc1128 :=
  ck (d := d) (Ks := []) (cy := 152) (cd := cdX7_pass) (nl := 1) (fuel := 1000) (Hs := []) (by decide) rfl (fun na b => by rw [← ceX7_pass]; exact tkX7_pass) (fun _ h => absurd h List.not_mem_nil) (cpyX d) (by decide +kernel)
def Kc1129 : Con := ((172, [(2, 0, 0, [150]), (2, 0, 0, [5022]), (0, 0, 0, [])], [(154, 9, (0, 0, 0, []))]), [(150, 9, 10), (150, 13, 13)], [(some (0, 0, 0, []), [], []), (some (0, 1, 1, []), [], [(150, 13, (0, 1, 1, []))])])
set_option maxRecDepth 20000 in
theorem vc1129 {l : Launch} {X : Nat × (Nat → Int32)} {e : Int} (d : Nat) : Vc l X U0 Pt7 e (d + 6) Kc1129 :=
  ck (d := (d + 5)) (Ks := [Kc1126, Kc1127, Kc1128]) (cy := 152) (cd := cdX7_begins) (nl := 3) (fuel := 1000) (Hs := []) (by decide) rfl (fun na b => by rw [← ceX7_begins]; exact tkX7_begins) (List.forall_mem_cons.mpr ⟨vc1126 d, List.forall_mem_cons.mpr ⟨vc1127 (d + 5), List.forall_mem_cons.mpr ⟨vc1128 (d + 4), fun _ h => absurd h List.not_mem_nil⟩⟩⟩) (cpyX (d + 5)) (by decide +kernel)
def Kc1130 : Con := ((280, [(2, 0, 0, [5023])], []), [], [(some (0, 4, 4, []), [], [])])
set_option maxRecDepth 20000 in
theorem vc1130 {l : Launch} {X : Nat × (Nat → Int32)} {e : Int} (d : Nat) : Vc l X U0 Pt7 e (d + 4) Kc1130 := vh_len d [5023] 4 4 (by decide +kernel)
def Kc1131 : Con := ((281, [(2, 0, 0, [5023]), (0, 0, 3, [])], []), [], [(some (0, 0, 65535, []), [], [])])
set_option maxRecDepth 20000 in
theorem vc1131 {l : Launch} {X : Nat × (Nat → Int32)} {e : Int} (d : Nat) : Vc l X U0 Pt7 e (d + 4) Kc1131 := vh_char d [5023] 0 3 (by decide +kernel)
def Kc1132 : Con := ((160, [(2, 0, 0, [150]), (2, 0, 0, [5023])], []), [], [(some (0, 0, 0, []), [], []), (some (0, 0, 1, []), [], [])])
set_option maxRecDepth 20000 in
theorem vc1132 {l : Launch} {X : Nat × (Nat → Int32)} {e : Int} (d : Nat) : Vc l X U0 Pt7 e (d + 5) Kc1132 :=
  ck (d := (d + 4)) (Ks := [Kc1130, Kc1131]) (cy := 152) (cd := cdX7_isWord) (nl := 4) (fuel := 1000) (Hs := [((32, 0), ([(0, (2, 0, 0, [150])), (1, (2, 0, 0, [5023])), (2, (0, 1, 0, [])), (3, (0, 2, 0, []))], [], [(0, 0), (0, 1), (0, 4), (4, 4)], [(150, 8, (0, 3, 0, []))]), [(0, 2, 0), (0, 3, 0), (2, 150, 8)], (8, [(2, (-2))]), [])]) (by decide) rfl (fun na b => by rw [← ceX7_isWord]; exact tkX7_isWord) (List.forall_mem_cons.mpr ⟨vc1130 d, List.forall_mem_cons.mpr ⟨vc1131 d, fun _ h => absurd h List.not_mem_nil⟩⟩) (cpyX (d + 4)) (by decide +kernel)
def Kc1133 : Con := ((172, [(2, 0, 0, [150]), (2, 0, 0, [5023]), (0, 0, 0, [])], [(154, 9, (0, 0, 0, []))]), [(150, 9, 10), (150, 13, 13)], [(some (0, 0, 0, []), [], []), (some (0, 1, 1, []), [], [(150, 13, (0, 1, 1, []))])])
set_option maxRecDepth 20000 in
theorem vc1133 {l : Launch} {X : Nat × (Nat → Int32)} {e : Int} (d : Nat) : Vc l X U0 Pt7 e (d + 6) Kc1133 :=
  ck (d := (d + 5)) (Ks := [Kc1132, Kc1127, Kc1128, Kc1126]) (cy := 152) (cd := cdX7_begins) (nl := 3) (fuel := 1000) (Hs := []) (by decide) rfl (fun na b => by rw [← ceX7_begins]; exact tkX7_begins) (List.forall_mem_cons.mpr ⟨vc1132 d, List.forall_mem_cons.mpr ⟨vc1127 (d + 5), List.forall_mem_cons.mpr ⟨vc1128 (d + 4), List.forall_mem_cons.mpr ⟨vc1126 d, fun _ h => absurd h List.not_mem_nil⟩⟩⟩⟩) (cpyX (d + 5)) (by decide +kernel)
def Kc1134 : Con := ((280, [(2, 0, 0, [5024])], []), [], [(some (0, 5, 5, []), [], [])])
set_option maxRecDepth 20000 in
theorem vc1134 {l : Launch} {X : Nat × (Nat → Int32)} {e : Int} (d : Nat) : Vc l X U0 Pt7 e (d + 4) Kc1134 := vh_len d [5024] 5 5 (by decide +kernel)
def Kc1135 : Con := ((281, [(2, 0, 0, [5024]), (0, 0, 4, [])], []), [], [(some (0, 0, 65535, []), [], [])])
set_option maxRecDepth 20000 in
theorem vc1135 {l : Launch} {X : Nat × (Nat → Int32)} {e : Int} (d : Nat) : Vc l X U0 Pt7 e (d + 4) Kc1135 := vh_char d [5024] 0 4 (by decide +kernel)
def Kc1136 : Con := ((160, [(2, 0, 0, [150]), (2, 0, 0, [5024])], []), [], [(some (0, 0, 0, []), [], []), (some (0, 0, 1, []), [], [])])
set_option maxRecDepth 20000 in
theorem vc1136 {l : Launch} {X : Nat × (Nat → Int32)} {e : Int} (d : Nat) : Vc l X U0 Pt7 e (d + 5) Kc1136 :=
  ck (d := (d + 4)) (Ks := [Kc1134, Kc1135]) (cy := 152) (cd := cdX7_isWord) (nl := 4) (fuel := 1000) (Hs := [((32, 0), ([(0, (2, 0, 0, [150])), (1, (2, 0, 0, [5024])), (2, (0, 1, 0, [])), (3, (0, 2, 0, []))], [], [(0, 0), (0, 1), (0, 5), (5, 5)], [(150, 8, (0, 3, 0, []))]), [(0, 2, 0), (0, 3, 0), (2, 150, 8)], (10, [(2, (-2))]), [])]) (by decide) rfl (fun na b => by rw [← ceX7_isWord]; exact tkX7_isWord) (List.forall_mem_cons.mpr ⟨vc1134 d, List.forall_mem_cons.mpr ⟨vc1135 d, fun _ h => absurd h List.not_mem_nil⟩⟩) (cpyX (d + 4)) (by decide +kernel)
def Kc1137 : Con := ((172, [(2, 0, 0, [150]), (2, 0, 0, [5024]), (0, 1, 1, [])], [(154, 9, (0, 0, 0, []))]), [(150, 9, 10), (150, 13, 13)], [(some (0, 0, 0, []), [], []), (some (0, 1, 1, []), [], [(150, 13, (0, 1, 1, []))])])
set_option maxRecDepth 20000 in
theorem vc1137 {l : Launch} {X : Nat × (Nat → Int32)} {e : Int} (d : Nat) : Vc l X U0 Pt7 e (d + 6) Kc1137 :=
  ck (d := (d + 5)) (Ks := [Kc1136, Kc1127, Kc1128, Kc1126]) (cy := 152) (cd := cdX7_begins) (nl := 3) (fuel := 1000) (Hs := []) (by decide) rfl (fun na b => by rw [← ceX7_begins]; exact tkX7_begins) (List.forall_mem_cons.mpr ⟨vc1136 d, List.forall_mem_cons.mpr ⟨vc1127 (d + 5), List.forall_mem_cons.mpr ⟨vc1128 (d + 4), List.forall_mem_cons.mpr ⟨vc1126 d, fun _ h => absurd h List.not_mem_nil⟩⟩⟩⟩) (cpyX (d + 5)) (by decide +kernel)
def Kc1138 : Con := ((280, [(2, 0, 0, [5025])], []), [], [(some (0, 6, 6, []), [], [])])
set_option maxRecDepth 20000 in
theorem vc1138 {l : Launch} {X : Nat × (Nat → Int32)} {e : Int} (d : Nat) : Vc l X U0 Pt7 e (d + 4) Kc1138 := vh_len d [5025] 6 6 (by decide +kernel)
def Kc1139 : Con := ((281, [(2, 0, 0, [5025]), (0, 0, 5, [])], []), [], [(some (0, 0, 65535, []), [], [])])
set_option maxRecDepth 20000 in
theorem vc1139 {l : Launch} {X : Nat × (Nat → Int32)} {e : Int} (d : Nat) : Vc l X U0 Pt7 e (d + 4) Kc1139 := vh_char d [5025] 0 5 (by decide +kernel)
def Kc1140 : Con := ((160, [(2, 0, 0, [150]), (2, 0, 0, [5025])], []), [], [(some (0, 0, 0, []), [], []), (some (0, 0, 1, []), [], [])])
set_option maxRecDepth 20000 in
theorem vc1140 {l : Launch} {X : Nat × (Nat → Int32)} {e : Int} (d : Nat) : Vc l X U0 Pt7 e (d + 5) Kc1140 :=
  ck (d := (d + 4)) (Ks := [Kc1138, Kc1139]) (cy := 152) (cd := cdX7_isWord) (nl := 4) (fuel := 1000) (Hs := [((32, 0), ([(0, (2, 0, 0, [150])), (1, (2, 0, 0, [5025])), (2, (0, 1, 0, [])), (3, (0, 2, 0, []))], [], [(0, 0), (0, 1), (0, 6), (6, 6)], [(150, 8, (0, 3, 0, []))]), [(0, 2, 0), (0, 3, 0), (2, 150, 8)], (12, [(2, (-2))]), [])]) (by decide) rfl (fun na b => by rw [← ceX7_isWord]; exact tkX7_isWord) (List.forall_mem_cons.mpr ⟨vc1138 d, List.forall_mem_cons.mpr ⟨vc1139 d, fun _ h => absurd h List.not_mem_nil⟩⟩) (cpyX (d + 4)) (by decide +kernel)
def Kc1141 : Con := ((172, [(2, 0, 0, [150]), (2, 0, 0, [5025]), (0, 0, 0, [])], [(154, 9, (0, 0, 0, []))]), [(150, 9, 10), (150, 13, 13)], [(some (0, 0, 0, []), [], []), (some (0, 1, 1, []), [], [(150, 13, (0, 1, 1, []))])])
set_option maxRecDepth 20000 in
theorem vc1141 {l : Launch} {X : Nat × (Nat → Int32)} {e : Int} (d : Nat) : Vc l X U0 Pt7 e (d + 6) Kc1141 :=
  ck (d := (d + 5)) (Ks := [Kc1140, Kc1127, Kc1128, Kc1126]) (cy := 152) (cd := cdX7_begins) (nl := 3) (fuel := 1000) (Hs := []) (by decide) rfl (fun na b => by rw [← ceX7_begins]; exact tkX7_begins) (List.forall_mem_cons.mpr ⟨vc1140 d, List.forall_mem_cons.mpr ⟨vc1127 (d + 5), List.forall_mem_cons.mpr ⟨vc1128 (d + 4), List.forall_mem_cons.mpr ⟨vc1126 d, fun _ h => absurd h List.not_mem_nil⟩⟩⟩⟩) (cpyX (d + 5)) (by decide +kernel)
def Kc1142 : Con := ((280, [(2, 0, 0, [5026])], []), [], [(some (0, 6, 6, []), [], [])])
set_option maxRecDepth 20000 in
theorem vc1142 {l : Launch} {X : Nat × (Nat → Int32)} {e : Int} (d : Nat) : Vc l X U0 Pt7 e (d + 4) Kc1142 := vh_len d [5026] 6 6 (by decide +kernel)
def Kc1143 : Con := ((281, [(2, 0, 0, [5026]), (0, 0, 5, [])], []), [], [(some (0, 0, 65535, []), [], [])])
set_option maxRecDepth 20000 in
theorem vc1143 {l : Launch} {X : Nat × (Nat → Int32)} {e : Int} (d : Nat) : Vc l X U0 Pt7 e (d + 4) Kc1143 := vh_char d [5026] 0 5 (by decide +kernel)
def Kc1144 : Con := ((160, [(2, 0, 0, [150]), (2, 0, 0, [5026])], []), [], [(some (0, 0, 0, []), [], []), (some (0, 0, 1, []), [], [])])
set_option maxRecDepth 20000 in
theorem vc1144 {l : Launch} {X : Nat × (Nat → Int32)} {e : Int} (d : Nat) : Vc l X U0 Pt7 e (d + 5) Kc1144 :=
  ck (d := (d + 4)) (Ks := [Kc1142, Kc1143]) (cy := 152) (cd := cdX7_isWord) (nl := 4) (fuel := 1000) (Hs := [((32, 0), ([(0, (2, 0, 0, [150])), (1, (2, 0, 0, [5026])), (2, (0, 1, 0, [])), (3, (0, 2, 0, []))], [], [(0, 0), (0, 1), (0, 6), (6, 6)], [(150, 8, (0, 3, 0, []))]), [(0, 2, 0), (0, 3, 0), (2, 150, 8)], (12, [(2, (-2))]), [])]) (by decide) rfl (fun na b => by rw [← ceX7_isWord]; exact tkX7_isWord) (List.forall_mem_cons.mpr ⟨vc1142 d, List.forall_mem_cons.mpr ⟨vc1143 d, fun _ h => absurd h List.not_mem_nil⟩⟩) (cpyX (d + 4)) (by decide +kernel)
def Kc1145 : Con := ((172, [(2, 0, 0, [150]), (2, 0, 0, [5026]), (0, 0, 0, [])], [(154, 9, (0, 0, 0, []))]), [(150, 9, 10), (150, 13, 13)], [(some (0, 0, 0, []), [], []), (some (0, 1, 1, []), [], [(150, 13, (0, 1, 1, []))])])
set_option maxRecDepth 20000 in
theorem vc1145 {l : Launch} {X : Nat × (Nat → Int32)} {e : Int} (d : Nat) : Vc l X U0 Pt7 e (d + 6) Kc1145 :=
  ck (d := (d + 5)) (Ks := [Kc1144, Kc1127, Kc1128, Kc1126]) (cy := 152) (cd := cdX7_begins) (nl := 3) (fuel := 1000) (Hs := []) (by decide) rfl (fun na b => by rw [← ceX7_begins]; exact tkX7_begins) (List.forall_mem_cons.mpr ⟨vc1144 d, List.forall_mem_cons.mpr ⟨vc1127 (d + 5), List.forall_mem_cons.mpr ⟨vc1128 (d + 4), List.forall_mem_cons.mpr ⟨vc1126 d, fun _ h => absurd h List.not_mem_nil⟩⟩⟩⟩) (cpyX (d + 5)) (by decide +kernel)
def Kc1146 : Con := ((280, [(2, 0, 0, [5027])], []), [], [(some (0, 7, 7, []), [], [])])
set_option maxRecDepth 20000 in
theorem vc1146 {l : Launch} {X : Nat × (Nat → Int32)} {e : Int} (d : Nat) : Vc l X U0 Pt7 e (d + 4) Kc1146 := vh_len d [5027] 7 7 (by decide +kernel)
def Kc1147 : Con := ((281, [(2, 0, 0, [5027]), (0, 0, 6, [])], []), [], [(some (0, 0, 65535, []), [], [])])
set_option maxRecDepth 20000 in
theorem vc1147 {l : Launch} {X : Nat × (Nat → Int32)} {e : Int} (d : Nat) : Vc l X U0 Pt7 e (d + 4) Kc1147 := vh_char d [5027] 0 6 (by decide +kernel)
def Kc1148 : Con := ((160, [(2, 0, 0, [150]), (2, 0, 0, [5027])], []), [], [(some (0, 0, 0, []), [], []), (some (0, 0, 1, []), [], [])])
set_option maxRecDepth 20000 in
theorem vc1148 {l : Launch} {X : Nat × (Nat → Int32)} {e : Int} (d : Nat) : Vc l X U0 Pt7 e (d + 5) Kc1148 :=
  ck (d := (d + 4)) (Ks := [Kc1146, Kc1147]) (cy := 152) (cd := cdX7_isWord) (nl := 4) (fuel := 1000) (Hs := [((32, 0), ([(0, (2, 0, 0, [150])), (1, (2, 0, 0, [5027])), (2, (0, 1, 0, [])), (3, (0, 2, 0, []))], [], [(0, 0), (0, 1), (0, 7), (7, 7)], [(150, 8, (0, 3, 0, []))]), [(0, 2, 0), (0, 3, 0), (2, 150, 8)], (14, [(2, (-2))]), [])]) (by decide) rfl (fun na b => by rw [← ceX7_isWord]; exact tkX7_isWord) (List.forall_mem_cons.mpr ⟨vc1146 d, List.forall_mem_cons.mpr ⟨vc1147 d, fun _ h => absurd h List.not_mem_nil⟩⟩) (cpyX (d + 4)) (by decide +kernel)
def Kc1149 : Con := ((172, [(2, 0, 0, [150]), (2, 0, 0, [5027]), (0, 1, 1, [])], [(154, 9, (0, 0, 0, []))]), [(150, 9, 10), (150, 13, 13)], [(some (0, 0, 0, []), [], []), (some (0, 1, 1, []), [], [(150, 13, (0, 1, 1, []))])])
set_option maxRecDepth 20000 in
theorem vc1149 {l : Launch} {X : Nat × (Nat → Int32)} {e : Int} (d : Nat) : Vc l X U0 Pt7 e (d + 6) Kc1149 :=
  ck (d := (d + 5)) (Ks := [Kc1148, Kc1127, Kc1128, Kc1126]) (cy := 152) (cd := cdX7_begins) (nl := 3) (fuel := 1000) (Hs := []) (by decide) rfl (fun na b => by rw [← ceX7_begins]; exact tkX7_begins) (List.forall_mem_cons.mpr ⟨vc1148 d, List.forall_mem_cons.mpr ⟨vc1127 (d + 5), List.forall_mem_cons.mpr ⟨vc1128 (d + 4), List.forall_mem_cons.mpr ⟨vc1126 d, fun _ h => absurd h List.not_mem_nil⟩⟩⟩⟩) (cpyX (d + 5)) (by decide +kernel)
def Kc1150 : Con := ((163, [(2, 0, 0, [150])], [(150, 13, (0, 0, 0, []))]), [(150, 9, 10), (150, 13, 13)], [(none, [], [(150, 13, (0, 1, 1, []))]), (none, [], [(150, 13, (0, 0, 0, []))])])
set_option maxRecDepth 20000 in
theorem vc1150 {l : Launch} {X : Nat × (Nat → Int32)} {e : Int} (d : Nat) : Vc l X U0 Pt7 e (d + 6) Kc1150 :=
  ck (d := (d + 5)) (Ks := [Kc1127, Kc1123, Kc1126, Kc1132, Kc1136, Kc1140, Kc1144, Kc1148]) (cy := 152) (cd := cdX7_mustName) (nl := 1) (fuel := 1000) (Hs := []) (by decide) rfl (fun na b => by rw [← ceX7_mustName]; exact tkX7_mustName) (List.forall_mem_cons.mpr ⟨vc1127 (d + 5), List.forall_mem_cons.mpr ⟨vc1123 d, List.forall_mem_cons.mpr ⟨vc1126 d, List.forall_mem_cons.mpr ⟨vc1132 d, List.forall_mem_cons.mpr ⟨vc1136 d, List.forall_mem_cons.mpr ⟨vc1140 d, List.forall_mem_cons.mpr ⟨vc1144 d, List.forall_mem_cons.mpr ⟨vc1148 d, fun _ h => absurd h List.not_mem_nil⟩⟩⟩⟩⟩⟩⟩⟩) (cpyX (d + 5)) (by decide +kernel)
def Kc1151 : Con := ((164, [(2, 0, 0, [150])], []), [], [(some (0, 0, 14, []), [], []), (some (0, (-1), (-1), []), [], [])])
set_option maxRecDepth 20000 in
theorem vc1151 {l : Launch} {X : Nat × (Nat → Int32)} {e : Int} (d : Nat) : Vc l X U0 Pt7 e d Kc1151 :=
  ck (d := d) (Ks := []) (cy := 152) (cd := cdX7_find) (nl := 4) (fuel := 1000) (Hs := [((2, 0), ([(0, (2, 0, 0, [150])), (1, (0, 0, 0, []))], [], [(0, 0)], []), [], (478, []), []), ((44, 0), ([(0, (2, 0, 0, [150])), (1, (0, 1, 0, [])), (2, (0, 0, 0, [])), (3, (0, 2, 0, []))], [], [(0, 0), (0, 14), (0, 8)], []), [(0, 1, 0), (0, 3, 0)], (474, [(1, (-30)), (2, (-3))]), []), ((44, 0), ([(0, (2, 0, 0, [150])), (1, (0, 1, 0, [])), (2, (0, 0, 1, [])), (3, (0, 2, 0, []))], [], [(0, 0), (0, 14), (0, 8), (0, 8)], [(150, 8, (0, 3, 0, []))]), [(0, 1, 0), (0, 3, 0), (2, 150, 8)], (474, [(1, (-30)), (2, (-3))]), []), ((2, 0), ([(0, (2, 0, 0, [150])), (1, (0, 1, 0, []))], [], [(0, 0), (1, 15), (0, 901)], [(150, 8, (0, 2, 0, []))]), [(0, 1, 0), (2, 150, 8)], (478, [(1, (-30))]), [])]) (by decide) rfl (fun na b => by rw [← ceX7_find]; exact tkX7_find) (fun _ h => absurd h List.not_mem_nil) (cpyX d) (by decide +kernel)
def Kc1152 : Con := ((149, [(0, 0, 14, []), (0, 0, 0, []), (0, 5, 5, [])], []), [], [(some (0, 0, 0, []), [(0, 6, 14)], []), (some (0, 1, 1, []), [(0, 0, 5)], [])])
set_option maxRecDepth 20000 in
theorem vc1152 {l : Launch} {X : Nat × (Nat → Int32)} {e : Int} (d : Nat) : Vc l X U0 Pt7 e d Kc1152 :=
  ck (d := d) (Ks := []) (cy := 152) (cd := cdX7_in) (nl := 3) (fuel := 1000) (Hs := []) (by decide) rfl (fun na b => by rw [← ceX7_in]; exact tkX7_in) (fun _ h => absurd h List.not_mem_nil) (cpyX d) (by decide +kernel)
def Kc1153 : Con := ((149, [(0, (-1), (-1), []), (0, 0, 0, []), (0, 5, 5, [])], []), [], [(some (0, 0, 0, []), [], [])])
set_option maxRecDepth 20000 in
theorem vc1153 {l : Launch} {X : Nat × (Nat → Int32)} {e : Int} (d : Nat) : Vc l X U0 Pt7 e d Kc1153 :=
  ck (d := d) (Ks := []) (cy := 152) (cd := cdX7_in) (nl := 3) (fuel := 1000) (Hs := []) (by decide) rfl (fun na b => by rw [← ceX7_in]; exact tkX7_in) (fun _ h => absurd h List.not_mem_nil) (cpyX d) (by decide +kernel)
def Kc1154 : Con := ((166, [(2, 0, 0, [150]), (0, 0, 0, []), (0, 5, 5, [])], []), [(150, 9, 10), (150, 13, 13)], [(some (0, 0, 5, []), [], [])])
set_option maxRecDepth 20000 in
theorem vc1154 {l : Launch} {X : Nat × (Nat → Int32)} {e : Int} (d : Nat) : Vc l X U0 Pt7 e (d + 7) Kc1154 :=
  ck (d := (d + 6)) (Ks := [Kc1150, Kc1151, Kc1152, Kc1127, Kc1153]) (cy := 152) (cd := cdX7_named) (nl := 4) (fuel := 1000) (Hs := []) (by decide) rfl (fun na b => by rw [← ceX7_named]; exact tkX7_named) (List.forall_mem_cons.mpr ⟨vc1150 d, List.forall_mem_cons.mpr ⟨vc1151 (d + 6), List.forall_mem_cons.mpr ⟨vc1152 (d + 6), List.forall_mem_cons.mpr ⟨vc1127 (d + 6), List.forall_mem_cons.mpr ⟨vc1153 (d + 6), fun _ h => absurd h List.not_mem_nil⟩⟩⟩⟩⟩) (cpyX (d + 6)) (by decide +kernel)
def Kc1155 : Con := ((280, [(2, 0, 0, [5041])], []), [], [(some (0, 3, 3, []), [], [])])
set_option maxRecDepth 20000 in
theorem vc1155 {l : Launch} {X : Nat × (Nat → Int32)} {e : Int} (d : Nat) : Vc l X U0 Pt7 e (d + 4) Kc1155 := vh_len d [5041] 3 3 (by decide +kernel)
def Kc1156 : Con := ((281, [(2, 0, 0, [5041]), (0, 0, 2, [])], []), [], [(some (0, 0, 65535, []), [], [])])
set_option maxRecDepth 20000 in
theorem vc1156 {l : Launch} {X : Nat × (Nat → Int32)} {e : Int} (d : Nat) : Vc l X U0 Pt7 e (d + 4) Kc1156 := vh_char d [5041] 0 2 (by decide +kernel)
def Kc1157 : Con := ((160, [(2, 0, 0, [150]), (2, 0, 0, [5041])], []), [], [(some (0, 0, 0, []), [], []), (some (0, 0, 1, []), [], [])])
set_option maxRecDepth 20000 in
theorem vc1157 {l : Launch} {X : Nat × (Nat → Int32)} {e : Int} (d : Nat) : Vc l X U0 Pt7 e (d + 5) Kc1157 :=
  ck (d := (d + 4)) (Ks := [Kc1155, Kc1156]) (cy := 152) (cd := cdX7_isWord) (nl := 4) (fuel := 1000) (Hs := [((32, 0), ([(0, (2, 0, 0, [150])), (1, (2, 0, 0, [5041])), (2, (0, 1, 0, [])), (3, (0, 2, 0, []))], [], [(0, 0), (0, 1), (0, 3), (3, 3)], [(150, 8, (0, 3, 0, []))]), [(0, 2, 0), (0, 3, 0), (2, 150, 8)], (6, [(2, (-2))]), [])]) (by decide) rfl (fun na b => by rw [← ceX7_isWord]; exact tkX7_isWord) (List.forall_mem_cons.mpr ⟨vc1155 d, List.forall_mem_cons.mpr ⟨vc1156 d, fun _ h => absurd h List.not_mem_nil⟩⟩) (cpyX (d + 4)) (by decide +kernel)
def Kc1158 : Con := ((158, [(2, 0, 0, [150])], []), [(150, 4, 8), (152, 0, 7)], [(none, [], [(150, 6, (0, 0, 1, []))]), (none, [], [(150, 6, (0, 2, 2, [])), (150, 8, (0, 0, 8, []))]), (none, [], [(150, 6, (0, 3, 59, []))])])
set_option maxRecDepth 20000 in
theorem vc1158 {l : Launch} {X : Nat × (Nat → Int32)} {e : Int} (d : Nat) : Vc l X U0 Pt7 e (d + 2) Kc1158 := vh_next d
def Kc1159 : Con := ((161, [(2, 0, 0, [150]), (2, 0, 0, [5041])], []), [(150, 4, 8), (152, 0, 7)], [(some (0, 0, 1, []), [], [])])
set_option maxRecDepth 20000 in
theorem vc1159 {l : Launch} {X : Nat × (Nat → Int32)} {e : Int} (d : Nat) : Vc l X U0 Pt7 e (d + 6) Kc1159 :=
  ck (d := (d + 5)) (Ks := [Kc1157, Kc1158]) (cy := 152) (cd := cdX7_takesWord) (nl := 2) (fuel := 1000) (Hs := []) (by decide) rfl (fun na b => by rw [← ceX7_takesWord]; exact tkX7_takesWord) (List.forall_mem_cons.mpr ⟨vc1157 d, List.forall_mem_cons.mpr ⟨vc1158 (d + 3), fun _ h => absurd h List.not_mem_nil⟩⟩) (cpyX (d + 5)) (by decide +kernel)
def Kc1160 : Con := ((162, [(2, 0, 0, [150]), (2, 0, 0, [5041])], []), [(150, 4, 10), (150, 13, 13), (152, 0, 7)], [(none, [], [])])
set_option maxRecDepth 20000 in
theorem vc1160 {l : Launch} {X : Nat × (Nat → Int32)} {e : Int} (d : Nat) : Vc l X U0 Pt7 e (d + 7) Kc1160 :=
  ck (d := (d + 6)) (Ks := [Kc1159, Kc1127]) (cy := 152) (cd := cdX7_must) (nl := 2) (fuel := 1000) (Hs := []) (by decide) rfl (fun na b => by rw [← ceX7_must]; exact tkX7_must) (List.forall_mem_cons.mpr ⟨vc1159 d, List.forall_mem_cons.mpr ⟨vc1127 (d + 6), fun _ h => absurd h List.not_mem_nil⟩⟩) (cpyX (d + 6)) (by decide +kernel)
def Kc1161 : Con := ((149, [(0, iLo, iHi, []), (0, 1, 1, []), (0, 40, 40, [])], []), [], [(some (0, 0, 0, []), [], []), (some (0, 1, 1, []), [(0, 1, 40)], [])])
set_option maxRecDepth 20000 in
theorem vc1161 {l : Launch} {X : Nat × (Nat → Int32)} {e : Int} (d : Nat) : Vc l X U0 Pt7 e d Kc1161 :=
  ck (d := d) (Ks := []) (cy := 152) (cd := cdX7_in) (nl := 3) (fuel := 1000) (Hs := []) (by decide) rfl (fun na b => by rw [← ceX7_in]; exact tkX7_in) (fun _ h => absurd h List.not_mem_nil) (cpyX d) (by decide +kernel)
def Kc1162 : Con := ((168, [(2, 0, 0, [150]), (0, 1, 1, []), (0, 40, 40, [])], []), [(150, 9, 10), (150, 13, 13)], [(some (0, 1, 40, []), [], [])])
set_option maxRecDepth 20000 in
theorem vc1162 {l : Launch} {X : Nat × (Nat → Int32)} {e : Int} (d : Nat) : Vc l X U0 Pt7 e (d + 1) Kc1162 :=
  ck (d := d) (Ks := [Kc1161, Kc1127]) (cy := 152) (cd := cdX7_numberHere) (nl := 3) (fuel := 1000) (Hs := []) (by decide) rfl (fun na b => by rw [← ceX7_numberHere]; exact tkX7_numberHere) (List.forall_mem_cons.mpr ⟨vc1161 d, List.forall_mem_cons.mpr ⟨vc1127 d, fun _ h => absurd h List.not_mem_nil⟩⟩) (cpyX d) (by decide +kernel)
def Kc1163 : Con := ((167, [(2, 0, 0, [150])], []), [(150, 4, 8), (152, 0, 7)], [(none, [], [(150, 13, (0, 1, 1, []))]), (none, [], [(150, 6, (0, 0, 1, [])), (150, 13, (0, 0, 0, []))]), (none, [], [(150, 6, (0, 2, 2, [])), (150, 8, (0, 0, 8, [])), (150, 13, (0, 0, 0, []))]), (none, [], [(150, 6, (0, 3, 59, [])), (150, 13, (0, 0, 0, []))])])
set_option maxRecDepth 20000 in
theorem vc1163 {l : Launch} {X : Nat × (Nat → Int32)} {e : Int} (d : Nat) : Vc l X U0 Pt7 e (d + 3) Kc1163 :=
  ck (d := (d + 2)) (Ks := [Kc1158]) (cy := 152) (cd := cdX7_pass) (nl := 1) (fuel := 1000) (Hs := []) (by decide) rfl (fun na b => by rw [← ceX7_pass]; exact tkX7_pass) (List.forall_mem_cons.mpr ⟨vc1158 d, fun _ h => absurd h List.not_mem_nil⟩) (cpyX (d + 2)) (by decide +kernel)
def Kc1164 : Con := ((169, [(2, 0, 0, [150]), (0, 1, 1, []), (0, 40, 40, [])], []), [(150, 4, 10), (150, 13, 13), (152, 0, 7)], [(some (0, 1, 40, []), [], [])])
set_option maxRecDepth 20000 in
theorem vc1164 {l : Launch} {X : Nat × (Nat → Int32)} {e : Int} (d : Nat) : Vc l X U0 Pt7 e (d + 4) Kc1164 :=
  ck (d := (d + 3)) (Ks := [Kc1162, Kc1163]) (cy := 152) (cd := cdX7_number) (nl := 4) (fuel := 1000) (Hs := []) (by decide) rfl (fun na b => by rw [← ceX7_number]; exact tkX7_number) (List.forall_mem_cons.mpr ⟨vc1162 (d + 2), List.forall_mem_cons.mpr ⟨vc1163 d, fun _ h => absurd h List.not_mem_nil⟩⟩) (cpyX (d + 3)) (by decide +kernel)
def Kc1165 : Con := ((170, [(2, 0, 0, [150]), (2, 0, 0, [5041]), (0, 1, 1, []), (0, 40, 40, [])], []), [(150, 4, 10), (150, 13, 13), (152, 0, 7)], [(some (0, 1, 40, []), [], [])])
set_option maxRecDepth 20000 in
theorem vc1165 {l : Launch} {X : Nat × (Nat → Int32)} {e : Int} (d : Nat) : Vc l X U0 Pt7 e (d + 8) Kc1165 :=
  ck (d := (d + 7)) (Ks := [Kc1160, Kc1164]) (cy := 152) (cd := cdX7_after) (nl := 4) (fuel := 1000) (Hs := []) (by decide) rfl (fun na b => by rw [← ceX7_after]; exact tkX7_after) (List.forall_mem_cons.mpr ⟨vc1160 d, List.forall_mem_cons.mpr ⟨vc1164 (d + 3), fun _ h => absurd h List.not_mem_nil⟩⟩) (cpyX (d + 7)) (by decide +kernel)
def Kc1166 : Con := ((167, [(2, 0, 0, [150])], [(150, 13, (0, 0, 0, []))]), [(150, 4, 8), (152, 0, 7)], [(none, [], [(150, 6, (0, 0, 1, [])), (150, 13, (0, 0, 0, []))]), (none, [], [(150, 6, (0, 2, 2, [])), (150, 8, (0, 0, 8, [])), (150, 13, (0, 0, 0, []))]), (none, [], [(150, 6, (0, 3, 59, [])), (150, 13, (0, 0, 0, []))])])
set_option maxRecDepth 20000 in
theorem vc1166 {l : Launch} {X : Nat × (Nat → Int32)} {e : Int} (d : Nat) : Vc l X U0 Pt7 e (d + 3) Kc1166 :=
  ck (d := (d + 2)) (Ks := [Kc1158]) (cy := 152) (cd := cdX7_pass) (nl := 1) (fuel := 1000) (Hs := []) (by decide) rfl (fun na b => by rw [← ceX7_pass]; exact tkX7_pass) (List.forall_mem_cons.mpr ⟨vc1158 d, fun _ h => absurd h List.not_mem_nil⟩) (cpyX (d + 2)) (by decide +kernel)
def Kc1167 : Con := ((182, [(2, 0, 0, [150])], [(150, 13, (0, 1, 1, []))]), [(150, 4, 10), (150, 13, 13), (152, 0, 7), (154, 8, 8), (154, 61, 66)], [(none, [], [])])
set_option maxRecDepth 20000 in
theorem vc1167 {l : Launch} {X : Nat × (Nat → Int32)} {e : Int} (d : Nat) : Vc l X U0 Pt7 e (d + 9) Kc1167 :=
  ck (d := (d + 8)) (Ks := [Kc1154, Kc1128, Kc1165, Kc1166, Kc1127]) (cy := 152) (cd := cdX7_droppedLine) (nl := 3) (fuel := 1000) (Hs := []) (by decide) rfl (fun na b => by rw [← ceX7_droppedLine]; exact tkX7_droppedLine) (List.forall_mem_cons.mpr ⟨vc1154 (d + 1), List.forall_mem_cons.mpr ⟨vc1128 (d + 7), List.forall_mem_cons.mpr ⟨vc1165 d, List.forall_mem_cons.mpr ⟨vc1166 (d + 5), List.forall_mem_cons.mpr ⟨vc1127 (d + 8), fun _ h => absurd h List.not_mem_nil⟩⟩⟩⟩⟩) (cpyX (d + 8)) (by decide +kernel)
def Kc1168 : Con := ((181, [(2, 0, 0, [150])], [(150, 13, (0, 1, 1, [])), (154, 7, (0, 4, 4, []))]), [], [(none, [], [])])
set_option maxRecDepth 20000 in
theorem vc1168 {l : Launch} {X : Nat × (Nat → Int32)} {e : Int} (d : Nat) : Vc l X U0 Pt7 e (d + 1) Kc1168 :=
  ck (d := d) (Ks := []) (cy := 152) (cd := cdX7_unsureLine) (nl := 4) (fuel := 1000) (Hs := []) (by decide) rfl (fun na b => by rw [← ceX7_unsureLine]; exact tkX7_unsureLine) (fun _ h => absurd h List.not_mem_nil) (cpyX d) (by decide +kernel)
def Kc1169 : Con := ((172, [(2, 0, 0, [150]), (2, 0, 0, [5026]), (0, 1, 1, [])], [(154, 9, (0, 0, 0, []))]), [(150, 9, 10), (150, 13, 13)], [(some (0, 0, 0, []), [], []), (some (0, 1, 1, []), [], [(150, 13, (0, 1, 1, []))])])
set_option maxRecDepth 20000 in
theorem vc1169 {l : Launch} {X : Nat × (Nat → Int32)} {e : Int} (d : Nat) : Vc l X U0 Pt7 e (d + 6) Kc1169 :=
  ck (d := (d + 5)) (Ks := [Kc1144, Kc1127, Kc1128, Kc1126]) (cy := 152) (cd := cdX7_begins) (nl := 3) (fuel := 1000) (Hs := []) (by decide) rfl (fun na b => by rw [← ceX7_begins]; exact tkX7_begins) (List.forall_mem_cons.mpr ⟨vc1144 d, List.forall_mem_cons.mpr ⟨vc1127 (d + 5), List.forall_mem_cons.mpr ⟨vc1128 (d + 4), List.forall_mem_cons.mpr ⟨vc1126 d, fun _ h => absurd h List.not_mem_nil⟩⟩⟩⟩) (cpyX (d + 5)) (by decide +kernel)
def Kc1170 : Con := ((181, [(2, 0, 0, [150])], [(150, 13, (0, 1, 1, [])), (154, 7, (0, 0, 3, []))]), [], [(none, [], [])])
set_option maxRecDepth 20000 in
theorem vc1170 {l : Launch} {X : Nat × (Nat → Int32)} {e : Int} (d : Nat) : Vc l X U0 Pt7 e (d + 1) Kc1170 :=
  ck (d := d) (Ks := []) (cy := 152) (cd := cdX7_unsureLine) (nl := 4) (fuel := 1000) (Hs := []) (by decide) rfl (fun na b => by rw [← ceX7_unsureLine]; exact tkX7_unsureLine) (fun _ h => absurd h List.not_mem_nil) (cpyX d) (by decide +kernel)
def Kc1171 : Con := ((180, [(2, 0, 0, [150])], [(150, 13, (0, 1, 1, [])), (154, 6, (0, 4, 4, []))]), [], [(none, [], [])])
set_option maxRecDepth 20000 in
theorem vc1171 {l : Launch} {X : Nat × (Nat → Int32)} {e : Int} (d : Nat) : Vc l X U0 Pt7 e (d + 1) Kc1171 :=
  ck (d := d) (Ks := []) (cy := 152) (cd := cdX7_walkerLine) (nl := 4) (fuel := 1000) (Hs := []) (by decide) rfl (fun na b => by rw [← ceX7_walkerLine]; exact tkX7_walkerLine) (fun _ h => absurd h List.not_mem_nil) (cpyX d) (by decide +kernel)
def Kc1172 : Con := ((172, [(2, 0, 0, [150]), (2, 0, 0, [5025]), (0, 1, 1, [])], [(154, 9, (0, 0, 0, []))]), [(150, 9, 10), (150, 13, 13)], [(some (0, 0, 0, []), [], []), (some (0, 1, 1, []), [], [(150, 13, (0, 1, 1, []))])])
set_option maxRecDepth 20000 in
theorem vc1172 {l : Launch} {X : Nat × (Nat → Int32)} {e : Int} (d : Nat) : Vc l X U0 Pt7 e (d + 6) Kc1172 :=
  ck (d := (d + 5)) (Ks := [Kc1140, Kc1127, Kc1128, Kc1126]) (cy := 152) (cd := cdX7_begins) (nl := 3) (fuel := 1000) (Hs := []) (by decide) rfl (fun na b => by rw [← ceX7_begins]; exact tkX7_begins) (List.forall_mem_cons.mpr ⟨vc1140 d, List.forall_mem_cons.mpr ⟨vc1127 (d + 5), List.forall_mem_cons.mpr ⟨vc1128 (d + 4), List.forall_mem_cons.mpr ⟨vc1126 d, fun _ h => absurd h List.not_mem_nil⟩⟩⟩⟩) (cpyX (d + 5)) (by decide +kernel)
def Kc1173 : Con := ((180, [(2, 0, 0, [150])], [(150, 13, (0, 1, 1, [])), (154, 6, (0, 0, 3, []))]), [], [(none, [], [])])
set_option maxRecDepth 20000 in
theorem vc1173 {l : Launch} {X : Nat × (Nat → Int32)} {e : Int} (d : Nat) : Vc l X U0 Pt7 e (d + 1) Kc1173 :=
  ck (d := d) (Ks := []) (cy := 152) (cd := cdX7_walkerLine) (nl := 4) (fuel := 1000) (Hs := []) (by decide) rfl (fun na b => by rw [← ceX7_walkerLine]; exact tkX7_walkerLine) (fun _ h => absurd h List.not_mem_nil) (cpyX d) (by decide +kernel)
def Kc1174 : Con := ((178, [(2, 0, 0, [150])], [(150, 13, (0, 1, 1, [])), (154, 5, (0, 0, 0, []))]), [], [(none, [], [(154, 5, (0, 0, 0, []))])])
set_option maxRecDepth 20000 in
theorem vc1174 {l : Launch} {X : Nat × (Nat → Int32)} {e : Int} (d : Nat) : Vc l X U0 Pt7 e (d + 1) Kc1174 :=
  ck (d := d) (Ks := []) (cy := 152) (cd := cdX7_canonLine) (nl := 5) (fuel := 1000) (Hs := []) (by decide) rfl (fun na b => by rw [← ceX7_canonLine]; exact tkX7_canonLine) (fun _ h => absurd h List.not_mem_nil) (cpyX d) (by decide +kernel)
def Kc1175 : Con := ((177, [(2, 0, 0, [150])], [(150, 13, (0, 1, 1, [])), (154, 4, (0, 6, 6, []))]), [], [(none, [], [])])
set_option maxRecDepth 20000 in
theorem vc1175 {l : Launch} {X : Nat × (Nat → Int32)} {e : Int} (d : Nat) : Vc l X U0 Pt7 e (d + 1) Kc1175 :=
  ck (d := d) (Ks := []) (cy := 152) (cd := cdX7_faceLine) (nl := 7) (fuel := 1000) (Hs := []) (by decide) rfl (fun na b => by rw [← ceX7_faceLine]; exact tkX7_faceLine) (fun _ h => absurd h List.not_mem_nil) (cpyX d) (by decide +kernel)
def Kc1176 : Con := ((172, [(2, 0, 0, [150]), (2, 0, 0, [5023]), (0, 1, 1, [])], [(154, 9, (0, 0, 0, []))]), [(150, 9, 10), (150, 13, 13)], [(some (0, 0, 0, []), [], []), (some (0, 1, 1, []), [], [(150, 13, (0, 1, 1, []))])])
set_option maxRecDepth 20000 in
theorem vc1176 {l : Launch} {X : Nat × (Nat → Int32)} {e : Int} (d : Nat) : Vc l X U0 Pt7 e (d + 6) Kc1176 :=
  ck (d := (d + 5)) (Ks := [Kc1132, Kc1127, Kc1128, Kc1126]) (cy := 152) (cd := cdX7_begins) (nl := 3) (fuel := 1000) (Hs := []) (by decide) rfl (fun na b => by rw [← ceX7_begins]; exact tkX7_begins) (List.forall_mem_cons.mpr ⟨vc1132 d, List.forall_mem_cons.mpr ⟨vc1127 (d + 5), List.forall_mem_cons.mpr ⟨vc1128 (d + 4), List.forall_mem_cons.mpr ⟨vc1126 d, fun _ h => absurd h List.not_mem_nil⟩⟩⟩⟩) (cpyX (d + 5)) (by decide +kernel)
def Kc1177 : Con := ((177, [(2, 0, 0, [150])], [(150, 13, (0, 1, 1, [])), (154, 4, (0, 0, 5, []))]), [], [(none, [], [])])
set_option maxRecDepth 20000 in
theorem vc1177 {l : Launch} {X : Nat × (Nat → Int32)} {e : Int} (d : Nat) : Vc l X U0 Pt7 e (d + 1) Kc1177 :=
  ck (d := d) (Ks := []) (cy := 152) (cd := cdX7_faceLine) (nl := 7) (fuel := 1000) (Hs := []) (by decide) rfl (fun na b => by rw [← ceX7_faceLine]; exact tkX7_faceLine) (fun _ h => absurd h List.not_mem_nil) (cpyX d) (by decide +kernel)
def Kc1178 : Con := ((176, [(2, 0, 0, [150])], [(150, 13, (0, 1, 1, []))]), [], [(none, [], [])])
set_option maxRecDepth 20000 in
theorem vc1178 {l : Launch} {X : Nat × (Nat → Int32)} {e : Int} (d : Nat) : Vc l X U0 Pt7 e (d + 1) Kc1178 :=
  ck (d := d) (Ks := []) (cy := 152) (cd := cdX7_wallLine) (nl := 2) (fuel := 1000) (Hs := []) (by decide) rfl (fun na b => by rw [← ceX7_wallLine]; exact tkX7_wallLine) (fun _ h => absurd h List.not_mem_nil) (cpyX d) (by decide +kernel)
def Kc1179 : Con := ((172, [(2, 0, 0, [150]), (2, 0, 0, [5022]), (0, 1, 1, [])], [(154, 9, (0, 0, 0, []))]), [(150, 9, 10), (150, 13, 13)], [(some (0, 0, 0, []), [], []), (some (0, 1, 1, []), [], [(150, 13, (0, 1, 1, []))])])
set_option maxRecDepth 20000 in
theorem vc1179 {l : Launch} {X : Nat × (Nat → Int32)} {e : Int} (d : Nat) : Vc l X U0 Pt7 e (d + 6) Kc1179 :=
  ck (d := (d + 5)) (Ks := [Kc1126, Kc1127, Kc1128]) (cy := 152) (cd := cdX7_begins) (nl := 3) (fuel := 1000) (Hs := []) (by decide) rfl (fun na b => by rw [← ceX7_begins]; exact tkX7_begins) (List.forall_mem_cons.mpr ⟨vc1126 d, List.forall_mem_cons.mpr ⟨vc1127 (d + 5), List.forall_mem_cons.mpr ⟨vc1128 (d + 4), fun _ h => absurd h List.not_mem_nil⟩⟩⟩) (cpyX (d + 5)) (by decide +kernel)
def Kc1180 : Con := ((280, [(2, 0, 0, [5028])], []), [], [(some (0, 4, 4, []), [], [])])
set_option maxRecDepth 20000 in
theorem vc1180 {l : Launch} {X : Nat × (Nat → Int32)} {e : Int} (d : Nat) : Vc l X U0 Pt7 e (d + 4) Kc1180 := vh_len d [5028] 4 4 (by decide +kernel)
def Kc1181 : Con := ((281, [(2, 0, 0, [5028]), (0, 0, 3, [])], []), [], [(some (0, 0, 65535, []), [], [])])
set_option maxRecDepth 20000 in
theorem vc1181 {l : Launch} {X : Nat × (Nat → Int32)} {e : Int} (d : Nat) : Vc l X U0 Pt7 e (d + 4) Kc1181 := vh_char d [5028] 0 3 (by decide +kernel)
def Kc1182 : Con := ((160, [(2, 0, 0, [150]), (2, 0, 0, [5028])], []), [], [(some (0, 0, 0, []), [], []), (some (0, 0, 1, []), [], [])])
set_option maxRecDepth 20000 in
theorem vc1182 {l : Launch} {X : Nat × (Nat → Int32)} {e : Int} (d : Nat) : Vc l X U0 Pt7 e (d + 5) Kc1182 :=
  ck (d := (d + 4)) (Ks := [Kc1180, Kc1181]) (cy := 152) (cd := cdX7_isWord) (nl := 4) (fuel := 1000) (Hs := [((32, 0), ([(0, (2, 0, 0, [150])), (1, (2, 0, 0, [5028])), (2, (0, 1, 0, [])), (3, (0, 2, 0, []))], [], [(0, 0), (0, 1), (0, 4), (4, 4)], [(150, 8, (0, 3, 0, []))]), [(0, 2, 0), (0, 3, 0), (2, 150, 8)], (8, [(2, (-2))]), [])]) (by decide) rfl (fun na b => by rw [← ceX7_isWord]; exact tkX7_isWord) (List.forall_mem_cons.mpr ⟨vc1180 d, List.forall_mem_cons.mpr ⟨vc1181 d, fun _ h => absurd h List.not_mem_nil⟩⟩) (cpyX (d + 4)) (by decide +kernel)
def Kc1183 : Con := ((161, [(2, 0, 0, [150]), (2, 0, 0, [5028])], []), [(150, 4, 8), (152, 0, 7)], [(some (0, 0, 1, []), [], [])])
set_option maxRecDepth 20000 in
theorem vc1183 {l : Launch} {X : Nat × (Nat → Int32)} {e : Int} (d : Nat) : Vc l X U0 Pt7 e (d + 6) Kc1183 :=
  ck (d := (d + 5)) (Ks := [Kc1182, Kc1158]) (cy := 152) (cd := cdX7_takesWord) (nl := 2) (fuel := 1000) (Hs := []) (by decide) rfl (fun na b => by rw [← ceX7_takesWord]; exact tkX7_takesWord) (List.forall_mem_cons.mpr ⟨vc1182 d, List.forall_mem_cons.mpr ⟨vc1158 (d + 3), fun _ h => absurd h List.not_mem_nil⟩⟩) (cpyX (d + 5)) (by decide +kernel)
def Kc1184 : Con := ((162, [(2, 0, 0, [150]), (2, 0, 0, [5028])], []), [(150, 4, 10), (150, 13, 13), (152, 0, 7)], [(none, [], [])])
set_option maxRecDepth 20000 in
theorem vc1184 {l : Launch} {X : Nat × (Nat → Int32)} {e : Int} (d : Nat) : Vc l X U0 Pt7 e (d + 7) Kc1184 :=
  ck (d := (d + 6)) (Ks := [Kc1183, Kc1127]) (cy := 152) (cd := cdX7_must) (nl := 2) (fuel := 1000) (Hs := []) (by decide) rfl (fun na b => by rw [← ceX7_must]; exact tkX7_must) (List.forall_mem_cons.mpr ⟨vc1183 d, List.forall_mem_cons.mpr ⟨vc1127 (d + 6), fun _ h => absurd h List.not_mem_nil⟩⟩) (cpyX (d + 6)) (by decide +kernel)
def Kc1185 : Con := ((149, [(0, iLo, iHi, []), (0, 2, 2, []), (0, 5, 5, [])], []), [], [(some (0, 0, 0, []), [], []), (some (0, 1, 1, []), [(0, 2, 5)], [])])
set_option maxRecDepth 20000 in
theorem vc1185 {l : Launch} {X : Nat × (Nat → Int32)} {e : Int} (d : Nat) : Vc l X U0 Pt7 e d Kc1185 :=
  ck (d := d) (Ks := []) (cy := 152) (cd := cdX7_in) (nl := 3) (fuel := 1000) (Hs := []) (by decide) rfl (fun na b => by rw [← ceX7_in]; exact tkX7_in) (fun _ h => absurd h List.not_mem_nil) (cpyX d) (by decide +kernel)
def Kc1186 : Con := ((168, [(2, 0, 0, [150]), (0, 2, 2, []), (0, 5, 5, [])], []), [(150, 9, 10), (150, 13, 13)], [(some (0, 2, 5, []), [], [])])
set_option maxRecDepth 20000 in
theorem vc1186 {l : Launch} {X : Nat × (Nat → Int32)} {e : Int} (d : Nat) : Vc l X U0 Pt7 e (d + 1) Kc1186 :=
  ck (d := d) (Ks := [Kc1185, Kc1127]) (cy := 152) (cd := cdX7_numberHere) (nl := 3) (fuel := 1000) (Hs := []) (by decide) rfl (fun na b => by rw [← ceX7_numberHere]; exact tkX7_numberHere) (List.forall_mem_cons.mpr ⟨vc1185 d, List.forall_mem_cons.mpr ⟨vc1127 d, fun _ h => absurd h List.not_mem_nil⟩⟩) (cpyX d) (by decide +kernel)
def Kc1187 : Con := ((169, [(2, 0, 0, [150]), (0, 2, 2, []), (0, 5, 5, [])], []), [(150, 4, 10), (150, 13, 13), (152, 0, 7)], [(some (0, 2, 5, []), [], [])])
set_option maxRecDepth 20000 in
theorem vc1187 {l : Launch} {X : Nat × (Nat → Int32)} {e : Int} (d : Nat) : Vc l X U0 Pt7 e (d + 4) Kc1187 :=
  ck (d := (d + 3)) (Ks := [Kc1186, Kc1163]) (cy := 152) (cd := cdX7_number) (nl := 4) (fuel := 1000) (Hs := []) (by decide) rfl (fun na b => by rw [← ceX7_number]; exact tkX7_number) (List.forall_mem_cons.mpr ⟨vc1186 (d + 2), List.forall_mem_cons.mpr ⟨vc1163 d, fun _ h => absurd h List.not_mem_nil⟩⟩) (cpyX (d + 3)) (by decide +kernel)
def Kc1188 : Con := ((170, [(2, 0, 0, [150]), (2, 0, 0, [5028]), (0, 2, 2, []), (0, 5, 5, [])], []), [(150, 4, 10), (150, 13, 13), (152, 0, 7)], [(some (0, 2, 5, []), [], [])])
set_option maxRecDepth 20000 in
theorem vc1188 {l : Launch} {X : Nat × (Nat → Int32)} {e : Int} (d : Nat) : Vc l X U0 Pt7 e (d + 8) Kc1188 :=
  ck (d := (d + 7)) (Ks := [Kc1184, Kc1187]) (cy := 152) (cd := cdX7_after) (nl := 4) (fuel := 1000) (Hs := []) (by decide) rfl (fun na b => by rw [← ceX7_after]; exact tkX7_after) (List.forall_mem_cons.mpr ⟨vc1184 d, List.forall_mem_cons.mpr ⟨vc1187 (d + 3), fun _ h => absurd h List.not_mem_nil⟩⟩) (cpyX (d + 7)) (by decide +kernel)
def Kc1189 : Con := ((280, [(2, 0, 0, [5029])], []), [], [(some (0, 4, 4, []), [], [])])
set_option maxRecDepth 20000 in
theorem vc1189 {l : Launch} {X : Nat × (Nat → Int32)} {e : Int} (d : Nat) : Vc l X U0 Pt7 e (d + 4) Kc1189 := vh_len d [5029] 4 4 (by decide +kernel)
def Kc1190 : Con := ((281, [(2, 0, 0, [5029]), (0, 0, 3, [])], []), [], [(some (0, 0, 65535, []), [], [])])
set_option maxRecDepth 20000 in
theorem vc1190 {l : Launch} {X : Nat × (Nat → Int32)} {e : Int} (d : Nat) : Vc l X U0 Pt7 e (d + 4) Kc1190 := vh_char d [5029] 0 3 (by decide +kernel)
def Kc1191 : Con := ((160, [(2, 0, 0, [150]), (2, 0, 0, [5029])], []), [], [(some (0, 0, 0, []), [], []), (some (0, 0, 1, []), [], [])])
set_option maxRecDepth 20000 in
theorem vc1191 {l : Launch} {X : Nat × (Nat → Int32)} {e : Int} (d : Nat) : Vc l X U0 Pt7 e (d + 5) Kc1191 :=
  ck (d := (d + 4)) (Ks := [Kc1189, Kc1190]) (cy := 152) (cd := cdX7_isWord) (nl := 4) (fuel := 1000) (Hs := [((32, 0), ([(0, (2, 0, 0, [150])), (1, (2, 0, 0, [5029])), (2, (0, 1, 0, [])), (3, (0, 2, 0, []))], [], [(0, 0), (0, 1), (0, 4), (4, 4)], [(150, 8, (0, 3, 0, []))]), [(0, 2, 0), (0, 3, 0), (2, 150, 8)], (8, [(2, (-2))]), [])]) (by decide) rfl (fun na b => by rw [← ceX7_isWord]; exact tkX7_isWord) (List.forall_mem_cons.mpr ⟨vc1189 d, List.forall_mem_cons.mpr ⟨vc1190 d, fun _ h => absurd h List.not_mem_nil⟩⟩) (cpyX (d + 4)) (by decide +kernel)
def Kc1192 : Con := ((161, [(2, 0, 0, [150]), (2, 0, 0, [5029])], []), [(150, 4, 8), (152, 0, 7)], [(some (0, 0, 1, []), [], [])])
set_option maxRecDepth 20000 in
theorem vc1192 {l : Launch} {X : Nat × (Nat → Int32)} {e : Int} (d : Nat) : Vc l X U0 Pt7 e (d + 6) Kc1192 :=
  ck (d := (d + 5)) (Ks := [Kc1191, Kc1158]) (cy := 152) (cd := cdX7_takesWord) (nl := 2) (fuel := 1000) (Hs := []) (by decide) rfl (fun na b => by rw [← ceX7_takesWord]; exact tkX7_takesWord) (List.forall_mem_cons.mpr ⟨vc1191 d, List.forall_mem_cons.mpr ⟨vc1158 (d + 3), fun _ h => absurd h List.not_mem_nil⟩⟩) (cpyX (d + 5)) (by decide +kernel)
def Kc1193 : Con := ((162, [(2, 0, 0, [150]), (2, 0, 0, [5029])], []), [(150, 4, 10), (150, 13, 13), (152, 0, 7)], [(none, [], [])])
set_option maxRecDepth 20000 in
theorem vc1193 {l : Launch} {X : Nat × (Nat → Int32)} {e : Int} (d : Nat) : Vc l X U0 Pt7 e (d + 7) Kc1193 :=
  ck (d := (d + 6)) (Ks := [Kc1192, Kc1127]) (cy := 152) (cd := cdX7_must) (nl := 2) (fuel := 1000) (Hs := []) (by decide) rfl (fun na b => by rw [← ceX7_must]; exact tkX7_must) (List.forall_mem_cons.mpr ⟨vc1192 d, List.forall_mem_cons.mpr ⟨vc1127 (d + 6), fun _ h => absurd h List.not_mem_nil⟩⟩) (cpyX (d + 6)) (by decide +kernel)
def Kc1194 : Con := ((149, [(0, iLo, iHi, []), (0, 2, 2, []), (0, 4, 4, [])], []), [], [(some (0, 0, 0, []), [], []), (some (0, 1, 1, []), [(0, 2, 4)], [])])
set_option maxRecDepth 20000 in
theorem vc1194 {l : Launch} {X : Nat × (Nat → Int32)} {e : Int} (d : Nat) : Vc l X U0 Pt7 e d Kc1194 :=
  ck (d := d) (Ks := []) (cy := 152) (cd := cdX7_in) (nl := 3) (fuel := 1000) (Hs := []) (by decide) rfl (fun na b => by rw [← ceX7_in]; exact tkX7_in) (fun _ h => absurd h List.not_mem_nil) (cpyX d) (by decide +kernel)
def Kc1195 : Con := ((168, [(2, 0, 0, [150]), (0, 2, 2, []), (0, 4, 4, [])], []), [(150, 9, 10), (150, 13, 13)], [(some (0, 2, 4, []), [], [])])
set_option maxRecDepth 20000 in
theorem vc1195 {l : Launch} {X : Nat × (Nat → Int32)} {e : Int} (d : Nat) : Vc l X U0 Pt7 e (d + 1) Kc1195 :=
  ck (d := d) (Ks := [Kc1194, Kc1127]) (cy := 152) (cd := cdX7_numberHere) (nl := 3) (fuel := 1000) (Hs := []) (by decide) rfl (fun na b => by rw [← ceX7_numberHere]; exact tkX7_numberHere) (List.forall_mem_cons.mpr ⟨vc1194 d, List.forall_mem_cons.mpr ⟨vc1127 d, fun _ h => absurd h List.not_mem_nil⟩⟩) (cpyX d) (by decide +kernel)
def Kc1196 : Con := ((169, [(2, 0, 0, [150]), (0, 2, 2, []), (0, 4, 4, [])], []), [(150, 4, 10), (150, 13, 13), (152, 0, 7)], [(some (0, 2, 4, []), [], [])])
set_option maxRecDepth 20000 in
theorem vc1196 {l : Launch} {X : Nat × (Nat → Int32)} {e : Int} (d : Nat) : Vc l X U0 Pt7 e (d + 4) Kc1196 :=
  ck (d := (d + 3)) (Ks := [Kc1195, Kc1163]) (cy := 152) (cd := cdX7_number) (nl := 4) (fuel := 1000) (Hs := []) (by decide) rfl (fun na b => by rw [← ceX7_number]; exact tkX7_number) (List.forall_mem_cons.mpr ⟨vc1195 (d + 2), List.forall_mem_cons.mpr ⟨vc1163 d, fun _ h => absurd h List.not_mem_nil⟩⟩) (cpyX (d + 3)) (by decide +kernel)
def Kc1197 : Con := ((170, [(2, 0, 0, [150]), (2, 0, 0, [5029]), (0, 2, 2, []), (0, 4, 4, [])], []), [(150, 4, 10), (150, 13, 13), (152, 0, 7)], [(some (0, 2, 4, []), [], [])])
set_option maxRecDepth 20000 in
theorem vc1197 {l : Launch} {X : Nat × (Nat → Int32)} {e : Int} (d : Nat) : Vc l X U0 Pt7 e (d + 8) Kc1197 :=
  ck (d := (d + 7)) (Ks := [Kc1193, Kc1196]) (cy := 152) (cd := cdX7_after) (nl := 4) (fuel := 1000) (Hs := []) (by decide) rfl (fun na b => by rw [← ceX7_after]; exact tkX7_after) (List.forall_mem_cons.mpr ⟨vc1193 d, List.forall_mem_cons.mpr ⟨vc1196 (d + 3), fun _ h => absurd h List.not_mem_nil⟩⟩) (cpyX (d + 7)) (by decide +kernel)
def Kc1198 : Con := ((280, [(2, 0, 0, [5030])], []), [], [(some (0, 4, 4, []), [], [])])
set_option maxRecDepth 20000 in
theorem vc1198 {l : Launch} {X : Nat × (Nat → Int32)} {e : Int} (d : Nat) : Vc l X U0 Pt7 e (d + 4) Kc1198 := vh_len d [5030] 4 4 (by decide +kernel)
def Kc1199 : Con := ((281, [(2, 0, 0, [5030]), (0, 0, 3, [])], []), [], [(some (0, 0, 65535, []), [], [])])
set_option maxRecDepth 20000 in
theorem vc1199 {l : Launch} {X : Nat × (Nat → Int32)} {e : Int} (d : Nat) : Vc l X U0 Pt7 e (d + 4) Kc1199 := vh_char d [5030] 0 3 (by decide +kernel)
def Kc1200 : Con := ((160, [(2, 0, 0, [150]), (2, 0, 0, [5030])], []), [], [(some (0, 0, 0, []), [], []), (some (0, 0, 1, []), [], [])])
set_option maxRecDepth 20000 in
theorem vc1200 {l : Launch} {X : Nat × (Nat → Int32)} {e : Int} (d : Nat) : Vc l X U0 Pt7 e (d + 5) Kc1200 :=
  ck (d := (d + 4)) (Ks := [Kc1198, Kc1199]) (cy := 152) (cd := cdX7_isWord) (nl := 4) (fuel := 1000) (Hs := [((32, 0), ([(0, (2, 0, 0, [150])), (1, (2, 0, 0, [5030])), (2, (0, 1, 0, [])), (3, (0, 2, 0, []))], [], [(0, 0), (0, 1), (0, 4), (4, 4)], [(150, 8, (0, 3, 0, []))]), [(0, 2, 0), (0, 3, 0), (2, 150, 8)], (8, [(2, (-2))]), [])]) (by decide) rfl (fun na b => by rw [← ceX7_isWord]; exact tkX7_isWord) (List.forall_mem_cons.mpr ⟨vc1198 d, List.forall_mem_cons.mpr ⟨vc1199 d, fun _ h => absurd h List.not_mem_nil⟩⟩) (cpyX (d + 4)) (by decide +kernel)
def Kc1201 : Con := ((161, [(2, 0, 0, [150]), (2, 0, 0, [5030])], []), [(150, 4, 8), (152, 0, 7)], [(some (0, 0, 1, []), [], [])])
set_option maxRecDepth 20000 in
theorem vc1201 {l : Launch} {X : Nat × (Nat → Int32)} {e : Int} (d : Nat) : Vc l X U0 Pt7 e (d + 6) Kc1201 :=
  ck (d := (d + 5)) (Ks := [Kc1200, Kc1158]) (cy := 152) (cd := cdX7_takesWord) (nl := 2) (fuel := 1000) (Hs := []) (by decide) rfl (fun na b => by rw [← ceX7_takesWord]; exact tkX7_takesWord) (List.forall_mem_cons.mpr ⟨vc1200 d, List.forall_mem_cons.mpr ⟨vc1158 (d + 3), fun _ h => absurd h List.not_mem_nil⟩⟩) (cpyX (d + 5)) (by decide +kernel)
def Kc1202 : Con := ((162, [(2, 0, 0, [150]), (2, 0, 0, [5030])], []), [(150, 4, 10), (150, 13, 13), (152, 0, 7)], [(none, [], [])])
set_option maxRecDepth 20000 in
theorem vc1202 {l : Launch} {X : Nat × (Nat → Int32)} {e : Int} (d : Nat) : Vc l X U0 Pt7 e (d + 7) Kc1202 :=
  ck (d := (d + 6)) (Ks := [Kc1201, Kc1127]) (cy := 152) (cd := cdX7_must) (nl := 2) (fuel := 1000) (Hs := []) (by decide) rfl (fun na b => by rw [← ceX7_must]; exact tkX7_must) (List.forall_mem_cons.mpr ⟨vc1201 d, List.forall_mem_cons.mpr ⟨vc1127 (d + 6), fun _ h => absurd h List.not_mem_nil⟩⟩) (cpyX (d + 6)) (by decide +kernel)
def Kc1203 : Con := ((149, [(0, iLo, iHi, []), (0, 0, 0, []), (0, 100, 100, [])], []), [], [(some (0, 0, 0, []), [], []), (some (0, 1, 1, []), [(0, 0, 100)], [])])
set_option maxRecDepth 20000 in
theorem vc1203 {l : Launch} {X : Nat × (Nat → Int32)} {e : Int} (d : Nat) : Vc l X U0 Pt7 e d Kc1203 :=
  ck (d := d) (Ks := []) (cy := 152) (cd := cdX7_in) (nl := 3) (fuel := 1000) (Hs := []) (by decide) rfl (fun na b => by rw [← ceX7_in]; exact tkX7_in) (fun _ h => absurd h List.not_mem_nil) (cpyX d) (by decide +kernel)
def Kc1204 : Con := ((168, [(2, 0, 0, [150]), (0, 0, 0, []), (0, 100, 100, [])], []), [(150, 9, 10), (150, 13, 13)], [(some (0, 0, 100, []), [], [])])
set_option maxRecDepth 20000 in
theorem vc1204 {l : Launch} {X : Nat × (Nat → Int32)} {e : Int} (d : Nat) : Vc l X U0 Pt7 e (d + 1) Kc1204 :=
  ck (d := d) (Ks := [Kc1203, Kc1127]) (cy := 152) (cd := cdX7_numberHere) (nl := 3) (fuel := 1000) (Hs := []) (by decide) rfl (fun na b => by rw [← ceX7_numberHere]; exact tkX7_numberHere) (List.forall_mem_cons.mpr ⟨vc1203 d, List.forall_mem_cons.mpr ⟨vc1127 d, fun _ h => absurd h List.not_mem_nil⟩⟩) (cpyX d) (by decide +kernel)
def Kc1205 : Con := ((169, [(2, 0, 0, [150]), (0, 0, 0, []), (0, 100, 100, [])], []), [(150, 4, 10), (150, 13, 13), (152, 0, 7)], [(some (0, 0, 100, []), [], [])])
set_option maxRecDepth 20000 in
theorem vc1205 {l : Launch} {X : Nat × (Nat → Int32)} {e : Int} (d : Nat) : Vc l X U0 Pt7 e (d + 4) Kc1205 :=
  ck (d := (d + 3)) (Ks := [Kc1204, Kc1163]) (cy := 152) (cd := cdX7_number) (nl := 4) (fuel := 1000) (Hs := []) (by decide) rfl (fun na b => by rw [← ceX7_number]; exact tkX7_number) (List.forall_mem_cons.mpr ⟨vc1204 (d + 2), List.forall_mem_cons.mpr ⟨vc1163 d, fun _ h => absurd h List.not_mem_nil⟩⟩) (cpyX (d + 3)) (by decide +kernel)
def Kc1206 : Con := ((170, [(2, 0, 0, [150]), (2, 0, 0, [5030]), (0, 0, 0, []), (0, 100, 100, [])], []), [(150, 4, 10), (150, 13, 13), (152, 0, 7)], [(some (0, 0, 100, []), [], [])])
set_option maxRecDepth 20000 in
theorem vc1206 {l : Launch} {X : Nat × (Nat → Int32)} {e : Int} (d : Nat) : Vc l X U0 Pt7 e (d + 8) Kc1206 :=
  ck (d := (d + 7)) (Ks := [Kc1202, Kc1205]) (cy := 152) (cd := cdX7_after) (nl := 4) (fuel := 1000) (Hs := []) (by decide) rfl (fun na b => by rw [← ceX7_after]; exact tkX7_after) (List.forall_mem_cons.mpr ⟨vc1202 d, List.forall_mem_cons.mpr ⟨vc1205 (d + 3), fun _ h => absurd h List.not_mem_nil⟩⟩) (cpyX (d + 7)) (by decide +kernel)
def Kc1207 : Con := ((174, [(2, 0, 0, [150])], [(154, 9, (0, 0, 0, []))]), [(150, 4, 10), (150, 13, 13), (152, 0, 7), (154, 0, 2), (154, 9, 9)], [(none, [], [(154, 9, (0, 0, 0, []))]), (none, [], [(154, 0, (0, 2, 5, [])), (154, 9, (0, 1, 1, []))])])
set_option maxRecDepth 20000 in
theorem vc1207 {l : Launch} {X : Nat × (Nat → Int32)} {e : Int} (d : Nat) : Vc l X U0 Pt7 e (d + 9) Kc1207 :=
  ck (d := (d + 8)) (Ks := [Kc1158, Kc1188, Kc1197, Kc1206]) (cy := 152) (cd := cdX7_closeLine) (nl := 1) (fuel := 1000) (Hs := []) (by decide) rfl (fun na b => by rw [← ceX7_closeLine]; exact tkX7_closeLine) (List.forall_mem_cons.mpr ⟨vc1158 (d + 6), List.forall_mem_cons.mpr ⟨vc1188 d, List.forall_mem_cons.mpr ⟨vc1197 d, List.forall_mem_cons.mpr ⟨vc1206 d, fun _ h => absurd h List.not_mem_nil⟩⟩⟩⟩) (cpyX (d + 8)) (by decide +kernel)
def Kc1208 : Con := ((173, [(2, 0, 0, [150])], [(154, 5, (0, 0, 0, [])), (154, 9, (0, 0, 0, []))]), [(150, 4, 10), (150, 13, 13), (152, 0, 7), (154, 0, 2), (154, 8, 9), (154, 61, 66)], [(none, [], [(154, 5, (0, 0, 0, [])), (154, 9, (0, 0, 0, []))]), (none, [], [(154, 0, (0, 2, 5, [])), (154, 5, (0, 0, 0, [])), (154, 9, (0, 1, 1, []))])])
set_option maxRecDepth 20000 in
theorem vc1208 {l : Launch} {X : Nat × (Nat → Int32)} {e : Int} (d : Nat) : Vc l X U0 Pt7 e (d + 10) Kc1208 :=
  ck (d := (d + 9)) (Ks := [Kc1123, Kc1129, Kc1133, Kc1137, Kc1141, Kc1145, Kc1149, Kc1127, Kc1167, Kc1168, Kc1169, Kc1170, Kc1171, Kc1172, Kc1173, Kc1174, Kc1175, Kc1176, Kc1177, Kc1178, Kc1179, Kc1207]) (cy := 152) (cd := cdX7_readLine) (nl := 1) (fuel := 1000) (Hs := []) (by decide) rfl (fun na b => by rw [← ceX7_readLine]; exact tkX7_readLine) (List.forall_mem_cons.mpr ⟨vc1123 (d + 4), List.forall_mem_cons.mpr ⟨vc1129 (d + 3), List.forall_mem_cons.mpr ⟨vc1133 (d + 3), List.forall_mem_cons.mpr ⟨vc1137 (d + 3), List.forall_mem_cons.mpr ⟨vc1141 (d + 3), List.forall_mem_cons.mpr ⟨vc1145 (d + 3), List.forall_mem_cons.mpr ⟨vc1149 (d + 3), List.forall_mem_cons.mpr ⟨vc1127 (d + 9), List.forall_mem_cons.mpr ⟨vc1167 d, List.forall_mem_cons.mpr ⟨vc1168 (d + 8), List.forall_mem_cons.mpr ⟨vc1169 (d + 3), List.forall_mem_cons.mpr ⟨vc1170 (d + 8), List.forall_mem_cons.mpr ⟨vc1171 (d + 8), List.forall_mem_cons.mpr ⟨vc1172 (d + 3), List.forall_mem_cons.mpr ⟨vc1173 (d + 8), List.forall_mem_cons.mpr ⟨vc1174 (d + 8), List.forall_mem_cons.mpr ⟨vc1175 (d + 8), List.forall_mem_cons.mpr ⟨vc1176 (d + 3), List.forall_mem_cons.mpr ⟨vc1177 (d + 8), List.forall_mem_cons.mpr ⟨vc1178 (d + 8), List.forall_mem_cons.mpr ⟨vc1179 (d + 3), List.forall_mem_cons.mpr ⟨vc1207 d, fun _ h => absurd h List.not_mem_nil⟩⟩⟩⟩⟩⟩⟩⟩⟩⟩⟩⟩⟩⟩⟩⟩⟩⟩⟩⟩⟩⟩) (cpyX (d + 9)) (by decide +kernel)
def Kc1209 : Con := ((172, [(2, 0, 0, [150]), (2, 0, 0, [5022]), (0, 0, 0, [])], [(154, 9, (0, 1, 1, []))]), [(150, 9, 10), (150, 13, 13)], [(some (0, 0, 0, []), [], []), (some (0, 1, 1, []), [], [(150, 13, (0, 1, 1, []))])])
set_option maxRecDepth 20000 in
theorem vc1209 {l : Launch} {X : Nat × (Nat → Int32)} {e : Int} (d : Nat) : Vc l X U0 Pt7 e (d + 6) Kc1209 :=
  ck (d := (d + 5)) (Ks := [Kc1126, Kc1127, Kc1128]) (cy := 152) (cd := cdX7_begins) (nl := 3) (fuel := 1000) (Hs := []) (by decide) rfl (fun na b => by rw [← ceX7_begins]; exact tkX7_begins) (List.forall_mem_cons.mpr ⟨vc1126 d, List.forall_mem_cons.mpr ⟨vc1127 (d + 5), List.forall_mem_cons.mpr ⟨vc1128 (d + 4), fun _ h => absurd h List.not_mem_nil⟩⟩⟩) (cpyX (d + 5)) (by decide +kernel)
def Kc1210 : Con := ((172, [(2, 0, 0, [150]), (2, 0, 0, [5023]), (0, 0, 0, [])], [(154, 9, (0, 1, 1, []))]), [(150, 9, 10), (150, 13, 13)], [(some (0, 0, 0, []), [], []), (some (0, 1, 1, []), [], [(150, 13, (0, 1, 1, []))])])
set_option maxRecDepth 20000 in
theorem vc1210 {l : Launch} {X : Nat × (Nat → Int32)} {e : Int} (d : Nat) : Vc l X U0 Pt7 e (d + 6) Kc1210 :=
  ck (d := (d + 5)) (Ks := [Kc1132, Kc1127, Kc1128, Kc1126]) (cy := 152) (cd := cdX7_begins) (nl := 3) (fuel := 1000) (Hs := []) (by decide) rfl (fun na b => by rw [← ceX7_begins]; exact tkX7_begins) (List.forall_mem_cons.mpr ⟨vc1132 d, List.forall_mem_cons.mpr ⟨vc1127 (d + 5), List.forall_mem_cons.mpr ⟨vc1128 (d + 4), List.forall_mem_cons.mpr ⟨vc1126 d, fun _ h => absurd h List.not_mem_nil⟩⟩⟩⟩) (cpyX (d + 5)) (by decide +kernel)
def Kc1211 : Con := ((172, [(2, 0, 0, [150]), (2, 0, 0, [5024]), (0, 1, 1, [])], [(154, 9, (0, 1, 1, []))]), [(150, 4, 10), (150, 13, 13), (152, 0, 7)], [(some (0, 0, 0, []), [], []), (some (0, 1, 1, []), [], [(150, 13, (0, 1, 1, []))]), (some (0, 1, 1, []), [], [(150, 6, (0, 0, 1, [])), (150, 13, (0, 0, 0, []))]), (some (0, 1, 1, []), [], [(150, 6, (0, 2, 2, [])), (150, 8, (0, 0, 8, [])), (150, 13, (0, 0, 0, []))]), (some (0, 1, 1, []), [], [(150, 6, (0, 3, 59, [])), (150, 13, (0, 0, 0, []))])])
set_option maxRecDepth 20000 in
theorem vc1211 {l : Launch} {X : Nat × (Nat → Int32)} {e : Int} (d : Nat) : Vc l X U0 Pt7 e (d + 6) Kc1211 :=
  ck (d := (d + 5)) (Ks := [Kc1136, Kc1163, Kc1126, Kc1127, Kc1128]) (cy := 152) (cd := cdX7_begins) (nl := 3) (fuel := 1000) (Hs := []) (by decide) rfl (fun na b => by rw [← ceX7_begins]; exact tkX7_begins) (List.forall_mem_cons.mpr ⟨vc1136 d, List.forall_mem_cons.mpr ⟨vc1163 (d + 2), List.forall_mem_cons.mpr ⟨vc1126 d, List.forall_mem_cons.mpr ⟨vc1127 (d + 5), List.forall_mem_cons.mpr ⟨vc1128 (d + 4), fun _ h => absurd h List.not_mem_nil⟩⟩⟩⟩⟩) (cpyX (d + 5)) (by decide +kernel)
def Kc1212 : Con := ((172, [(2, 0, 0, [150]), (2, 0, 0, [5025]), (0, 0, 0, [])], [(154, 9, (0, 1, 1, []))]), [(150, 9, 10), (150, 13, 13)], [(some (0, 0, 0, []), [], []), (some (0, 1, 1, []), [], [(150, 13, (0, 1, 1, []))])])
set_option maxRecDepth 20000 in
theorem vc1212 {l : Launch} {X : Nat × (Nat → Int32)} {e : Int} (d : Nat) : Vc l X U0 Pt7 e (d + 6) Kc1212 :=
  ck (d := (d + 5)) (Ks := [Kc1140, Kc1127, Kc1128, Kc1126]) (cy := 152) (cd := cdX7_begins) (nl := 3) (fuel := 1000) (Hs := []) (by decide) rfl (fun na b => by rw [← ceX7_begins]; exact tkX7_begins) (List.forall_mem_cons.mpr ⟨vc1140 d, List.forall_mem_cons.mpr ⟨vc1127 (d + 5), List.forall_mem_cons.mpr ⟨vc1128 (d + 4), List.forall_mem_cons.mpr ⟨vc1126 d, fun _ h => absurd h List.not_mem_nil⟩⟩⟩⟩) (cpyX (d + 5)) (by decide +kernel)
def Kc1213 : Con := ((172, [(2, 0, 0, [150]), (2, 0, 0, [5026]), (0, 0, 0, [])], [(154, 9, (0, 1, 1, []))]), [(150, 9, 10), (150, 13, 13)], [(some (0, 0, 0, []), [], []), (some (0, 1, 1, []), [], [(150, 13, (0, 1, 1, []))])])
set_option maxRecDepth 20000 in
theorem vc1213 {l : Launch} {X : Nat × (Nat → Int32)} {e : Int} (d : Nat) : Vc l X U0 Pt7 e (d + 6) Kc1213 :=
  ck (d := (d + 5)) (Ks := [Kc1144, Kc1127, Kc1128, Kc1126]) (cy := 152) (cd := cdX7_begins) (nl := 3) (fuel := 1000) (Hs := []) (by decide) rfl (fun na b => by rw [← ceX7_begins]; exact tkX7_begins) (List.forall_mem_cons.mpr ⟨vc1144 d, List.forall_mem_cons.mpr ⟨vc1127 (d + 5), List.forall_mem_cons.mpr ⟨vc1128 (d + 4), List.forall_mem_cons.mpr ⟨vc1126 d, fun _ h => absurd h List.not_mem_nil⟩⟩⟩⟩) (cpyX (d + 5)) (by decide +kernel)
def Kc1214 : Con := ((172, [(2, 0, 0, [150]), (2, 0, 0, [5027]), (0, 1, 1, [])], [(154, 9, (0, 1, 1, []))]), [(150, 4, 10), (150, 13, 13), (152, 0, 7)], [(some (0, 0, 0, []), [], []), (some (0, 1, 1, []), [], [(150, 13, (0, 1, 1, []))]), (some (0, 1, 1, []), [], [(150, 6, (0, 0, 1, [])), (150, 13, (0, 0, 0, []))]), (some (0, 1, 1, []), [], [(150, 6, (0, 2, 2, [])), (150, 8, (0, 0, 8, [])), (150, 13, (0, 0, 0, []))]), (some (0, 1, 1, []), [], [(150, 6, (0, 3, 59, [])), (150, 13, (0, 0, 0, []))])])
set_option maxRecDepth 20000 in
theorem vc1214 {l : Launch} {X : Nat × (Nat → Int32)} {e : Int} (d : Nat) : Vc l X U0 Pt7 e (d + 6) Kc1214 :=
  ck (d := (d + 5)) (Ks := [Kc1148, Kc1163, Kc1126, Kc1127, Kc1128]) (cy := 152) (cd := cdX7_begins) (nl := 3) (fuel := 1000) (Hs := []) (by decide) rfl (fun na b => by rw [← ceX7_begins]; exact tkX7_begins) (List.forall_mem_cons.mpr ⟨vc1148 d, List.forall_mem_cons.mpr ⟨vc1163 (d + 2), List.forall_mem_cons.mpr ⟨vc1126 d, List.forall_mem_cons.mpr ⟨vc1127 (d + 5), List.forall_mem_cons.mpr ⟨vc1128 (d + 4), fun _ h => absurd h List.not_mem_nil⟩⟩⟩⟩⟩) (cpyX (d + 5)) (by decide +kernel)
def Kc1215 : Con := ((182, [(2, 0, 0, [150])], [(150, 13, (0, 0, 0, []))]), [(150, 4, 10), (150, 13, 13), (152, 0, 7), (154, 8, 8), (154, 61, 66)], [(none, [], [])])
set_option maxRecDepth 20000 in
theorem vc1215 {l : Launch} {X : Nat × (Nat → Int32)} {e : Int} (d : Nat) : Vc l X U0 Pt7 e (d + 9) Kc1215 :=
  ck (d := (d + 8)) (Ks := [Kc1154, Kc1128, Kc1165, Kc1166, Kc1127]) (cy := 152) (cd := cdX7_droppedLine) (nl := 3) (fuel := 1000) (Hs := []) (by decide) rfl (fun na b => by rw [← ceX7_droppedLine]; exact tkX7_droppedLine) (List.forall_mem_cons.mpr ⟨vc1154 (d + 1), List.forall_mem_cons.mpr ⟨vc1128 (d + 7), List.forall_mem_cons.mpr ⟨vc1165 d, List.forall_mem_cons.mpr ⟨vc1166 (d + 5), List.forall_mem_cons.mpr ⟨vc1127 (d + 8), fun _ h => absurd h List.not_mem_nil⟩⟩⟩⟩⟩) (cpyX (d + 8)) (by decide +kernel)
def Kc1216 : Con := ((172, [(2, 0, 0, [150]), (2, 0, 0, [5026]), (0, 1, 1, [])], [(154, 9, (0, 1, 1, []))]), [(150, 4, 10), (150, 13, 13), (152, 0, 7)], [(some (0, 0, 0, []), [], []), (some (0, 1, 1, []), [], [(150, 13, (0, 1, 1, []))]), (some (0, 1, 1, []), [], [(150, 6, (0, 0, 1, [])), (150, 13, (0, 0, 0, []))]), (some (0, 1, 1, []), [], [(150, 6, (0, 2, 2, [])), (150, 8, (0, 0, 8, [])), (150, 13, (0, 0, 0, []))]), (some (0, 1, 1, []), [], [(150, 6, (0, 3, 59, [])), (150, 13, (0, 0, 0, []))])])
set_option maxRecDepth 20000 in
theorem vc1216 {l : Launch} {X : Nat × (Nat → Int32)} {e : Int} (d : Nat) : Vc l X U0 Pt7 e (d + 6) Kc1216 :=
  ck (d := (d + 5)) (Ks := [Kc1144, Kc1163, Kc1126, Kc1127, Kc1128]) (cy := 152) (cd := cdX7_begins) (nl := 3) (fuel := 1000) (Hs := []) (by decide) rfl (fun na b => by rw [← ceX7_begins]; exact tkX7_begins) (List.forall_mem_cons.mpr ⟨vc1144 d, List.forall_mem_cons.mpr ⟨vc1163 (d + 2), List.forall_mem_cons.mpr ⟨vc1126 d, List.forall_mem_cons.mpr ⟨vc1127 (d + 5), List.forall_mem_cons.mpr ⟨vc1128 (d + 4), fun _ h => absurd h List.not_mem_nil⟩⟩⟩⟩⟩) (cpyX (d + 5)) (by decide +kernel)
def Kc1217 : Con := ((149, [(0, 0, 14, []), (0, 6, 6, []), (0, 10, 10, [])], []), [], [(some (0, 0, 0, []), [], []), (some (0, 1, 1, []), [(0, 6, 10)], [])])
set_option maxRecDepth 20000 in
theorem vc1217 {l : Launch} {X : Nat × (Nat → Int32)} {e : Int} (d : Nat) : Vc l X U0 Pt7 e d Kc1217 :=
  ck (d := d) (Ks := []) (cy := 152) (cd := cdX7_in) (nl := 3) (fuel := 1000) (Hs := []) (by decide) rfl (fun na b => by rw [← ceX7_in]; exact tkX7_in) (fun _ h => absurd h List.not_mem_nil) (cpyX d) (by decide +kernel)
def Kc1218 : Con := ((149, [(0, (-1), (-1), []), (0, 6, 6, []), (0, 10, 10, [])], []), [], [(some (0, 0, 0, []), [], [])])
set_option maxRecDepth 20000 in
theorem vc1218 {l : Launch} {X : Nat × (Nat → Int32)} {e : Int} (d : Nat) : Vc l X U0 Pt7 e d Kc1218 :=
  ck (d := d) (Ks := []) (cy := 152) (cd := cdX7_in) (nl := 3) (fuel := 1000) (Hs := []) (by decide) rfl (fun na b => by rw [← ceX7_in]; exact tkX7_in) (fun _ h => absurd h List.not_mem_nil) (cpyX d) (by decide +kernel)
def Kc1219 : Con := ((166, [(2, 0, 0, [150]), (0, 6, 6, []), (0, 10, 10, [])], []), [(150, 9, 10), (150, 13, 13)], [(some (0, 0, 4, []), [], [])])
set_option maxRecDepth 20000 in
theorem vc1219 {l : Launch} {X : Nat × (Nat → Int32)} {e : Int} (d : Nat) : Vc l X U0 Pt7 e (d + 7) Kc1219 :=
  ck (d := (d + 6)) (Ks := [Kc1150, Kc1151, Kc1217, Kc1127, Kc1218]) (cy := 152) (cd := cdX7_named) (nl := 4) (fuel := 1000) (Hs := []) (by decide) rfl (fun na b => by rw [← ceX7_named]; exact tkX7_named) (List.forall_mem_cons.mpr ⟨vc1150 d, List.forall_mem_cons.mpr ⟨vc1151 (d + 6), List.forall_mem_cons.mpr ⟨vc1217 (d + 6), List.forall_mem_cons.mpr ⟨vc1127 (d + 6), List.forall_mem_cons.mpr ⟨vc1218 (d + 6), fun _ h => absurd h List.not_mem_nil⟩⟩⟩⟩⟩) (cpyX (d + 6)) (by decide +kernel)
def Kc1220 : Con := ((149, [(0, iLo, iHi, []), (0, 1, 1, []), (0, 30, 30, [])], []), [], [(some (0, 0, 0, []), [], []), (some (0, 1, 1, []), [(0, 1, 30)], [])])
set_option maxRecDepth 20000 in
theorem vc1220 {l : Launch} {X : Nat × (Nat → Int32)} {e : Int} (d : Nat) : Vc l X U0 Pt7 e d Kc1220 :=
  ck (d := d) (Ks := []) (cy := 152) (cd := cdX7_in) (nl := 3) (fuel := 1000) (Hs := []) (by decide) rfl (fun na b => by rw [← ceX7_in]; exact tkX7_in) (fun _ h => absurd h List.not_mem_nil) (cpyX d) (by decide +kernel)
