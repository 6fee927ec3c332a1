def Kc1221 : Con := ((168, [(2, 0, 0, [150]), (0, 1, 1, []), (0, 30, 30, [])], []), [(150, 9, 10), (150, 13, 13)], [(some (0, 1, 30, []), [], [])])
set_option maxRecDepth 20000 in
theorem vc1221 {l : Launch} {X : Nat × (Nat → Int32)} {e : Int} (d : Nat) : Vc l X U0 Pt7 e (d + 1) Kc1221 :=
  ck (d := d) (Ks := [Kc1220, Kc1127]) (cy := 152) (cd := cdX7_numberHere) (nl := 3) (fuel := 1000) (Hs := []) (by decide) rfl (fun na b => by rw [← ceX7_numberHere]; exact tkX7_numberHere) (List.forall_mem_cons.mpr ⟨vc1220 d, List.forall_mem_cons.mpr ⟨vc1127 d, fun _ h => absurd h List.not_mem_nil⟩⟩) (cpyX d) (by decide +kernel)
def Kc1222 : Con := ((169, [(2, 0, 0, [150]), (0, 1, 1, []), (0, 30, 30, [])], []), [(150, 4, 10), (150, 13, 13), (152, 0, 7)], [(some (0, 1, 30, []), [], [])])
set_option maxRecDepth 20000 in
theorem vc1222 {l : Launch} {X : Nat × (Nat → Int32)} {e : Int} (d : Nat) : Vc l X U0 Pt7 e (d + 4) Kc1222 :=
  ck (d := (d + 3)) (Ks := [Kc1221, Kc1163]) (cy := 152) (cd := cdX7_number) (nl := 4) (fuel := 1000) (Hs := []) (by decide) rfl (fun na b => by rw [← ceX7_number]; exact tkX7_number) (List.forall_mem_cons.mpr ⟨vc1221 (d + 2), List.forall_mem_cons.mpr ⟨vc1163 d, fun _ h => absurd h List.not_mem_nil⟩⟩) (cpyX (d + 3)) (by decide +kernel)
def Kc1223 : Con := ((181, [(2, 0, 0, [150])], [(150, 13, (0, 0, 0, [])), (154, 7, (0, 0, 3, []))]), [(150, 4, 10), (150, 13, 13), (152, 0, 7), (154, 7, 7), (154, 53, 60)], [(none, [], [])])
set_option maxRecDepth 20000 in
theorem vc1223 {l : Launch} {X : Nat × (Nat → Int32)} {e : Int} (d : Nat) : Vc l X U0 Pt7 e (d + 8) Kc1223 :=
  ck (d := (d + 7)) (Ks := [Kc1219, Kc1163, Kc1222, Kc1127]) (cy := 152) (cd := cdX7_unsureLine) (nl := 4) (fuel := 1000) (Hs := [((8, 2), ([(0, (2, 0, 0, [150]))], [], [(0, 0), (0, 0), (0, 3)], [(150, 13, (0, 1, 0, [])), (154, 7, (0, 2, 0, []))]), [(2, 150, 13), (2, 154, 7)], (13, []), []), ((32, 0), ([(0, (2, 0, 0, [150])), (1, (0, 1, 0, [])), (2, (0, 2, 0, [])), (3, (0, 0, 0, []))], [], [(0, 0), (53, 53), (0, 4), (0, 0)], [(154, 7, (0, 3, 0, []))]), [(0, 1, 0), (0, 2, 0), (2, 154, 7)], (9, []), []), ((32, 0), ([(0, (2, 0, 0, [150])), (1, (0, 1, 0, [])), (2, (0, 2, 0, [])), (3, (0, 3, 0, []))], [], [(0, 0), (55, 55), (0, 4), (0, 1), (1, 1)], [(154, 7, (0, 4, 0, []))]), [(0, 1, 0), (0, 2, 0), (0, 3, 0), (2, 154, 7)], (9, [(3, (-3))]), []), ((32, 0), ([(0, (2, 0, 0, [150])), (1, (0, 1, 0, [])), (2, (0, 2, 0, [])), (3, (0, 3, 0, []))], [], [(0, 0), (57, 57), (0, 4), (0, 2), (2, 2)], [(154, 7, (0, 4, 0, []))]), [(0, 1, 0), (0, 2, 0), (0, 3, 0), (2, 154, 7)], (9, [(3, (-3))]), []), ((32, 0), ([(0, (2, 0, 0, [150])), (1, (0, 1, 0, [])), (2, (0, 2, 0, [])), (3, (0, 3, 0, []))], [], [(0, 0), (59, 59), (0, 4), (0, 3), (3, 3)], [(154, 7, (0, 4, 0, []))]), [(0, 1, 0), (0, 2, 0), (0, 3, 0), (2, 154, 7)], (9, [(3, (-3))]), [])]) (by decide) rfl (fun na b => by rw [← ceX7_unsureLine]; exact tkX7_unsureLine) (List.forall_mem_cons.mpr ⟨vc1219 d, List.forall_mem_cons.mpr ⟨vc1163 (d + 4), List.forall_mem_cons.mpr ⟨vc1222 (d + 3), List.forall_mem_cons.mpr ⟨vc1127 (d + 7), fun _ h => absurd h List.not_mem_nil⟩⟩⟩⟩) (cpyX (d + 7)) (by decide +kernel)
def Kc1224 : Con := ((172, [(2, 0, 0, [150]), (2, 0, 0, [5025]), (0, 1, 1, [])], [(154, 9, (0, 1, 1, []))]), [(150, 4, 10), (150, 13, 13), (152, 0, 7)], [(some (0, 0, 0, []), [], []), (some (0, 1, 1, []), [], [(150, 13, (0, 1, 1, []))]), (some (0, 1, 1, []), [], [(150, 6, (0, 0, 1, [])), (150, 13, (0, 0, 0, []))]), (some (0, 1, 1, []), [], [(150, 6, (0, 2, 2, [])), (150, 8, (0, 0, 8, [])), (150, 13, (0, 0, 0, []))]), (some (0, 1, 1, []), [], [(150, 6, (0, 3, 59, [])), (150, 13, (0, 0, 0, []))])])
set_option maxRecDepth 20000 in
theorem vc1224 {l : Launch} {X : Nat × (Nat → Int32)} {e : Int} (d : Nat) : Vc l X U0 Pt7 e (d + 6) Kc1224 :=
  ck (d := (d + 5)) (Ks := [Kc1140, Kc1163, Kc1126, Kc1127, Kc1128]) (cy := 152) (cd := cdX7_begins) (nl := 3) (fuel := 1000) (Hs := []) (by decide) rfl (fun na b => by rw [← ceX7_begins]; exact tkX7_begins) (List.forall_mem_cons.mpr ⟨vc1140 d, List.forall_mem_cons.mpr ⟨vc1163 (d + 2), List.forall_mem_cons.mpr ⟨vc1126 d, List.forall_mem_cons.mpr ⟨vc1127 (d + 5), List.forall_mem_cons.mpr ⟨vc1128 (d + 4), fun _ h => absurd h List.not_mem_nil⟩⟩⟩⟩⟩) (cpyX (d + 5)) (by decide +kernel)
def Kc1225 : Con := ((163, [(2, 0, 0, [150])], [(150, 13, (0, 0, 0, [])), (150, 6, (0, 0, 1, []))]), [(150, 9, 10), (150, 13, 13)], [(none, [], [(150, 13, (0, 1, 1, []))])])
set_option maxRecDepth 20000 in
theorem vc1225 {l : Launch} {X : Nat × (Nat → Int32)} {e : Int} (d : Nat) : Vc l X U0 Pt7 e (d + 1) Kc1225 :=
  ck (d := d) (Ks := [Kc1127]) (cy := 152) (cd := cdX7_mustName) (nl := 1) (fuel := 1000) (Hs := []) (by decide) rfl (fun na b => by rw [← ceX7_mustName]; exact tkX7_mustName) (List.forall_mem_cons.mpr ⟨vc1127 d, fun _ h => absurd h List.not_mem_nil⟩) (cpyX d) (by decide +kernel)
def Kc1226 : Con := ((165, [(2, 0, 0, [150]), (0, 11, 14, [])], [(150, 13, (0, 0, 0, [])), (150, 6, (0, 0, 1, []))]), [(150, 9, 10), (150, 13, 13)], [(none, [], [])])
set_option maxRecDepth 20000 in
theorem vc1226 {l : Launch} {X : Nat × (Nat → Int32)} {e : Int} (d : Nat) : Vc l X U0 Pt7 e (d + 2) Kc1226 :=
  ck (d := (d + 1)) (Ks := [Kc1225]) (cy := 152) (cd := cdX7_newName) (nl := 3) (fuel := 1000) (Hs := []) (by decide) rfl (fun na b => by rw [← ceX7_newName]; exact tkX7_newName) (List.forall_mem_cons.mpr ⟨vc1225 d, fun _ h => absurd h List.not_mem_nil⟩) (cpyX (d + 1)) (by decide +kernel)
def Kc1227 : Con := ((280, [(2, 0, 0, [5039])], []), [], [(some (0, 4, 4, []), [], [])])
set_option maxRecDepth 20000 in
theorem vc1227 {l : Launch} {X : Nat × (Nat → Int32)} {e : Int} (d : Nat) : Vc l X U0 Pt7 e (d + 4) Kc1227 := vh_len d [5039] 4 4 (by decide +kernel)
def Kc1228 : Con := ((281, [(2, 0, 0, [5039]), (0, 0, 3, [])], []), [], [(some (0, 0, 65535, []), [], [])])
set_option maxRecDepth 20000 in
theorem vc1228 {l : Launch} {X : Nat × (Nat → Int32)} {e : Int} (d : Nat) : Vc l X U0 Pt7 e (d + 4) Kc1228 := vh_char d [5039] 0 3 (by decide +kernel)
def Kc1229 : Con := ((160, [(2, 0, 0, [150]), (2, 0, 0, [5039])], []), [], [(some (0, 0, 0, []), [], []), (some (0, 0, 1, []), [], [])])
set_option maxRecDepth 20000 in
theorem vc1229 {l : Launch} {X : Nat × (Nat → Int32)} {e : Int} (d : Nat) : Vc l X U0 Pt7 e (d + 5) Kc1229 :=
  ck (d := (d + 4)) (Ks := [Kc1227, Kc1228]) (cy := 152) (cd := cdX7_isWord) (nl := 4) (fuel := 1000) (Hs := [((32, 0), ([(0, (2, 0, 0, [150])), (1, (2, 0, 0, [5039])), (2, (0, 1, 0, [])), (3, (0, 2, 0, []))], [], [(0, 0), (0, 1), (0, 4), (4, 4)], [(150, 8, (0, 3, 0, []))]), [(0, 2, 0), (0, 3, 0), (2, 150, 8)], (8, [(2, (-2))]), [])]) (by decide) rfl (fun na b => by rw [← ceX7_isWord]; exact tkX7_isWord) (List.forall_mem_cons.mpr ⟨vc1227 d, List.forall_mem_cons.mpr ⟨vc1228 d, fun _ h => absurd h List.not_mem_nil⟩⟩) (cpyX (d + 4)) (by decide +kernel)
def Kc1230 : Con := ((161, [(2, 0, 0, [150]), (2, 0, 0, [5039])], []), [(150, 4, 8), (152, 0, 7)], [(some (0, 0, 1, []), [], [])])
set_option maxRecDepth 20000 in
theorem vc1230 {l : Launch} {X : Nat × (Nat → Int32)} {e : Int} (d : Nat) : Vc l X U0 Pt7 e (d + 6) Kc1230 :=
  ck (d := (d + 5)) (Ks := [Kc1229, Kc1158]) (cy := 152) (cd := cdX7_takesWord) (nl := 2) (fuel := 1000) (Hs := []) (by decide) rfl (fun na b => by rw [← ceX7_takesWord]; exact tkX7_takesWord) (List.forall_mem_cons.mpr ⟨vc1229 d, List.forall_mem_cons.mpr ⟨vc1158 (d + 3), fun _ h => absurd h List.not_mem_nil⟩⟩) (cpyX (d + 5)) (by decide +kernel)
def Kc1231 : Con := ((162, [(2, 0, 0, [150]), (2, 0, 0, [5039])], []), [(150, 4, 10), (150, 13, 13), (152, 0, 7)], [(none, [], [])])
set_option maxRecDepth 20000 in
theorem vc1231 {l : Launch} {X : Nat × (Nat → Int32)} {e : Int} (d : Nat) : Vc l X U0 Pt7 e (d + 7) Kc1231 :=
  ck (d := (d + 6)) (Ks := [Kc1230, Kc1127]) (cy := 152) (cd := cdX7_must) (nl := 2) (fuel := 1000) (Hs := []) (by decide) rfl (fun na b => by rw [← ceX7_must]; exact tkX7_must) (List.forall_mem_cons.mpr ⟨vc1230 d, List.forall_mem_cons.mpr ⟨vc1127 (d + 6), fun _ h => absurd h List.not_mem_nil⟩⟩) (cpyX (d + 6)) (by decide +kernel)
def Kc1232 : Con := ((149, [(0, iLo, iHi, []), (0, 0, 0, []), (0, (-1), 19, [])], []), [], [(some (0, 0, 0, []), [], []), (some (0, 1, 1, []), [(0, 0, 19), (2, 0, 19)], [])])
set_option maxRecDepth 20000 in
theorem vc1232 {l : Launch} {X : Nat × (Nat → Int32)} {e : Int} (d : Nat) : Vc l X U0 Pt7 e d Kc1232 :=
  ck (d := d) (Ks := []) (cy := 152) (cd := cdX7_in) (nl := 3) (fuel := 1000) (Hs := []) (by decide) rfl (fun na b => by rw [← ceX7_in]; exact tkX7_in) (fun _ h => absurd h List.not_mem_nil) (cpyX d) (by decide +kernel)
def Kc1233 : Con := ((168, [(2, 0, 0, [150]), (0, 0, 0, []), (0, (-1), 19, [])], []), [(150, 9, 10), (150, 13, 13)], [(some (0, 0, 19, []), [], [])])
set_option maxRecDepth 20000 in
theorem vc1233 {l : Launch} {X : Nat × (Nat → Int32)} {e : Int} (d : Nat) : Vc l X U0 Pt7 e (d + 1) Kc1233 :=
  ck (d := d) (Ks := [Kc1232, Kc1127]) (cy := 152) (cd := cdX7_numberHere) (nl := 3) (fuel := 1000) (Hs := []) (by decide) rfl (fun na b => by rw [← ceX7_numberHere]; exact tkX7_numberHere) (List.forall_mem_cons.mpr ⟨vc1232 d, List.forall_mem_cons.mpr ⟨vc1127 d, fun _ h => absurd h List.not_mem_nil⟩⟩) (cpyX d) (by decide +kernel)
def Kc1234 : Con := ((175, [(2, 0, 0, [150])], []), [(150, 9, 10), (150, 13, 13)], [(some (0, 0, 19, []), [], [])])
set_option maxRecDepth 20000 in
theorem vc1234 {l : Launch} {X : Nat × (Nat → Int32)} {e : Int} (d : Nat) : Vc l X U0 Pt7 e (d + 2) Kc1234 :=
  ck (d := (d + 1)) (Ks := [Kc1233]) (cy := 152) (cd := cdX7_cellHere) (nl := 1) (fuel := 1000) (Hs := []) (by decide) rfl (fun na b => by rw [← ceX7_cellHere]; exact tkX7_cellHere) (List.forall_mem_cons.mpr ⟨vc1233 d, fun _ h => absurd h List.not_mem_nil⟩) (cpyX (d + 1)) (by decide +kernel)
def Kc1235 : Con := ((150, [(0, iLo, iHi, []), (0, iLo, iHi, [])], []), [], [(some (0, 0, 0, []), [], []), (some (0, 1, 1, []), [], [])])
set_option maxRecDepth 20000 in
theorem vc1235 {l : Launch} {X : Nat × (Nat → Int32)} {e : Int} (d : Nat) : Vc l X U0 Pt7 e d Kc1235 :=
  ck (d := d) (Ks := []) (cy := 152) (cd := cdX7_hasBit) (nl := 2) (fuel := 1000) (Hs := []) (by decide) rfl (fun na b => by rw [← ceX7_hasBit]; exact tkX7_hasBit) (fun _ h => absurd h List.not_mem_nil) (cpyX d) (by decide +kernel)
def Kc1236 : Con := ((179, [(2, 0, 0, [150])], []), [(150, 4, 10), (150, 13, 13), (152, 0, 7)], [(some (0, 0, 19, []), [], [])])
set_option maxRecDepth 20000 in
theorem vc1236 {l : Launch} {X : Nat × (Nat → Int32)} {e : Int} (d : Nat) : Vc l X U0 Pt7 e (d + 4) Kc1236 :=
  ck (d := (d + 3)) (Ks := [Kc1234, Kc1128, Kc1235, Kc1166, Kc1127]) (cy := 152) (cd := cdX7_openCell) (nl := 2) (fuel := 1000) (Hs := []) (by decide) rfl (fun na b => by rw [← ceX7_openCell]; exact tkX7_openCell) (List.forall_mem_cons.mpr ⟨vc1234 (d + 1), List.forall_mem_cons.mpr ⟨vc1128 (d + 2), List.forall_mem_cons.mpr ⟨vc1235 (d + 3), List.forall_mem_cons.mpr ⟨vc1166 d, List.forall_mem_cons.mpr ⟨vc1127 (d + 3), fun _ h => absurd h List.not_mem_nil⟩⟩⟩⟩⟩) (cpyX (d + 3)) (by decide +kernel)
def Kc1237 : Con := ((280, [(2, 0, 0, [5040])], []), [], [(some (0, 2, 2, []), [], [])])
set_option maxRecDepth 20000 in
theorem vc1237 {l : Launch} {X : Nat × (Nat → Int32)} {e : Int} (d : Nat) : Vc l X U0 Pt7 e (d + 4) Kc1237 := vh_len d [5040] 2 2 (by decide +kernel)
def Kc1238 : Con := ((281, [(2, 0, 0, [5040]), (0, 0, 1, [])], []), [], [(some (0, 0, 65535, []), [], [])])
set_option maxRecDepth 20000 in
theorem vc1238 {l : Launch} {X : Nat × (Nat → Int32)} {e : Int} (d : Nat) : Vc l X U0 Pt7 e (d + 4) Kc1238 := vh_char d [5040] 0 1 (by decide +kernel)
def Kc1239 : Con := ((160, [(2, 0, 0, [150]), (2, 0, 0, [5040])], []), [], [(some (0, 0, 0, []), [], []), (some (0, 0, 1, []), [], [])])
set_option maxRecDepth 20000 in
theorem vc1239 {l : Launch} {X : Nat × (Nat → Int32)} {e : Int} (d : Nat) : Vc l X U0 Pt7 e (d + 5) Kc1239 :=
  ck (d := (d + 4)) (Ks := [Kc1237, Kc1238]) (cy := 152) (cd := cdX7_isWord) (nl := 4) (fuel := 1000) (Hs := [((32, 0), ([(0, (2, 0, 0, [150])), (1, (2, 0, 0, [5040])), (2, (0, 1, 0, [])), (3, (0, 2, 0, []))], [], [(0, 0), (0, 1), (0, 2), (2, 2)], [(150, 8, (0, 3, 0, []))]), [(0, 2, 0), (0, 3, 0), (2, 150, 8)], (4, [(2, (-2))]), [])]) (by decide) rfl (fun na b => by rw [← ceX7_isWord]; exact tkX7_isWord) (List.forall_mem_cons.mpr ⟨vc1237 d, List.forall_mem_cons.mpr ⟨vc1238 d, fun _ h => absurd h List.not_mem_nil⟩⟩) (cpyX (d + 4)) (by decide +kernel)
def Kc1240 : Con := ((161, [(2, 0, 0, [150]), (2, 0, 0, [5040])], []), [(150, 4, 8), (152, 0, 7)], [(some (0, 0, 1, []), [], [])])
set_option maxRecDepth 20000 in
theorem vc1240 {l : Launch} {X : Nat × (Nat → Int32)} {e : Int} (d : Nat) : Vc l X U0 Pt7 e (d + 6) Kc1240 :=
  ck (d := (d + 5)) (Ks := [Kc1239, Kc1158]) (cy := 152) (cd := cdX7_takesWord) (nl := 2) (fuel := 1000) (Hs := []) (by decide) rfl (fun na b => by rw [← ceX7_takesWord]; exact tkX7_takesWord) (List.forall_mem_cons.mpr ⟨vc1239 d, List.forall_mem_cons.mpr ⟨vc1158 (d + 3), fun _ h => absurd h List.not_mem_nil⟩⟩) (cpyX (d + 5)) (by decide +kernel)
def Kc1241 : Con := ((162, [(2, 0, 0, [150]), (2, 0, 0, [5040])], []), [(150, 4, 10), (150, 13, 13), (152, 0, 7)], [(none, [], [])])
set_option maxRecDepth 20000 in
theorem vc1241 {l : Launch} {X : Nat × (Nat → Int32)} {e : Int} (d : Nat) : Vc l X U0 Pt7 e (d + 7) Kc1241 :=
  ck (d := (d + 6)) (Ks := [Kc1240, Kc1127]) (cy := 152) (cd := cdX7_must) (nl := 2) (fuel := 1000) (Hs := []) (by decide) rfl (fun na b => by rw [← ceX7_must]; exact tkX7_must) (List.forall_mem_cons.mpr ⟨vc1240 d, List.forall_mem_cons.mpr ⟨vc1127 (d + 6), fun _ h => absurd h List.not_mem_nil⟩⟩) (cpyX (d + 6)) (by decide +kernel)
def Kc1242 : Con := ((180, [(2, 0, 0, [150])], [(150, 13, (0, 0, 0, [])), (150, 6, (0, 0, 1, [])), (154, 6, (0, 0, 3, []))]), [(150, 4, 10), (150, 13, 13), (152, 0, 7), (154, 6, 6), (154, 45, 52)], [(none, [], [])])
set_option maxRecDepth 20000 in
theorem vc1242 {l : Launch} {X : Nat × (Nat → Int32)} {e : Int} (d : Nat) : Vc l X U0 Pt7 e (d + 8) Kc1242 :=
  ck (d := (d + 7)) (Ks := [Kc1226, Kc1231, Kc1236, Kc1241]) (cy := 152) (cd := cdX7_walkerLine) (nl := 4) (fuel := 1000) (Hs := []) (by decide) rfl (fun na b => by rw [← ceX7_walkerLine]; exact tkX7_walkerLine) (List.forall_mem_cons.mpr ⟨vc1226 (d + 5), List.forall_mem_cons.mpr ⟨vc1231 d, List.forall_mem_cons.mpr ⟨vc1236 (d + 3), List.forall_mem_cons.mpr ⟨vc1241 d, fun _ h => absurd h List.not_mem_nil⟩⟩⟩⟩) (cpyX (d + 7)) (by decide +kernel)
def Kc1243 : Con := ((163, [(2, 0, 0, [150])], [(150, 13, (0, 0, 0, [])), (150, 6, (0, 2, 2, [])), (150, 8, (0, 0, 8, []))]), [(150, 9, 10), (150, 13, 13)], [(none, [], [(150, 13, (0, 0, 0, []))]), (none, [], [(150, 13, (0, 1, 1, []))])])
set_option maxRecDepth 20000 in
theorem vc1243 {l : Launch} {X : Nat × (Nat → Int32)} {e : Int} (d : Nat) : Vc l X U0 Pt7 e (d + 6) Kc1243 :=
  ck (d := (d + 5)) (Ks := [Kc1123, Kc1126, Kc1132, Kc1136, Kc1140, Kc1144, Kc1148, Kc1127]) (cy := 152) (cd := cdX7_mustName) (nl := 1) (fuel := 1000) (Hs := []) (by decide) rfl (fun na b => by rw [← ceX7_mustName]; exact tkX7_mustName) (List.forall_mem_cons.mpr ⟨vc1123 d, List.forall_mem_cons.mpr ⟨vc1126 d, List.forall_mem_cons.mpr ⟨vc1132 d, List.forall_mem_cons.mpr ⟨vc1136 d, List.forall_mem_cons.mpr ⟨vc1140 d, List.forall_mem_cons.mpr ⟨vc1144 d, List.forall_mem_cons.mpr ⟨vc1148 d, List.forall_mem_cons.mpr ⟨vc1127 (d + 5), fun _ h => absurd h List.not_mem_nil⟩⟩⟩⟩⟩⟩⟩⟩) (cpyX (d + 5)) (by decide +kernel)
def Kc1244 : Con := ((165, [(2, 0, 0, [150]), (0, 11, 14, [])], [(150, 13, (0, 0, 0, [])), (150, 6, (0, 2, 2, [])), (150, 8, (0, 0, 8, []))]), [(150, 4, 10), (150, 13, 13), (152, 0, 7), (154, 78, 81), (154, 170, 201)], [(none, [], [])])
set_option maxRecDepth 20000 in
theorem vc1244 {l : Launch} {X : Nat × (Nat → Int32)} {e : Int} (d : Nat) : Vc l X U0 Pt7 e (d + 7) Kc1244 :=
  ck (d := (d + 6)) (Ks := [Kc1243, Kc1151, Kc1127, Kc1158]) (cy := 152) (cd := cdX7_newName) (nl := 3) (fuel := 1000) (Hs := [((45, 0), ([(0, (2, 0, 0, [150])), (1, (0, 1, 0, [])), (2, (0, 2, 0, []))], [], [(0, 0), (11, 14), (0, 8), (2, 2), (0, 8), (0, 0)], [(150, 6, (0, 3, 0, [])), (150, 8, (0, 4, 0, [])), (150, 13, (0, 5, 0, []))]), [(0, 1, 0), (0, 2, 0), (2, 150, 6), (2, 150, 8), (2, 150, 13)], (16, [(2, (-2))]), [])]) (by decide) rfl (fun na b => by rw [← ceX7_newName]; exact tkX7_newName) (List.forall_mem_cons.mpr ⟨vc1243 d, List.forall_mem_cons.mpr ⟨vc1151 (d + 6), List.forall_mem_cons.mpr ⟨vc1127 (d + 6), List.forall_mem_cons.mpr ⟨vc1158 (d + 4), fun _ h => absurd h List.not_mem_nil⟩⟩⟩⟩) (cpyX (d + 6)) (by decide +kernel)
def Kc1245 : Con := ((180, [(2, 0, 0, [150])], [(150, 13, (0, 0, 0, [])), (150, 6, (0, 2, 2, [])), (150, 8, (0, 0, 8, [])), (154, 6, (0, 0, 3, []))]), [(150, 4, 10), (150, 13, 13), (152, 0, 7), (154, 6, 6), (154, 45, 52), (154, 78, 81), (154, 170, 201)], [(none, [], [])])
set_option maxRecDepth 20000 in
theorem vc1245 {l : Launch} {X : Nat × (Nat → Int32)} {e : Int} (d : Nat) : Vc l X U0 Pt7 e (d + 8) Kc1245 :=
  ck (d := (d + 7)) (Ks := [Kc1244, Kc1231, Kc1236, Kc1241]) (cy := 152) (cd := cdX7_walkerLine) (nl := 4) (fuel := 1000) (Hs := []) (by decide) rfl (fun na b => by rw [← ceX7_walkerLine]; exact tkX7_walkerLine) (List.forall_mem_cons.mpr ⟨vc1244 d, List.forall_mem_cons.mpr ⟨vc1231 d, List.forall_mem_cons.mpr ⟨vc1236 (d + 3), List.forall_mem_cons.mpr ⟨vc1241 d, fun _ h => absurd h List.not_mem_nil⟩⟩⟩⟩) (cpyX (d + 7)) (by decide +kernel)
def Kc1246 : Con := ((163, [(2, 0, 0, [150])], [(150, 13, (0, 0, 0, [])), (150, 6, (0, 3, 59, []))]), [(150, 9, 10), (150, 13, 13)], [(none, [], [(150, 13, (0, 1, 1, []))])])
set_option maxRecDepth 20000 in
theorem vc1246 {l : Launch} {X : Nat × (Nat → Int32)} {e : Int} (d : Nat) : Vc l X U0 Pt7 e (d + 1) Kc1246 :=
  ck (d := d) (Ks := [Kc1127]) (cy := 152) (cd := cdX7_mustName) (nl := 1) (fuel := 1000) (Hs := []) (by decide) rfl (fun na b => by rw [← ceX7_mustName]; exact tkX7_mustName) (List.forall_mem_cons.mpr ⟨vc1127 d, fun _ h => absurd h List.not_mem_nil⟩) (cpyX d) (by decide +kernel)
def Kc1247 : Con := ((165, [(2, 0, 0, [150]), (0, 11, 14, [])], [(150, 13, (0, 0, 0, [])), (150, 6, (0, 3, 59, []))]), [(150, 9, 10), (150, 13, 13)], [(none, [], [])])
set_option maxRecDepth 20000 in
theorem vc1247 {l : Launch} {X : Nat × (Nat → Int32)} {e : Int} (d : Nat) : Vc l X U0 Pt7 e (d + 2) Kc1247 :=
  ck (d := (d + 1)) (Ks := [Kc1246]) (cy := 152) (cd := cdX7_newName) (nl := 3) (fuel := 1000) (Hs := []) (by decide) rfl (fun na b => by rw [← ceX7_newName]; exact tkX7_newName) (List.forall_mem_cons.mpr ⟨vc1246 d, fun _ h => absurd h List.not_mem_nil⟩) (cpyX (d + 1)) (by decide +kernel)
def Kc1248 : Con := ((180, [(2, 0, 0, [150])], [(150, 13, (0, 0, 0, [])), (150, 6, (0, 3, 59, [])), (154, 6, (0, 0, 3, []))]), [(150, 4, 10), (150, 13, 13), (152, 0, 7), (154, 6, 6), (154, 45, 52)], [(none, [], [])])
set_option maxRecDepth 20000 in
theorem vc1248 {l : Launch} {X : Nat × (Nat → Int32)} {e : Int} (d : Nat) : Vc l X U0 Pt7 e (d + 8) Kc1248 :=
  ck (d := (d + 7)) (Ks := [Kc1247, Kc1231, Kc1236, Kc1241]) (cy := 152) (cd := cdX7_walkerLine) (nl := 4) (fuel := 1000) (Hs := []) (by decide) rfl (fun na b => by rw [← ceX7_walkerLine]; exact tkX7_walkerLine) (List.forall_mem_cons.mpr ⟨vc1247 (d + 5), List.forall_mem_cons.mpr ⟨vc1231 d, List.forall_mem_cons.mpr ⟨vc1236 (d + 3), List.forall_mem_cons.mpr ⟨vc1241 d, fun _ h => absurd h List.not_mem_nil⟩⟩⟩⟩) (cpyX (d + 7)) (by decide +kernel)
def Kc1249 : Con := ((165, [(2, 0, 0, [150]), (0, 6, 6, [])], [(150, 13, (0, 0, 0, [])), (150, 6, (0, 0, 1, []))]), [(150, 9, 10), (150, 13, 13)], [(none, [], [])])
set_option maxRecDepth 20000 in
theorem vc1249 {l : Launch} {X : Nat × (Nat → Int32)} {e : Int} (d : Nat) : Vc l X U0 Pt7 e (d + 2) Kc1249 :=
  ck (d := (d + 1)) (Ks := [Kc1225]) (cy := 152) (cd := cdX7_newName) (nl := 3) (fuel := 1000) (Hs := []) (by decide) rfl (fun na b => by rw [← ceX7_newName]; exact tkX7_newName) (List.forall_mem_cons.mpr ⟨vc1225 d, fun _ h => absurd h List.not_mem_nil⟩) (cpyX (d + 1)) (by decide +kernel)
def Kc1250 : Con := ((280, [(2, 0, 0, [5037])], []), [], [(some (0, 5, 5, []), [], [])])
set_option maxRecDepth 20000 in
theorem vc1250 {l : Launch} {X : Nat × (Nat → Int32)} {e : Int} (d : Nat) : Vc l X U0 Pt7 e (d + 4) Kc1250 := vh_len d [5037] 5 5 (by decide +kernel)
def Kc1251 : Con := ((281, [(2, 0, 0, [5037]), (0, 0, 4, [])], []), [], [(some (0, 0, 65535, []), [], [])])
set_option maxRecDepth 20000 in
theorem vc1251 {l : Launch} {X : Nat × (Nat → Int32)} {e : Int} (d : Nat) : Vc l X U0 Pt7 e (d + 4) Kc1251 := vh_char d [5037] 0 4 (by decide +kernel)
def Kc1252 : Con := ((160, [(2, 0, 0, [150]), (2, 0, 0, [5037])], []), [], [(some (0, 0, 0, []), [], []), (some (0, 0, 1, []), [], [])])
set_option maxRecDepth 20000 in
theorem vc1252 {l : Launch} {X : Nat × (Nat → Int32)} {e : Int} (d : Nat) : Vc l X U0 Pt7 e (d + 5) Kc1252 :=
  ck (d := (d + 4)) (Ks := [Kc1250, Kc1251]) (cy := 152) (cd := cdX7_isWord) (nl := 4) (fuel := 1000) (Hs := [((32, 0), ([(0, (2, 0, 0, [150])), (1, (2, 0, 0, [5037])), (2, (0, 1, 0, [])), (3, (0, 2, 0, []))], [], [(0, 0), (0, 1), (0, 5), (5, 5)], [(150, 8, (0, 3, 0, []))]), [(0, 2, 0), (0, 3, 0), (2, 150, 8)], (10, [(2, (-2))]), [])]) (by decide) rfl (fun na b => by rw [← ceX7_isWord]; exact tkX7_isWord) (List.forall_mem_cons.mpr ⟨vc1250 d, List.forall_mem_cons.mpr ⟨vc1251 d, fun _ h => absurd h List.not_mem_nil⟩⟩) (cpyX (d + 4)) (by decide +kernel)
def Kc1253 : Con := ((161, [(2, 0, 0, [150]), (2, 0, 0, [5037])], []), [(150, 4, 8), (152, 0, 7)], [(some (0, 0, 1, []), [], [])])
set_option maxRecDepth 20000 in
theorem vc1253 {l : Launch} {X : Nat × (Nat → Int32)} {e : Int} (d : Nat) : Vc l X U0 Pt7 e (d + 6) Kc1253 :=
  ck (d := (d + 5)) (Ks := [Kc1252, Kc1158]) (cy := 152) (cd := cdX7_takesWord) (nl := 2) (fuel := 1000) (Hs := []) (by decide) rfl (fun na b => by rw [← ceX7_takesWord]; exact tkX7_takesWord) (List.forall_mem_cons.mpr ⟨vc1252 d, List.forall_mem_cons.mpr ⟨vc1158 (d + 3), fun _ h => absurd h List.not_mem_nil⟩⟩) (cpyX (d + 5)) (by decide +kernel)
def Kc1254 : Con := ((162, [(2, 0, 0, [150]), (2, 0, 0, [5037])], []), [(150, 4, 10), (150, 13, 13), (152, 0, 7)], [(none, [], [])])
set_option maxRecDepth 20000 in
theorem vc1254 {l : Launch} {X : Nat × (Nat → Int32)} {e : Int} (d : Nat) : Vc l X U0 Pt7 e (d + 7) Kc1254 :=
  ck (d := (d + 6)) (Ks := [Kc1253, Kc1127]) (cy := 152) (cd := cdX7_must) (nl := 2) (fuel := 1000) (Hs := []) (by decide) rfl (fun na b => by rw [← ceX7_must]; exact tkX7_must) (List.forall_mem_cons.mpr ⟨vc1253 d, List.forall_mem_cons.mpr ⟨vc1127 (d + 6), fun _ h => absurd h List.not_mem_nil⟩⟩) (cpyX (d + 6)) (by decide +kernel)
def Kc1255 : Con := ((170, [(2, 0, 0, [150]), (2, 0, 0, [5037]), (0, 1, 1, []), (0, 30, 30, [])], []), [(150, 4, 10), (150, 13, 13), (152, 0, 7)], [(some (0, 1, 30, []), [], [])])
set_option maxRecDepth 20000 in
theorem vc1255 {l : Launch} {X : Nat × (Nat → Int32)} {e : Int} (d : Nat) : Vc l X U0 Pt7 e (d + 8) Kc1255 :=
  ck (d := (d + 7)) (Ks := [Kc1254, Kc1222]) (cy := 152) (cd := cdX7_after) (nl := 4) (fuel := 1000) (Hs := []) (by decide) rfl (fun na b => by rw [← ceX7_after]; exact tkX7_after) (List.forall_mem_cons.mpr ⟨vc1254 d, List.forall_mem_cons.mpr ⟨vc1222 (d + 3), fun _ h => absurd h List.not_mem_nil⟩⟩) (cpyX (d + 7)) (by decide +kernel)
def Kc1256 : Con := ((280, [(2, 0, 0, [5038])], []), [], [(some (0, 5, 5, []), [], [])])
set_option maxRecDepth 20000 in
theorem vc1256 {l : Launch} {X : Nat × (Nat → Int32)} {e : Int} (d : Nat) : Vc l X U0 Pt7 e (d + 4) Kc1256 := vh_len d [5038] 5 5 (by decide +kernel)
def Kc1257 : Con := ((281, [(2, 0, 0, [5038]), (0, 0, 4, [])], []), [], [(some (0, 0, 65535, []), [], [])])
set_option maxRecDepth 20000 in
theorem vc1257 {l : Launch} {X : Nat × (Nat → Int32)} {e : Int} (d : Nat) : Vc l X U0 Pt7 e (d + 4) Kc1257 := vh_char d [5038] 0 4 (by decide +kernel)
def Kc1258 : Con := ((160, [(2, 0, 0, [150]), (2, 0, 0, [5038])], []), [], [(some (0, 0, 0, []), [], []), (some (0, 0, 1, []), [], [])])
set_option maxRecDepth 20000 in
theorem vc1258 {l : Launch} {X : Nat × (Nat → Int32)} {e : Int} (d : Nat) : Vc l X U0 Pt7 e (d + 5) Kc1258 :=
  ck (d := (d + 4)) (Ks := [Kc1256, Kc1257]) (cy := 152) (cd := cdX7_isWord) (nl := 4) (fuel := 1000) (Hs := [((32, 0), ([(0, (2, 0, 0, [150])), (1, (2, 0, 0, [5038])), (2, (0, 1, 0, [])), (3, (0, 2, 0, []))], [], [(0, 0), (0, 1), (0, 5), (5, 5)], [(150, 8, (0, 3, 0, []))]), [(0, 2, 0), (0, 3, 0), (2, 150, 8)], (10, [(2, (-2))]), [])]) (by decide) rfl (fun na b => by rw [← ceX7_isWord]; exact tkX7_isWord) (List.forall_mem_cons.mpr ⟨vc1256 d, List.forall_mem_cons.mpr ⟨vc1257 d, fun _ h => absurd h List.not_mem_nil⟩⟩) (cpyX (d + 4)) (by decide +kernel)
def Kc1259 : Con := ((161, [(2, 0, 0, [150]), (2, 0, 0, [5038])], []), [(150, 4, 8), (152, 0, 7)], [(some (0, 0, 1, []), [], [])])
set_option maxRecDepth 20000 in
theorem vc1259 {l : Launch} {X : Nat × (Nat → Int32)} {e : Int} (d : Nat) : Vc l X U0 Pt7 e (d + 6) Kc1259 :=
  ck (d := (d + 5)) (Ks := [Kc1258, Kc1158]) (cy := 152) (cd := cdX7_takesWord) (nl := 2) (fuel := 1000) (Hs := []) (by decide) rfl (fun na b => by rw [← ceX7_takesWord]; exact tkX7_takesWord) (List.forall_mem_cons.mpr ⟨vc1258 d, List.forall_mem_cons.mpr ⟨vc1158 (d + 3), fun _ h => absurd h List.not_mem_nil⟩⟩) (cpyX (d + 5)) (by decide +kernel)
def Kc1260 : Con := ((162, [(2, 0, 0, [150]), (2, 0, 0, [5038])], []), [(150, 4, 10), (150, 13, 13), (152, 0, 7)], [(none, [], [])])
set_option maxRecDepth 20000 in
theorem vc1260 {l : Launch} {X : Nat × (Nat → Int32)} {e : Int} (d : Nat) : Vc l X U0 Pt7 e (d + 7) Kc1260 :=
  ck (d := (d + 6)) (Ks := [Kc1259, Kc1127]) (cy := 152) (cd := cdX7_must) (nl := 2) (fuel := 1000) (Hs := []) (by decide) rfl (fun na b => by rw [← ceX7_must]; exact tkX7_must) (List.forall_mem_cons.mpr ⟨vc1259 d, List.forall_mem_cons.mpr ⟨vc1127 (d + 6), fun _ h => absurd h List.not_mem_nil⟩⟩) (cpyX (d + 6)) (by decide +kernel)
def Kc1261 : Con := ((149, [(0, iLo, iHi, []), (0, 1, 1, []), (0, 9, 9, [])], []), [], [(some (0, 0, 0, []), [], []), (some (0, 1, 1, []), [(0, 1, 9)], [])])
set_option maxRecDepth 20000 in
theorem vc1261 {l : Launch} {X : Nat × (Nat → Int32)} {e : Int} (d : Nat) : Vc l X U0 Pt7 e d Kc1261 :=
  ck (d := d) (Ks := []) (cy := 152) (cd := cdX7_in) (nl := 3) (fuel := 1000) (Hs := []) (by decide) rfl (fun na b => by rw [← ceX7_in]; exact tkX7_in) (fun _ h => absurd h List.not_mem_nil) (cpyX d) (by decide +kernel)
def Kc1262 : Con := ((168, [(2, 0, 0, [150]), (0, 1, 1, []), (0, 9, 9, [])], []), [(150, 9, 10), (150, 13, 13)], [(some (0, 1, 9, []), [], [])])
set_option maxRecDepth 20000 in
theorem vc1262 {l : Launch} {X : Nat × (Nat → Int32)} {e : Int} (d : Nat) : Vc l X U0 Pt7 e (d + 1) Kc1262 :=
  ck (d := d) (Ks := [Kc1261, Kc1127]) (cy := 152) (cd := cdX7_numberHere) (nl := 3) (fuel := 1000) (Hs := []) (by decide) rfl (fun na b => by rw [← ceX7_numberHere]; exact tkX7_numberHere) (List.forall_mem_cons.mpr ⟨vc1261 d, List.forall_mem_cons.mpr ⟨vc1127 d, fun _ h => absurd h List.not_mem_nil⟩⟩) (cpyX d) (by decide +kernel)
def Kc1263 : Con := ((169, [(2, 0, 0, [150]), (0, 1, 1, []), (0, 9, 9, [])], []), [(150, 4, 10), (150, 13, 13), (152, 0, 7)], [(some (0, 1, 9, []), [], [])])
set_option maxRecDepth 20000 in
theorem vc1263 {l : Launch} {X : Nat × (Nat → Int32)} {e : Int} (d : Nat) : Vc l X U0 Pt7 e (d + 4) Kc1263 :=
  ck (d := (d + 3)) (Ks := [Kc1262, Kc1163]) (cy := 152) (cd := cdX7_number) (nl := 4) (fuel := 1000) (Hs := []) (by decide) rfl (fun na b => by rw [← ceX7_number]; exact tkX7_number) (List.forall_mem_cons.mpr ⟨vc1262 (d + 2), List.forall_mem_cons.mpr ⟨vc1163 d, fun _ h => absurd h List.not_mem_nil⟩⟩) (cpyX (d + 3)) (by decide +kernel)
def Kc1264 : Con := ((170, [(2, 0, 0, [150]), (2, 0, 0, [5038]), (0, 1, 1, []), (0, 9, 9, [])], []), [(150, 4, 10), (150, 13, 13), (152, 0, 7)], [(some (0, 1, 9, []), [], [])])
set_option maxRecDepth 20000 in
theorem vc1264 {l : Launch} {X : Nat × (Nat → Int32)} {e : Int} (d : Nat) : Vc l X U0 Pt7 e (d + 8) Kc1264 :=
  ck (d := (d + 7)) (Ks := [Kc1260, Kc1263]) (cy := 152) (cd := cdX7_after) (nl := 4) (fuel := 1000) (Hs := []) (by decide) rfl (fun na b => by rw [← ceX7_after]; exact tkX7_after) (List.forall_mem_cons.mpr ⟨vc1260 d, List.forall_mem_cons.mpr ⟨vc1263 (d + 3), fun _ h => absurd h List.not_mem_nil⟩⟩) (cpyX (d + 7)) (by decide +kernel)
def Kc1265 : Con := ((178, [(2, 0, 0, [150])], [(150, 13, (0, 0, 0, [])), (150, 6, (0, 0, 1, [])), (154, 5, (0, 0, 0, []))]), [(150, 4, 10), (150, 13, 13), (152, 0, 7), (154, 5, 5), (154, 35, 36), (156, 18, 18)], [(none, [], [(154, 5, (0, 1, 1, [])), (154, 35, (0, 1, 30, [])), (154, 36, (0, 1, 9, []))]), (none, [], [(154, 5, (0, 0, 0, []))])])
set_option maxRecDepth 20000 in
theorem vc1265 {l : Launch} {X : Nat × (Nat → Int32)} {e : Int} (d : Nat) : Vc l X U0 Pt7 e (d + 9) Kc1265 :=
  ck (d := (d + 8)) (Ks := [Kc1249, Kc1154, Kc1163, Kc1255, Kc1264]) (cy := 152) (cd := cdX7_canonLine) (nl := 5) (fuel := 1000) (Hs := [((32, 0), ([(0, (2, 0, 0, [150])), (1, (0, 1, 0, [])), (2, (0, 2, 0, [])), (3, (0, 0, 0, []))], [], [(0, 0), (0, 0), (0, 5), (0, 1)], [(150, 6, (0, 3, 0, [])), (154, 5, (0, 1, 0, []))]), [(0, 1, 0), (0, 2, 0), (2, 150, 6)], (0, []), [])]) (by decide) rfl (fun na b => by rw [← ceX7_canonLine]; exact tkX7_canonLine) (List.forall_mem_cons.mpr ⟨vc1249 (d + 6), List.forall_mem_cons.mpr ⟨vc1154 (d + 1), List.forall_mem_cons.mpr ⟨vc1163 (d + 5), List.forall_mem_cons.mpr ⟨vc1255 d, List.forall_mem_cons.mpr ⟨vc1264 d, fun _ h => absurd h List.not_mem_nil⟩⟩⟩⟩⟩) (cpyX (d + 8)) (by decide +kernel)
def Kc1266 : Con := ((165, [(2, 0, 0, [150]), (0, 6, 6, [])], [(150, 13, (0, 0, 0, [])), (150, 6, (0, 2, 2, [])), (150, 8, (0, 0, 8, []))]), [(150, 4, 10), (150, 13, 13), (152, 0, 7), (154, 73, 73), (154, 130, 137)], [(none, [], [])])
set_option maxRecDepth 20000 in
theorem vc1266 {l : Launch} {X : Nat × (Nat → Int32)} {e : Int} (d : Nat) : Vc l X U0 Pt7 e (d + 7) Kc1266 :=
  ck (d := (d + 6)) (Ks := [Kc1243, Kc1151, Kc1127, Kc1158]) (cy := 152) (cd := cdX7_newName) (nl := 3) (fuel := 1000) (Hs := [((45, 0), ([(0, (2, 0, 0, [150])), (1, (0, 1, 0, [])), (2, (0, 2, 0, []))], [], [(0, 0), (6, 6), (0, 8), (2, 2), (0, 8), (0, 0)], [(150, 6, (0, 3, 0, [])), (150, 8, (0, 4, 0, [])), (150, 13, (0, 5, 0, []))]), [(0, 1, 0), (0, 2, 0), (2, 150, 6), (2, 150, 8), (2, 150, 13)], (16, [(2, (-2))]), [])]) (by decide) rfl (fun na b => by rw [← ceX7_newName]; exact tkX7_newName) (List.forall_mem_cons.mpr ⟨vc1243 d, List.forall_mem_cons.mpr ⟨vc1151 (d + 6), List.forall_mem_cons.mpr ⟨vc1127 (d + 6), List.forall_mem_cons.mpr ⟨vc1158 (d + 4), fun _ h => absurd h List.not_mem_nil⟩⟩⟩⟩) (cpyX (d + 6)) (by decide +kernel)
def Kc1267 : Con := ((178, [(2, 0, 0, [150])], [(150, 13, (0, 0, 0, [])), (150, 6, (0, 2, 2, [])), (150, 8, (0, 0, 8, [])), (154, 5, (0, 0, 0, []))]), [(150, 4, 10), (150, 13, 13), (152, 0, 7), (154, 5, 5), (154, 35, 36), (154, 73, 73), (154, 130, 137), (156, 18, 18)], [(none, [], [(154, 5, (0, 1, 1, [])), (154, 35, (0, 1, 30, [])), (154, 36, (0, 1, 9, []))]), (none, [], [(154, 5, (0, 0, 0, []))])])
set_option maxRecDepth 20000 in
theorem vc1267 {l : Launch} {X : Nat × (Nat → Int32)} {e : Int} (d : Nat) : Vc l X U0 Pt7 e (d + 9) Kc1267 :=
  ck (d := (d + 8)) (Ks := [Kc1266, Kc1154, Kc1163, Kc1255, Kc1264]) (cy := 152) (cd := cdX7_canonLine) (nl := 5) (fuel := 1000) (Hs := [((32, 0), ([(0, (2, 0, 0, [150])), (1, (0, 1, 0, [])), (2, (0, 2, 0, [])), (3, (0, 0, 0, []))], [], [(0, 0), (0, 0), (0, 5)], [(154, 5, (0, 1, 0, []))]), [(0, 1, 0), (0, 2, 0)], (0, []), [])]) (by decide) rfl (fun na b => by rw [← ceX7_canonLine]; exact tkX7_canonLine) (List.forall_mem_cons.mpr ⟨vc1266 (d + 1), List.forall_mem_cons.mpr ⟨vc1154 (d + 1), List.forall_mem_cons.mpr ⟨vc1163 (d + 5), List.forall_mem_cons.mpr ⟨vc1255 d, List.forall_mem_cons.mpr ⟨vc1264 d, fun _ h => absurd h List.not_mem_nil⟩⟩⟩⟩⟩) (cpyX (d + 8)) (by decide +kernel)
def Kc1268 : Con := ((165, [(2, 0, 0, [150]), (0, 6, 6, [])], [(150, 13, (0, 0, 0, [])), (150, 6, (0, 3, 59, []))]), [(150, 9, 10), (150, 13, 13)], [(none, [], [])])
set_option maxRecDepth 20000 in
theorem vc1268 {l : Launch} {X : Nat × (Nat → Int32)} {e : Int} (d : Nat) : Vc l X U0 Pt7 e (d + 2) Kc1268 :=
  ck (d := (d + 1)) (Ks := [Kc1246]) (cy := 152) (cd := cdX7_newName) (nl := 3) (fuel := 1000) (Hs := []) (by decide) rfl (fun na b => by rw [← ceX7_newName]; exact tkX7_newName) (List.forall_mem_cons.mpr ⟨vc1246 d, fun _ h => absurd h List.not_mem_nil⟩) (cpyX (d + 1)) (by decide +kernel)
def Kc1269 : Con := ((178, [(2, 0, 0, [150])], [(150, 13, (0, 0, 0, [])), (150, 6, (0, 3, 59, [])), (154, 5, (0, 0, 0, []))]), [(150, 4, 10), (150, 13, 13), (152, 0, 7), (154, 5, 5), (154, 35, 36), (156, 18, 18)], [(none, [], [(154, 5, (0, 1, 1, [])), (154, 35, (0, 1, 30, [])), (154, 36, (0, 1, 9, []))]), (none, [], [(154, 5, (0, 0, 0, []))])])
set_option maxRecDepth 20000 in
theorem vc1269 {l : Launch} {X : Nat × (Nat → Int32)} {e : Int} (d : Nat) : Vc l X U0 Pt7 e (d + 9) Kc1269 :=
  ck (d := (d + 8)) (Ks := [Kc1268, Kc1154, Kc1163, Kc1255, Kc1264]) (cy := 152) (cd := cdX7_canonLine) (nl := 5) (fuel := 1000) (Hs := [((32, 0), ([(0, (2, 0, 0, [150])), (1, (0, 1, 0, [])), (2, (0, 2, 0, [])), (3, (0, 0, 0, []))], [], [(0, 0), (0, 0), (0, 5), (3, 59)], [(150, 6, (0, 3, 0, [])), (154, 5, (0, 1, 0, []))]), [(0, 1, 0), (0, 2, 0), (2, 150, 6)], (0, []), [])]) (by decide) rfl (fun na b => by rw [← ceX7_canonLine]; exact tkX7_canonLine) (List.forall_mem_cons.mpr ⟨vc1268 (d + 6), List.forall_mem_cons.mpr ⟨vc1154 (d + 1), List.forall_mem_cons.mpr ⟨vc1163 (d + 5), List.forall_mem_cons.mpr ⟨vc1255 d, List.forall_mem_cons.mpr ⟨vc1264 d, fun _ h => absurd h List.not_mem_nil⟩⟩⟩⟩⟩) (cpyX (d + 8)) (by decide +kernel)
def Kc1270 : Con := ((172, [(2, 0, 0, [150]), (2, 0, 0, [5023]), (0, 1, 1, [])], [(154, 9, (0, 1, 1, []))]), [(150, 4, 10), (150, 13, 13), (152, 0, 7)], [(some (0, 0, 0, []), [], []), (some (0, 1, 1, []), [], [(150, 13, (0, 1, 1, []))]), (some (0, 1, 1, []), [], [(150, 6, (0, 0, 1, [])), (150, 13, (0, 0, 0, []))]), (some (0, 1, 1, []), [], [(150, 6, (0, 2, 2, [])), (150, 8, (0, 0, 8, [])), (150, 13, (0, 0, 0, []))]), (some (0, 1, 1, []), [], [(150, 6, (0, 3, 59, [])), (150, 13, (0, 0, 0, []))])])
set_option maxRecDepth 20000 in
theorem vc1270 {l : Launch} {X : Nat × (Nat → Int32)} {e : Int} (d : Nat) : Vc l X U0 Pt7 e (d + 6) Kc1270 :=
  ck (d := (d + 5)) (Ks := [Kc1132, Kc1163, Kc1126, Kc1127, Kc1128]) (cy := 152) (cd := cdX7_begins) (nl := 3) (fuel := 1000) (Hs := []) (by decide) rfl (fun na b => by rw [← ceX7_begins]; exact tkX7_begins) (List.forall_mem_cons.mpr ⟨vc1132 d, List.forall_mem_cons.mpr ⟨vc1163 (d + 2), List.forall_mem_cons.mpr ⟨vc1126 d, List.forall_mem_cons.mpr ⟨vc1127 (d + 5), List.forall_mem_cons.mpr ⟨vc1128 (d + 4), fun _ h => absurd h List.not_mem_nil⟩⟩⟩⟩⟩) (cpyX (d + 5)) (by decide +kernel)
def Kc1271 : Con := ((165, [(2, 0, 0, [150]), (0, 0, 5, [])], [(150, 13, (0, 0, 0, [])), (150, 6, (0, 0, 1, []))]), [(150, 9, 10), (150, 13, 13)], [(none, [], [])])
set_option maxRecDepth 20000 in
theorem vc1271 {l : Launch} {X : Nat × (Nat → Int32)} {e : Int} (d : Nat) : Vc l X U0 Pt7 e (d + 2) Kc1271 :=
  ck (d := (d + 1)) (Ks := [Kc1225]) (cy := 152) (cd := cdX7_newName) (nl := 3) (fuel := 1000) (Hs := []) (by decide) rfl (fun na b => by rw [← ceX7_newName]; exact tkX7_newName) (List.forall_mem_cons.mpr ⟨vc1225 d, fun _ h => absurd h List.not_mem_nil⟩) (cpyX (d + 1)) (by decide +kernel)
def Kc1272 : Con := ((280, [(2, 0, 0, [5034])], []), [], [(some (0, 3, 3, []), [], [])])
set_option maxRecDepth 20000 in
theorem vc1272 {l : Launch} {X : Nat × (Nat → Int32)} {e : Int} (d : Nat) : Vc l X U0 Pt7 e (d + 4) Kc1272 := vh_len d [5034] 3 3 (by decide +kernel)
def Kc1273 : Con := ((281, [(2, 0, 0, [5034]), (0, 0, 2, [])], []), [], [(some (0, 0, 65535, []), [], [])])
set_option maxRecDepth 20000 in
theorem vc1273 {l : Launch} {X : Nat × (Nat → Int32)} {e : Int} (d : Nat) : Vc l X U0 Pt7 e (d + 4) Kc1273 := vh_char d [5034] 0 2 (by decide +kernel)
def Kc1274 : Con := ((160, [(2, 0, 0, [150]), (2, 0, 0, [5034])], []), [], [(some (0, 0, 0, []), [], []), (some (0, 0, 1, []), [], [])])
set_option maxRecDepth 20000 in
theorem vc1274 {l : Launch} {X : Nat × (Nat → Int32)} {e : Int} (d : Nat) : Vc l X U0 Pt7 e (d + 5) Kc1274 :=
  ck (d := (d + 4)) (Ks := [Kc1272, Kc1273]) (cy := 152) (cd := cdX7_isWord) (nl := 4) (fuel := 1000) (Hs := [((32, 0), ([(0, (2, 0, 0, [150])), (1, (2, 0, 0, [5034])), (2, (0, 1, 0, [])), (3, (0, 2, 0, []))], [], [(0, 0), (0, 1), (0, 3), (3, 3)], [(150, 8, (0, 3, 0, []))]), [(0, 2, 0), (0, 3, 0), (2, 150, 8)], (6, [(2, (-2))]), [])]) (by decide) rfl (fun na b => by rw [← ceX7_isWord]; exact tkX7_isWord) (List.forall_mem_cons.mpr ⟨vc1272 d, List.forall_mem_cons.mpr ⟨vc1273 d, fun _ h => absurd h List.not_mem_nil⟩⟩) (cpyX (d + 4)) (by decide +kernel)
def Kc1275 : Con := ((280, [(2, 0, 0, [5035])], []), [], [(some (0, 4, 4, []), [], [])])
set_option maxRecDepth 20000 in
theorem vc1275 {l : Launch} {X : Nat × (Nat → Int32)} {e : Int} (d : Nat) : Vc l X U0 Pt7 e (d + 4) Kc1275 := vh_len d [5035] 4 4 (by decide +kernel)
def Kc1276 : Con := ((281, [(2, 0, 0, [5035]), (0, 0, 3, [])], []), [], [(some (0, 0, 65535, []), [], [])])
set_option maxRecDepth 20000 in
theorem vc1276 {l : Launch} {X : Nat × (Nat → Int32)} {e : Int} (d : Nat) : Vc l X U0 Pt7 e (d + 4) Kc1276 := vh_char d [5035] 0 3 (by decide +kernel)
def Kc1277 : Con := ((160, [(2, 0, 0, [150]), (2, 0, 0, [5035])], []), [], [(some (0, 0, 0, []), [], []), (some (0, 0, 1, []), [], [])])
set_option maxRecDepth 20000 in
theorem vc1277 {l : Launch} {X : Nat × (Nat → Int32)} {e : Int} (d : Nat) : Vc l X U0 Pt7 e (d + 5) Kc1277 :=
  ck (d := (d + 4)) (Ks := [Kc1275, Kc1276]) (cy := 152) (cd := cdX7_isWord) (nl := 4) (fuel := 1000) (Hs := [((32, 0), ([(0, (2, 0, 0, [150])), (1, (2, 0, 0, [5035])), (2, (0, 1, 0, [])), (3, (0, 2, 0, []))], [], [(0, 0), (0, 1), (0, 4), (4, 4)], [(150, 8, (0, 3, 0, []))]), [(0, 2, 0), (0, 3, 0), (2, 150, 8)], (8, [(2, (-2))]), [])]) (by decide) rfl (fun na b => by rw [← ceX7_isWord]; exact tkX7_isWord) (List.forall_mem_cons.mpr ⟨vc1275 d, List.forall_mem_cons.mpr ⟨vc1276 d, fun _ h => absurd h List.not_mem_nil⟩⟩) (cpyX (d + 4)) (by decide +kernel)
def Kc1278 : Con := ((280, [(2, 0, 0, [5036])], []), [], [(some (0, 3, 3, []), [], [])])
set_option maxRecDepth 20000 in
theorem vc1278 {l : Launch} {X : Nat × (Nat → Int32)} {e : Int} (d : Nat) : Vc l X U0 Pt7 e (d + 4) Kc1278 := vh_len d [5036] 3 3 (by decide +kernel)
def Kc1279 : Con := ((281, [(2, 0, 0, [5036]), (0, 0, 2, [])], []), [], [(some (0, 0, 65535, []), [], [])])
set_option maxRecDepth 20000 in
theorem vc1279 {l : Launch} {X : Nat × (Nat → Int32)} {e : Int} (d : Nat) : Vc l X U0 Pt7 e (d + 4) Kc1279 := vh_char d [5036] 0 2 (by decide +kernel)
def Kc1280 : Con := ((160, [(2, 0, 0, [150]), (2, 0, 0, [5036])], []), [], [(some (0, 0, 0, []), [], []), (some (0, 0, 1, []), [], [])])
set_option maxRecDepth 20000 in
theorem vc1280 {l : Launch} {X : Nat × (Nat → Int32)} {e : Int} (d : Nat) : Vc l X U0 Pt7 e (d + 5) Kc1280 :=
  ck (d := (d + 4)) (Ks := [Kc1278, Kc1279]) (cy := 152) (cd := cdX7_isWord) (nl := 4) (fuel := 1000) (Hs := [((32, 0), ([(0, (2, 0, 0, [150])), (1, (2, 0, 0, [5036])), (2, (0, 1, 0, [])), (3, (0, 2, 0, []))], [], [(0, 0), (0, 1), (0, 3), (3, 3)], [(150, 8, (0, 3, 0, []))]), [(0, 2, 0), (0, 3, 0), (2, 150, 8)], (6, [(2, (-2))]), [])]) (by decide) rfl (fun na b => by rw [← ceX7_isWord]; exact tkX7_isWord) (List.forall_mem_cons.mpr ⟨vc1278 d, List.forall_mem_cons.mpr ⟨vc1279 d, fun _ h => absurd h List.not_mem_nil⟩⟩) (cpyX (d + 4)) (by decide +kernel)
def Kc1281 : Con := ((280, [(2, 0, 0, [5031])], []), [], [(some (0, 5, 5, []), [], [])])
set_option maxRecDepth 20000 in
theorem vc1281 {l : Launch} {X : Nat × (Nat → Int32)} {e : Int} (d : Nat) : Vc l X U0 Pt7 e (d + 4) Kc1281 := vh_len d [5031] 5 5 (by decide +kernel)
def Kc1282 : Con := ((281, [(2, 0, 0, [5031]), (0, 0, 4, [])], []), [], [(some (0, 0, 65535, []), [], [])])
set_option maxRecDepth 20000 in
theorem vc1282 {l : Launch} {X : Nat × (Nat → Int32)} {e : Int} (d : Nat) : Vc l X U0 Pt7 e (d + 4) Kc1282 := vh_char d [5031] 0 4 (by decide +kernel)
def Kc1283 : Con := ((160, [(2, 0, 0, [150]), (2, 0, 0, [5031])], []), [], [(some (0, 0, 0, []), [], []), (some (0, 0, 1, []), [], [])])
set_option maxRecDepth 20000 in
theorem vc1283 {l : Launch} {X : Nat × (Nat → Int32)} {e : Int} (d : Nat) : Vc l X U0 Pt7 e (d + 5) Kc1283 :=
  ck (d := (d + 4)) (Ks := [Kc1281, Kc1282]) (cy := 152) (cd := cdX7_isWord) (nl := 4) (fuel := 1000) (Hs := [((32, 0), ([(0, (2, 0, 0, [150])), (1, (2, 0, 0, [5031])), (2, (0, 1, 0, [])), (3, (0, 2, 0, []))], [], [(0, 0), (0, 1), (0, 5), (5, 5)], [(150, 8, (0, 3, 0, []))]), [(0, 2, 0), (0, 3, 0), (2, 150, 8)], (10, [(2, (-2))]), [])]) (by decide) rfl (fun na b => by rw [← ceX7_isWord]; exact tkX7_isWord) (List.forall_mem_cons.mpr ⟨vc1281 d, List.forall_mem_cons.mpr ⟨vc1282 d, fun _ h => absurd h List.not_mem_nil⟩⟩) (cpyX (d + 4)) (by decide +kernel)
def Kc1284 : Con := ((161, [(2, 0, 0, [150]), (2, 0, 0, [5031])], []), [(150, 4, 8), (152, 0, 7)], [(some (0, 0, 1, []), [], [])])
set_option maxRecDepth 20000 in
theorem vc1284 {l : Launch} {X : Nat × (Nat → Int32)} {e : Int} (d : Nat) : Vc l X U0 Pt7 e (d + 6) Kc1284 :=
  ck (d := (d + 5)) (Ks := [Kc1283, Kc1158]) (cy := 152) (cd := cdX7_takesWord) (nl := 2) (fuel := 1000) (Hs := []) (by decide) rfl (fun na b => by rw [← ceX7_takesWord]; exact tkX7_takesWord) (List.forall_mem_cons.mpr ⟨vc1283 d, List.forall_mem_cons.mpr ⟨vc1158 (d + 3), fun _ h => absurd h List.not_mem_nil⟩⟩) (cpyX (d + 5)) (by decide +kernel)
def Kc1285 : Con := ((162, [(2, 0, 0, [150]), (2, 0, 0, [5031])], []), [(150, 4, 10), (150, 13, 13), (152, 0, 7)], [(none, [], [])])
set_option maxRecDepth 20000 in
theorem vc1285 {l : Launch} {X : Nat × (Nat → Int32)} {e : Int} (d : Nat) : Vc l X U0 Pt7 e (d + 7) Kc1285 :=
  ck (d := (d + 6)) (Ks := [Kc1284, Kc1127]) (cy := 152) (cd := cdX7_must) (nl := 2) (fuel := 1000) (Hs := []) (by decide) rfl (fun na b => by rw [← ceX7_must]; exact tkX7_must) (List.forall_mem_cons.mpr ⟨vc1284 d, List.forall_mem_cons.mpr ⟨vc1127 (d + 6), fun _ h => absurd h List.not_mem_nil⟩⟩) (cpyX (d + 6)) (by decide +kernel)
def Kc1286 : Con := ((149, [(0, iLo, iHi, []), (0, 1, 1, []), (0, 99, 99, [])], []), [], [(some (0, 0, 0, []), [], []), (some (0, 1, 1, []), [(0, 1, 99)], [])])
set_option maxRecDepth 20000 in
theorem vc1286 {l : Launch} {X : Nat × (Nat → Int32)} {e : Int} (d : Nat) : Vc l X U0 Pt7 e d Kc1286 :=
  ck (d := d) (Ks := []) (cy := 152) (cd := cdX7_in) (nl := 3) (fuel := 1000) (Hs := []) (by decide) rfl (fun na b => by rw [← ceX7_in]; exact tkX7_in) (fun _ h => absurd h List.not_mem_nil) (cpyX d) (by decide +kernel)
def Kc1287 : Con := ((168, [(2, 0, 0, [150]), (0, 1, 1, []), (0, 99, 99, [])], []), [(150, 9, 10), (150, 13, 13)], [(some (0, 1, 99, []), [], [])])
set_option maxRecDepth 20000 in
theorem vc1287 {l : Launch} {X : Nat × (Nat → Int32)} {e : Int} (d : Nat) : Vc l X U0 Pt7 e (d + 1) Kc1287 :=
  ck (d := d) (Ks := [Kc1286, Kc1127]) (cy := 152) (cd := cdX7_numberHere) (nl := 3) (fuel := 1000) (Hs := []) (by decide) rfl (fun na b => by rw [← ceX7_numberHere]; exact tkX7_numberHere) (List.forall_mem_cons.mpr ⟨vc1286 d, List.forall_mem_cons.mpr ⟨vc1127 d, fun _ h => absurd h List.not_mem_nil⟩⟩) (cpyX d) (by decide +kernel)
def Kc1288 : Con := ((169, [(2, 0, 0, [150]), (0, 1, 1, []), (0, 99, 99, [])], []), [(150, 4, 10), (150, 13, 13), (152, 0, 7)], [(some (0, 1, 99, []), [], [])])
set_option maxRecDepth 20000 in
theorem vc1288 {l : Launch} {X : Nat × (Nat → Int32)} {e : Int} (d : Nat) : Vc l X U0 Pt7 e (d + 4) Kc1288 :=
  ck (d := (d + 3)) (Ks := [Kc1287, Kc1163]) (cy := 152) (cd := cdX7_number) (nl := 4) (fuel := 1000) (Hs := []) (by decide) rfl (fun na b => by rw [← ceX7_number]; exact tkX7_number) (List.forall_mem_cons.mpr ⟨vc1287 (d + 2), List.forall_mem_cons.mpr ⟨vc1163 d, fun _ h => absurd h List.not_mem_nil⟩⟩) (cpyX (d + 3)) (by decide +kernel)
def Kc1289 : Con := ((170, [(2, 0, 0, [150]), (2, 0, 0, [5031]), (0, 1, 1, []), (0, 99, 99, [])], []), [(150, 4, 10), (150, 13, 13), (152, 0, 7)], [(some (0, 1, 99, []), [], [])])
set_option maxRecDepth 20000 in
theorem vc1289 {l : Launch} {X : Nat × (Nat → Int32)} {e : Int} (d : Nat) : Vc l X U0 Pt7 e (d + 8) Kc1289 :=
  ck (d := (d + 7)) (Ks := [Kc1285, Kc1288]) (cy := 152) (cd := cdX7_after) (nl := 4) (fuel := 1000) (Hs := []) (by decide) rfl (fun na b => by rw [← ceX7_after]; exact tkX7_after) (List.forall_mem_cons.mpr ⟨vc1285 d, List.forall_mem_cons.mpr ⟨vc1288 (d + 3), fun _ h => absurd h List.not_mem_nil⟩⟩) (cpyX (d + 7)) (by decide +kernel)
def Kc1290 : Con := ((280, [(2, 0, 0, [5032])], []), [], [(some (0, 5, 5, []), [], [])])
set_option maxRecDepth 20000 in
theorem vc1290 {l : Launch} {X : Nat × (Nat → Int32)} {e : Int} (d : Nat) : Vc l X U0 Pt7 e (d + 4) Kc1290 := vh_len d [5032] 5 5 (by decide +kernel)
def Kc1291 : Con := ((281, [(2, 0, 0, [5032]), (0, 0, 4, [])], []), [], [(some (0, 0, 65535, []), [], [])])
set_option maxRecDepth 20000 in
theorem vc1291 {l : Launch} {X : Nat × (Nat → Int32)} {e : Int} (d : Nat) : Vc l X U0 Pt7 e (d + 4) Kc1291 := vh_char d [5032] 0 4 (by decide +kernel)
def Kc1292 : Con := ((160, [(2, 0, 0, [150]), (2, 0, 0, [5032])], []), [], [(some (0, 0, 0, []), [], []), (some (0, 0, 1, []), [], [])])
set_option maxRecDepth 20000 in
theorem vc1292 {l : Launch} {X : Nat × (Nat → Int32)} {e : Int} (d : Nat) : Vc l X U0 Pt7 e (d + 5) Kc1292 :=
  ck (d := (d + 4)) (Ks := [Kc1290, Kc1291]) (cy := 152) (cd := cdX7_isWord) (nl := 4) (fuel := 1000) (Hs := [((32, 0), ([(0, (2, 0, 0, [150])), (1, (2, 0, 0, [5032])), (2, (0, 1, 0, [])), (3, (0, 2, 0, []))], [], [(0, 0), (0, 1), (0, 5), (5, 5)], [(150, 8, (0, 3, 0, []))]), [(0, 2, 0), (0, 3, 0), (2, 150, 8)], (10, [(2, (-2))]), [])]) (by decide) rfl (fun na b => by rw [← ceX7_isWord]; exact tkX7_isWord) (List.forall_mem_cons.mpr ⟨vc1290 d, List.forall_mem_cons.mpr ⟨vc1291 d, fun _ h => absurd h List.not_mem_nil⟩⟩) (cpyX (d + 4)) (by decide +kernel)
def Kc1293 : Con := ((161, [(2, 0, 0, [150]), (2, 0, 0, [5032])], []), [(150, 4, 8), (152, 0, 7)], [(some (0, 0, 1, []), [], [])])
set_option maxRecDepth 20000 in
theorem vc1293 {l : Launch} {X : Nat × (Nat → Int32)} {e : Int} (d : Nat) : Vc l X U0 Pt7 e (d + 6) Kc1293 :=
  ck (d := (d + 5)) (Ks := [Kc1292, Kc1158]) (cy := 152) (cd := cdX7_takesWord) (nl := 2) (fuel := 1000) (Hs := []) (by decide) rfl (fun na b => by rw [← ceX7_takesWord]; exact tkX7_takesWord) (List.forall_mem_cons.mpr ⟨vc1292 d, List.forall_mem_cons.mpr ⟨vc1158 (d + 3), fun _ h => absurd h List.not_mem_nil⟩⟩) (cpyX (d + 5)) (by decide +kernel)
def Kc1294 : Con := ((162, [(2, 0, 0, [150]), (2, 0, 0, [5032])], []), [(150, 4, 10), (150, 13, 13), (152, 0, 7)], [(none, [], [])])
set_option maxRecDepth 20000 in
theorem vc1294 {l : Launch} {X : Nat × (Nat → Int32)} {e : Int} (d : Nat) : Vc l X U0 Pt7 e (d + 7) Kc1294 :=
  ck (d := (d + 6)) (Ks := [Kc1293, Kc1127]) (cy := 152) (cd := cdX7_must) (nl := 2) (fuel := 1000) (Hs := []) (by decide) rfl (fun na b => by rw [← ceX7_must]; exact tkX7_must) (List.forall_mem_cons.mpr ⟨vc1293 d, List.forall_mem_cons.mpr ⟨vc1127 (d + 6), fun _ h => absurd h List.not_mem_nil⟩⟩) (cpyX (d + 6)) (by decide +kernel)
def Kc1295 : Con := ((149, [(0, iLo, iHi, []), (0, 0, 0, []), (0, 9, 9, [])], []), [], [(some (0, 0, 0, []), [], []), (some (0, 1, 1, []), [(0, 0, 9)], [])])
set_option maxRecDepth 20000 in
theorem vc1295 {l : Launch} {X : Nat × (Nat → Int32)} {e : Int} (d : Nat) : Vc l X U0 Pt7 e d Kc1295 :=
  ck (d := d) (Ks := []) (cy := 152) (cd := cdX7_in) (nl := 3) (fuel := 1000) (Hs := []) (by decide) rfl (fun na b => by rw [← ceX7_in]; exact tkX7_in) (fun _ h => absurd h List.not_mem_nil) (cpyX d) (by decide +kernel)
def Kc1296 : Con := ((168, [(2, 0, 0, [150]), (0, 0, 0, []), (0, 9, 9, [])], []), [(150, 9, 10), (150, 13, 13)], [(some (0, 0, 9, []), [], [])])
set_option maxRecDepth 20000 in
theorem vc1296 {l : Launch} {X : Nat × (Nat → Int32)} {e : Int} (d : Nat) : Vc l X U0 Pt7 e (d + 1) Kc1296 :=
  ck (d := d) (Ks := [Kc1295, Kc1127]) (cy := 152) (cd := cdX7_numberHere) (nl := 3) (fuel := 1000) (Hs := []) (by decide) rfl (fun na b => by rw [← ceX7_numberHere]; exact tkX7_numberHere) (List.forall_mem_cons.mpr ⟨vc1295 d, List.forall_mem_cons.mpr ⟨vc1127 d, fun _ h => absurd h List.not_mem_nil⟩⟩) (cpyX d) (by decide +kernel)
def Kc1297 : Con := ((169, [(2, 0, 0, [150]), (0, 0, 0, []), (0, 9, 9, [])], []), [(150, 4, 10), (150, 13, 13), (152, 0, 7)], [(some (0, 0, 9, []), [], [])])
set_option maxRecDepth 20000 in
theorem vc1297 {l : Launch} {X : Nat × (Nat → Int32)} {e : Int} (d : Nat) : Vc l X U0 Pt7 e (d + 4) Kc1297 :=
  ck (d := (d + 3)) (Ks := [Kc1296, Kc1163]) (cy := 152) (cd := cdX7_number) (nl := 4) (fuel := 1000) (Hs := []) (by decide) rfl (fun na b => by rw [← ceX7_number]; exact tkX7_number) (List.forall_mem_cons.mpr ⟨vc1296 (d + 2), List.forall_mem_cons.mpr ⟨vc1163 d, fun _ h => absurd h List.not_mem_nil⟩⟩) (cpyX (d + 3)) (by decide +kernel)
def Kc1298 : Con := ((170, [(2, 0, 0, [150]), (2, 0, 0, [5032]), (0, 0, 0, []), (0, 9, 9, [])], []), [(150, 4, 10), (150, 13, 13), (152, 0, 7)], [(some (0, 0, 9, []), [], [])])
set_option maxRecDepth 20000 in
theorem vc1298 {l : Launch} {X : Nat × (Nat → Int32)} {e : Int} (d : Nat) : Vc l X U0 Pt7 e (d + 8) Kc1298 :=
  ck (d := (d + 7)) (Ks := [Kc1294, Kc1297]) (cy := 152) (cd := cdX7_after) (nl := 4) (fuel := 1000) (Hs := []) (by decide) rfl (fun na b => by rw [← ceX7_after]; exact tkX7_after) (List.forall_mem_cons.mpr ⟨vc1294 d, List.forall_mem_cons.mpr ⟨vc1297 (d + 3), fun _ h => absurd h List.not_mem_nil⟩⟩) (cpyX (d + 7)) (by decide +kernel)
def Kc1299 : Con := ((280, [(2, 0, 0, [5033])], []), [], [(some (0, 2, 2, []), [], [])])
set_option maxRecDepth 20000 in
theorem vc1299 {l : Launch} {X : Nat × (Nat → Int32)} {e : Int} (d : Nat) : Vc l X U0 Pt7 e (d + 4) Kc1299 := vh_len d [5033] 2 2 (by decide +kernel)
def Kc1300 : Con := ((281, [(2, 0, 0, [5033]), (0, 0, 1, [])], []), [], [(some (0, 0, 65535, []), [], [])])
set_option maxRecDepth 20000 in
theorem vc1300 {l : Launch} {X : Nat × (Nat → Int32)} {e : Int} (d : Nat) : Vc l X U0 Pt7 e (d + 4) Kc1300 := vh_char d [5033] 0 1 (by decide +kernel)
def Kc1301 : Con := ((160, [(2, 0, 0, [150]), (2, 0, 0, [5033])], []), [], [(some (0, 0, 0, []), [], []), (some (0, 0, 1, []), [], [])])
set_option maxRecDepth 20000 in
theorem vc1301 {l : Launch} {X : Nat × (Nat → Int32)} {e : Int} (d : Nat) : Vc l X U0 Pt7 e (d + 5) Kc1301 :=
  ck (d := (d + 4)) (Ks := [Kc1299, Kc1300]) (cy := 152) (cd := cdX7_isWord) (nl := 4) (fuel := 1000) (Hs := [((32, 0), ([(0, (2, 0, 0, [150])), (1, (2, 0, 0, [5033])), (2, (0, 1, 0, [])), (3, (0, 2, 0, []))], [], [(0, 0), (0, 1), (0, 2), (2, 2)], [(150, 8, (0, 3, 0, []))]), [(0, 2, 0), (0, 3, 0), (2, 150, 8)], (4, [(2, (-2))]), [])]) (by decide) rfl (fun na b => by rw [← ceX7_isWord]; exact tkX7_isWord) (List.forall_mem_cons.mpr ⟨vc1299 d, List.forall_mem_cons.mpr ⟨vc1300 d, fun _ h => absurd h List.not_mem_nil⟩⟩) (cpyX (d + 4)) (by decide +kernel)
def Kc1302 : Con := ((161, [(2, 0, 0, [150]), (2, 0, 0, [5033])], []), [(150, 4, 8), (152, 0, 7)], [(some (0, 0, 1, []), [], [])])
set_option maxRecDepth 20000 in
theorem vc1302 {l : Launch} {X : Nat × (Nat → Int32)} {e : Int} (d : Nat) : Vc l X U0 Pt7 e (d + 6) Kc1302 :=
  ck (d := (d + 5)) (Ks := [Kc1301, Kc1158]) (cy := 152) (cd := cdX7_takesWord) (nl := 2) (fuel := 1000) (Hs := []) (by decide) rfl (fun na b => by rw [← ceX7_takesWord]; exact tkX7_takesWord) (List.forall_mem_cons.mpr ⟨vc1301 d, List.forall_mem_cons.mpr ⟨vc1158 (d + 3), fun _ h => absurd h List.not_mem_nil⟩⟩) (cpyX (d + 5)) (by decide +kernel)
def Kc1303 : Con := ((162, [(2, 0, 0, [150]), (2, 0, 0, [5033])], []), [(150, 4, 10), (150, 13, 13), (152, 0, 7)], [(none, [], [])])
set_option maxRecDepth 20000 in
theorem vc1303 {l : Launch} {X : Nat × (Nat → Int32)} {e : Int} (d : Nat) : Vc l X U0 Pt7 e (d + 7) Kc1303 :=
  ck (d := (d + 6)) (Ks := [Kc1302, Kc1127]) (cy := 152) (cd := cdX7_must) (nl := 2) (fuel := 1000) (Hs := []) (by decide) rfl (fun na b => by rw [← ceX7_must]; exact tkX7_must) (List.forall_mem_cons.mpr ⟨vc1302 d, List.forall_mem_cons.mpr ⟨vc1127 (d + 6), fun _ h => absurd h List.not_mem_nil⟩⟩) (cpyX (d + 6)) (by decide +kernel)
def Kc1304 : Con := ((177, [(2, 0, 0, [150])], [(150, 13, (0, 0, 0, [])), (150, 6, (0, 0, 1, [])), (154, 4, (0, 0, 5, []))]), [(150, 4, 10), (150, 13, 13), (152, 0, 7), (154, 4, 4), (154, 11, 34), (156, 0, 5)], [(none, [], [])])
set_option maxRecDepth 20000 in
theorem vc1304 {l : Launch} {X : Nat × (Nat → Int32)} {e : Int} (d : Nat) : Vc l X U0 Pt7 e (d + 9) Kc1304 :=
  ck (d := (d + 8)) (Ks := [Kc1271, Kc1274, Kc1277, Kc1280, Kc1127, Kc1128, Kc1289, Kc1298, Kc1303, Kc1234, Kc1163]) (cy := 152) (cd := cdX7_faceLine) (nl := 7) (fuel := 1000) (Hs := [((114, 0), ([(0, (2, 0, 0, [150])), (1, (0, 1, 0, [])), (2, (0, 2, 0, [])), (3, (0, 3, 0, [])), (4, (0, 4, 0, [])), (5, (0, 5, 0, [])), (6, (0, 6, 0, []))], [], [(0, 0), (0, 5), ((-1), 2), (1, 99), (0, 9), (0, 19), (0, 5)], [(154, 4, (0, 1, 0, []))]), [(0, 1, 0), (0, 2, 0), (0, 3, 0), (0, 4, 0), (0, 5, 0), (0, 6, 0)], (10, [(6, (-2))]), [])]) (by decide) rfl (fun na b => by rw [← ceX7_faceLine]; exact tkX7_faceLine) (List.forall_mem_cons.mpr ⟨vc1271 (d + 6), List.forall_mem_cons.mpr ⟨vc1274 (d + 3), List.forall_mem_cons.mpr ⟨vc1277 (d + 3), List.forall_mem_cons.mpr ⟨vc1280 (d + 3), List.forall_mem_cons.mpr ⟨vc1127 (d + 8), List.forall_mem_cons.mpr ⟨vc1128 (d + 7), List.forall_mem_cons.mpr ⟨vc1289 d, List.forall_mem_cons.mpr ⟨vc1298 d, List.forall_mem_cons.mpr ⟨vc1303 (d + 1), List.forall_mem_cons.mpr ⟨vc1234 (d + 6), List.forall_mem_cons.mpr ⟨vc1163 (d + 5), fun _ h => absurd h List.not_mem_nil⟩⟩⟩⟩⟩⟩⟩⟩⟩⟩⟩) (cpyX (d + 8)) (by decide +kernel)
def Kc1305 : Con := ((165, [(2, 0, 0, [150]), (0, 0, 5, [])], [(150, 13, (0, 0, 0, [])), (150, 6, (0, 2, 2, [])), (150, 8, (0, 0, 8, []))]), [(150, 4, 10), (150, 13, 13), (152, 0, 7), (154, 67, 72), (154, 82, 129)], [(none, [], [])])
set_option maxRecDepth 20000 in
theorem vc1305 {l : Launch} {X : Nat × (Nat → Int32)} {e : Int} (d : Nat) : Vc l X U0 Pt7 e (d + 7) Kc1305 :=
  ck (d := (d + 6)) (Ks := [Kc1243, Kc1151, Kc1127, Kc1158]) (cy := 152) (cd := cdX7_newName) (nl := 3) (fuel := 1000) (Hs := [((45, 0), ([(0, (2, 0, 0, [150])), (1, (0, 1, 0, [])), (2, (0, 2, 0, []))], [], [(0, 0), (0, 5), (0, 8), (2, 2), (0, 8), (0, 0)], [(150, 6, (0, 3, 0, [])), (150, 8, (0, 4, 0, [])), (150, 13, (0, 5, 0, []))]), [(0, 1, 0), (0, 2, 0), (2, 150, 6), (2, 150, 8), (2, 150, 13)], (16, [(2, (-2))]), [])]) (by decide) rfl (fun na b => by rw [← ceX7_newName]; exact tkX7_newName) (List.forall_mem_cons.mpr ⟨vc1243 d, List.forall_mem_cons.mpr ⟨vc1151 (d + 6), List.forall_mem_cons.mpr ⟨vc1127 (d + 6), List.forall_mem_cons.mpr ⟨vc1158 (d + 4), fun _ h => absurd h List.not_mem_nil⟩⟩⟩⟩) (cpyX (d + 6)) (by decide +kernel)
def Kc1306 : Con := ((177, [(2, 0, 0, [150])], [(150, 13, (0, 0, 0, [])), (150, 6, (0, 2, 2, [])), (150, 8, (0, 0, 8, [])), (154, 4, (0, 0, 5, []))]), [(150, 4, 10), (150, 13, 13), (152, 0, 7), (154, 4, 4), (154, 11, 34), (154, 67, 72), (154, 82, 129), (156, 0, 5)], [(none, [], [])])
set_option maxRecDepth 20000 in
theorem vc1306 {l : Launch} {X : Nat × (Nat → Int32)} {e : Int} (d : Nat) : Vc l X U0 Pt7 e (d + 9) Kc1306 :=
  ck (d := (d + 8)) (Ks := [Kc1305, Kc1274, Kc1277, Kc1280, Kc1127, Kc1128, Kc1289, Kc1298, Kc1303, Kc1234, Kc1163]) (cy := 152) (cd := cdX7_faceLine) (nl := 7) (fuel := 1000) (Hs := [((114, 0), ([(0, (2, 0, 0, [150])), (1, (0, 1, 0, [])), (2, (0, 2, 0, [])), (3, (0, 3, 0, [])), (4, (0, 4, 0, [])), (5, (0, 5, 0, [])), (6, (0, 6, 0, []))], [], [(0, 0), (0, 5), ((-1), 2), (1, 99), (0, 9), (0, 19), (0, 5)], [(154, 4, (0, 1, 0, []))]), [(0, 1, 0), (0, 2, 0), (0, 3, 0), (0, 4, 0), (0, 5, 0), (0, 6, 0)], (10, [(6, (-2))]), [])]) (by decide) rfl (fun na b => by rw [← ceX7_faceLine]; exact tkX7_faceLine) (List.forall_mem_cons.mpr ⟨vc1305 (d + 1), List.forall_mem_cons.mpr ⟨vc1274 (d + 3), List.forall_mem_cons.mpr ⟨vc1277 (d + 3), List.forall_mem_cons.mpr ⟨vc1280 (d + 3), List.forall_mem_cons.mpr ⟨vc1127 (d + 8), List.forall_mem_cons.mpr ⟨vc1128 (d + 7), List.forall_mem_cons.mpr ⟨vc1289 d, List.forall_mem_cons.mpr ⟨vc1298 d, List.forall_mem_cons.mpr ⟨vc1303 (d + 1), List.forall_mem_cons.mpr ⟨vc1234 (d + 6), List.forall_mem_cons.mpr ⟨vc1163 (d + 5), fun _ h => absurd h List.not_mem_nil⟩⟩⟩⟩⟩⟩⟩⟩⟩⟩⟩) (cpyX (d + 8)) (by decide +kernel)
def Kc1307 : Con := ((165, [(2, 0, 0, [150]), (0, 0, 5, [])], [(150, 13, (0, 0, 0, [])), (150, 6, (0, 3, 59, []))]), [(150, 9, 10), (150, 13, 13)], [(none, [], [])])
set_option maxRecDepth 20000 in
theorem vc1307 {l : Launch} {X : Nat × (Nat → Int32)} {e : Int} (d : Nat) : Vc l X U0 Pt7 e (d + 2) Kc1307 :=
  ck (d := (d + 1)) (Ks := [Kc1246]) (cy := 152) (cd := cdX7_newName) (nl := 3) (fuel := 1000) (Hs := []) (by decide) rfl (fun na b => by rw [← ceX7_newName]; exact tkX7_newName) (List.forall_mem_cons.mpr ⟨vc1246 d, fun _ h => absurd h List.not_mem_nil⟩) (cpyX (d + 1)) (by decide +kernel)
def Kc1308 : Con := ((177, [(2, 0, 0, [150])], [(150, 13, (0, 0, 0, [])), (150, 6, (0, 3, 59, [])), (154, 4, (0, 0, 5, []))]), [(150, 4, 10), (150, 13, 13), (152, 0, 7), (154, 4, 4), (154, 11, 34), (156, 0, 5)], [(none, [], [])])
set_option maxRecDepth 20000 in
theorem vc1308 {l : Launch} {X : Nat × (Nat → Int32)} {e : Int} (d : Nat) : Vc l X U0 Pt7 e (d + 9) Kc1308 :=
  ck (d := (d + 8)) (Ks := [Kc1307, Kc1274, Kc1277, Kc1280, Kc1127, Kc1128, Kc1289, Kc1298, Kc1303, Kc1234, Kc1163]) (cy := 152) (cd := cdX7_faceLine) (nl := 7) (fuel := 1000) (Hs := [((114, 0), ([(0, (2, 0, 0, [150])), (1, (0, 1, 0, [])), (2, (0, 2, 0, [])), (3, (0, 3, 0, [])), (4, (0, 4, 0, [])), (5, (0, 5, 0, [])), (6, (0, 6, 0, []))], [], [(0, 0), (0, 5), ((-1), 2), (1, 99), (0, 9), (0, 19), (0, 5)], [(154, 4, (0, 1, 0, []))]), [(0, 1, 0), (0, 2, 0), (0, 3, 0), (0, 4, 0), (0, 5, 0), (0, 6, 0)], (10, [(6, (-2))]), [])]) (by decide) rfl (fun na b => by rw [← ceX7_faceLine]; exact tkX7_faceLine) (List.forall_mem_cons.mpr ⟨vc1307 (d + 6), List.forall_mem_cons.mpr ⟨vc1274 (d + 3), List.forall_mem_cons.mpr ⟨vc1277 (d + 3), List.forall_mem_cons.mpr ⟨vc1280 (d + 3), List.forall_mem_cons.mpr ⟨vc1127 (d + 8), List.forall_mem_cons.mpr ⟨vc1128 (d + 7), List.forall_mem_cons.mpr ⟨vc1289 d, List.forall_mem_cons.mpr ⟨vc1298 d, List.forall_mem_cons.mpr ⟨vc1303 (d + 1), List.forall_mem_cons.mpr ⟨vc1234 (d + 6), List.forall_mem_cons.mpr ⟨vc1163 (d + 5), fun _ h => absurd h List.not_mem_nil⟩⟩⟩⟩⟩⟩⟩⟩⟩⟩⟩) (cpyX (d + 8)) (by decide +kernel)
def Kc1309 : Con := ((172, [(2, 0, 0, [150]), (2, 0, 0, [5022]), (0, 1, 1, [])], [(154, 9, (0, 1, 1, []))]), [(150, 4, 10), (150, 13, 13), (152, 0, 7)], [(some (0, 0, 0, []), [], []), (some (0, 1, 1, []), [], [(150, 13, (0, 1, 1, []))]), (some (0, 1, 1, []), [], [(150, 6, (0, 0, 1, [])), (150, 13, (0, 0, 0, []))]), (some (0, 1, 1, []), [], [(150, 6, (0, 2, 2, [])), (150, 8, (0, 0, 8, [])), (150, 13, (0, 0, 0, []))]), (some (0, 1, 1, []), [], [(150, 6, (0, 3, 59, [])), (150, 13, (0, 0, 0, []))])])
set_option maxRecDepth 20000 in
theorem vc1309 {l : Launch} {X : Nat × (Nat → Int32)} {e : Int} (d : Nat) : Vc l X U0 Pt7 e (d + 6) Kc1309 :=
  ck (d := (d + 5)) (Ks := [Kc1126, Kc1163, Kc1127, Kc1128]) (cy := 152) (cd := cdX7_begins) (nl := 3) (fuel := 1000) (Hs := []) (by decide) rfl (fun na b => by rw [← ceX7_begins]; exact tkX7_begins) (List.forall_mem_cons.mpr ⟨vc1126 d, List.forall_mem_cons.mpr ⟨vc1163 (d + 2), List.forall_mem_cons.mpr ⟨vc1127 (d + 5), List.forall_mem_cons.mpr ⟨vc1128 (d + 4), fun _ h => absurd h List.not_mem_nil⟩⟩⟩⟩) (cpyX (d + 5)) (by decide +kernel)
def Kc1310 : Con := ((176, [(2, 0, 0, [150])], [(150, 13, (0, 0, 0, []))]), [(150, 4, 10), (150, 13, 13), (152, 0, 7), (154, 3, 3), (154, 10, 10)], [(none, [], [])])
set_option maxRecDepth 20000 in
theorem vc1310 {l : Launch} {X : Nat × (Nat → Int32)} {e : Int} (d : Nat) : Vc l X U0 Pt7 e (d + 4) Kc1310 :=
  ck (d := (d + 3)) (Ks := [Kc1234, Kc1128, Kc1235, Kc1166, Kc1127]) (cy := 152) (cd := cdX7_wallLine) (nl := 2) (fuel := 1000) (Hs := []) (by decide) rfl (fun na b => by rw [← ceX7_wallLine]; exact tkX7_wallLine) (List.forall_mem_cons.mpr ⟨vc1234 (d + 1), List.forall_mem_cons.mpr ⟨vc1128 (d + 2), List.forall_mem_cons.mpr ⟨vc1235 (d + 3), List.forall_mem_cons.mpr ⟨vc1166 d, List.forall_mem_cons.mpr ⟨vc1127 (d + 3), fun _ h => absurd h List.not_mem_nil⟩⟩⟩⟩⟩) (cpyX (d + 3)) (by decide +kernel)
def Kc1311 : Con := ((174, [(2, 0, 0, [150])], [(154, 9, (0, 1, 1, [])), (154, 0, (0, 2, 5, []))]), [(150, 9, 10), (150, 13, 13)], [(none, [], [(154, 0, (0, 2, 5, [])), (154, 9, (0, 1, 1, []))])])
set_option maxRecDepth 20000 in
theorem vc1311 {l : Launch} {X : Nat × (Nat → Int32)} {e : Int} (d : Nat) : Vc l X U0 Pt7 e (d + 1) Kc1311 :=
  ck (d := d) (Ks := [Kc1127]) (cy := 152) (cd := cdX7_closeLine) (nl := 1) (fuel := 1000) (Hs := []) (by decide) rfl (fun na b => by rw [← ceX7_closeLine]; exact tkX7_closeLine) (List.forall_mem_cons.mpr ⟨vc1127 d, fun _ h => absurd h List.not_mem_nil⟩) (cpyX d) (by decide +kernel)
def Kc1312 : Con := ((173, [(2, 0, 0, [150])], [(154, 5, (0, 0, 0, [])), (154, 9, (0, 1, 1, [])), (154, 0, (0, 2, 5, []))]), [(150, 4, 10), (150, 13, 13), (152, 0, 7), (154, 3, 8), (154, 10, 36), (154, 45, 73), (154, 78, 137), (154, 170, 201), (156, 0, 5), (156, 18, 18)], [(none, [], [(154, 0, (0, 2, 5, [])), (154, 5, (0, 0, 0, [])), (154, 9, (0, 1, 1, []))]), (none, [], [(154, 0, (0, 2, 5, [])), (154, 5, (0, 1, 1, [])), (154, 9, (0, 1, 1, [])), (154, 35, (0, 1, 30, [])), (154, 36, (0, 1, 9, []))])])
set_option maxRecDepth 20000 in
theorem vc1312 {l : Launch} {X : Nat × (Nat → Int32)} {e : Int} (d : Nat) : Vc l X U0 Pt7 e (d + 10) Kc1312 :=
  ck (d := (d + 9)) (Ks := [Kc1123, Kc1209, Kc1210, Kc1211, Kc1212, Kc1213, Kc1214, Kc1127, Kc1167, Kc1215, Kc1168, Kc1216, Kc1170, Kc1223, Kc1171, Kc1224, Kc1173, Kc1242, Kc1245, Kc1248, Kc1174, Kc1265, Kc1267, Kc1269, Kc1175, Kc1270, Kc1177, Kc1304, Kc1306, Kc1308, Kc1178, Kc1309, Kc1310, Kc1311]) (cy := 152) (cd := cdX7_readLine) (nl := 1) (fuel := 1000) (Hs := []) (by decide) rfl (fun na b => by rw [← ceX7_readLine]; exact tkX7_readLine) (List.forall_mem_cons.mpr ⟨vc1123 (d + 4), List.forall_mem_cons.mpr ⟨vc1209 (d + 3), List.forall_mem_cons.mpr ⟨vc1210 (d + 3), List.forall_mem_cons.mpr ⟨vc1211 (d + 3), List.forall_mem_cons.mpr ⟨vc1212 (d + 3), List.forall_mem_cons.mpr ⟨vc1213 (d + 3), List.forall_mem_cons.mpr ⟨vc1214 (d + 3), List.forall_mem_cons.mpr ⟨vc1127 (d + 9), List.forall_mem_cons.mpr ⟨vc1167 d, List.forall_mem_cons.mpr ⟨vc1215 d, List.forall_mem_cons.mpr ⟨vc1168 (d + 8), List.forall_mem_cons.mpr ⟨vc1216 (d + 3), List.forall_mem_cons.mpr ⟨vc1170 (d + 8), List.forall_mem_cons.mpr ⟨vc1223 (d + 1), List.forall_mem_cons.mpr ⟨vc1171 (d + 8), List.forall_mem_cons.mpr ⟨vc1224 (d + 3), List.forall_mem_cons.mpr ⟨vc1173 (d + 8), List.forall_mem_cons.mpr ⟨vc1242 (d + 1), List.forall_mem_cons.mpr ⟨vc1245 (d + 1), List.forall_mem_cons.mpr ⟨vc1248 (d + 1), List.forall_mem_cons.mpr ⟨vc1174 (d + 8), List.forall_mem_cons.mpr ⟨vc1265 d, List.forall_mem_cons.mpr ⟨vc1267 d, List.forall_mem_cons.mpr ⟨vc1269 d, List.forall_mem_cons.mpr ⟨vc1175 (d + 8), List.forall_mem_cons.mpr ⟨vc1270 (d + 3), List.forall_mem_cons.mpr ⟨vc1177 (d + 8), List.forall_mem_cons.mpr ⟨vc1304 d, List.forall_mem_cons.mpr ⟨vc1306 d, List.forall_mem_cons.mpr ⟨vc1308 d, List.forall_mem_cons.mpr ⟨vc1178 (d + 8), List.forall_mem_cons.mpr ⟨vc1309 (d + 3), List.forall_mem_cons.mpr ⟨vc1310 (d + 5), List.forall_mem_cons.mpr ⟨vc1311 (d + 8), fun _ h => absurd h List.not_mem_nil⟩⟩⟩⟩⟩⟩⟩⟩⟩⟩⟩⟩⟩⟩⟩⟩⟩⟩⟩⟩⟩⟩⟩⟩⟩⟩⟩⟩⟩⟩⟩⟩⟩⟩) (cpyX (d + 9)) (by decide +kernel)
def Kc1313 : Con := ((178, [(2, 0, 0, [150])], [(150, 13, (0, 1, 1, [])), (154, 5, (0, 1, 1, [])), (154, 35, (0, 1, 30, [])), (154, 36, (0, 1, 30, []))]), [], [(none, [], [(154, 5, (0, 1, 1, [])), (154, 35, (0, 1, 30, [])), (154, 36, (0, 1, 30, []))])])
set_option maxRecDepth 20000 in
theorem vc1313 {l : Launch} {X : Nat × (Nat → Int32)} {e : Int} (d : Nat) : Vc l X U0 Pt7 e (d + 1) Kc1313 :=
  ck (d := d) (Ks := []) (cy := 152) (cd := cdX7_canonLine) (nl := 5) (fuel := 1000) (Hs := []) (by decide) rfl (fun na b => by rw [← ceX7_canonLine]; exact tkX7_canonLine) (fun _ h => absurd h List.not_mem_nil) (cpyX d) (by decide +kernel)
def Kc1314 : Con := ((165, [(2, 0, 0, [150]), (0, 7, 7, [])], [(150, 13, (0, 0, 0, [])), (150, 6, (0, 0, 1, []))]), [(150, 9, 10), (150, 13, 13)], [(none, [], [])])
set_option maxRecDepth 20000 in
theorem vc1314 {l : Launch} {X : Nat × (Nat → Int32)} {e : Int} (d : Nat) : Vc l X U0 Pt7 e (d + 2) Kc1314 :=
  ck (d := (d + 1)) (Ks := [Kc1225]) (cy := 152) (cd := cdX7_newName) (nl := 3) (fuel := 1000) (Hs := []) (by decide) rfl (fun na b => by rw [← ceX7_newName]; exact tkX7_newName) (List.forall_mem_cons.mpr ⟨vc1225 d, fun _ h => absurd h List.not_mem_nil⟩) (cpyX (d + 1)) (by decide +kernel)
def Kc1315 : Con := ((178, [(2, 0, 0, [150])], [(150, 13, (0, 0, 0, [])), (150, 6, (0, 0, 1, [])), (154, 5, (0, 1, 1, [])), (154, 35, (0, 1, 30, [])), (154, 36, (0, 1, 30, []))]), [(150, 4, 10), (150, 13, 13), (152, 0, 7), (154, 5, 5), (154, 37, 38), (156, 19, 19)], [(none, [], [(154, 5, (0, 2, 2, [])), (154, 35, (0, 1, 30, [])), (154, 36, (0, 1, 30, [])), (154, 37, (0, 1, 30, [])), (154, 38, (0, 1, 9, []))]), (none, [], [(154, 5, (0, 1, 1, [])), (154, 35, (0, 1, 30, [])), (154, 36, (0, 1, 30, []))])])
set_option maxRecDepth 20000 in
theorem vc1315 {l : Launch} {X : Nat × (Nat → Int32)} {e : Int} (d : Nat) : Vc l X U0 Pt7 e (d + 9) Kc1315 :=
  ck (d := (d + 8)) (Ks := [Kc1314, Kc1154, Kc1163, Kc1255, Kc1264, Kc1127]) (cy := 152) (cd := cdX7_canonLine) (nl := 5) (fuel := 1000) (Hs := [((32, 0), ([(0, (2, 0, 0, [150])), (1, (0, 1, 0, [])), (2, (0, 2, 0, [])), (3, (0, 3, 0, []))], [], [(0, 0), (1, 1), (0, 5), (0, 1), (0, 1), (1, 30), (1, 30)], [(150, 6, (0, 4, 0, [])), (154, 5, (0, 1, 0, [])), (154, 35, (0, 5, 0, [])), (154, 36, (0, 6, 0, []))]), [(0, 1, 0), (0, 2, 0), (0, 3, 0), (2, 150, 6), (2, 154, 35), (2, 154, 36)], (2, [(3, (-2))]), [])]) (by decide) rfl (fun na b => by rw [← ceX7_canonLine]; exact tkX7_canonLine) (List.forall_mem_cons.mpr ⟨vc1314 (d + 6), List.forall_mem_cons.mpr ⟨vc1154 (d + 1), List.forall_mem_cons.mpr ⟨vc1163 (d + 5), List.forall_mem_cons.mpr ⟨vc1255 d, List.forall_mem_cons.mpr ⟨vc1264 d, List.forall_mem_cons.mpr ⟨vc1127 (d + 8), fun _ h => absurd h List.not_mem_nil⟩⟩⟩⟩⟩⟩) (cpyX (d + 8)) (by decide +kernel)
def Kc1316 : Con := ((165, [(2, 0, 0, [150]), (0, 7, 7, [])], [(150, 13, (0, 0, 0, [])), (150, 6, (0, 2, 2, [])), (150, 8, (0, 0, 8, []))]), [(150, 4, 10), (150, 13, 13), (152, 0, 7), (154, 74, 74), (154, 138, 145)], [(none, [], [])])
set_option maxRecDepth 20000 in
theorem vc1316 {l : Launch} {X : Nat × (Nat → Int32)} {e : Int} (d : Nat) : Vc l X U0 Pt7 e (d + 7) Kc1316 :=
  ck (d := (d + 6)) (Ks := [Kc1243, Kc1151, Kc1127, Kc1158]) (cy := 152) (cd := cdX7_newName) (nl := 3) (fuel := 1000) (Hs := [((45, 0), ([(0, (2, 0, 0, [150])), (1, (0, 1, 0, [])), (2, (0, 2, 0, []))], [], [(0, 0), (7, 7), (0, 8), (2, 2), (0, 8), (0, 0)], [(150, 6, (0, 3, 0, [])), (150, 8, (0, 4, 0, [])), (150, 13, (0, 5, 0, []))]), [(0, 1, 0), (0, 2, 0), (2, 150, 6), (2, 150, 8), (2, 150, 13)], (16, [(2, (-2))]), [])]) (by decide) rfl (fun na b => by rw [← ceX7_newName]; exact tkX7_newName) (List.forall_mem_cons.mpr ⟨vc1243 d, List.forall_mem_cons.mpr ⟨vc1151 (d + 6), List.forall_mem_cons.mpr ⟨vc1127 (d + 6), List.forall_mem_cons.mpr ⟨vc1158 (d + 4), fun _ h => absurd h List.not_mem_nil⟩⟩⟩⟩) (cpyX (d + 6)) (by decide +kernel)
def Kc1317 : Con := ((178, [(2, 0, 0, [150])], [(150, 13, (0, 0, 0, [])), (150, 6, (0, 2, 2, [])), (150, 8, (0, 0, 8, [])), (154, 5, (0, 1, 1, [])), (154, 35, (0, 1, 30, [])), (154, 36, (0, 1, 30, []))]), [(150, 4, 10), (150, 13, 13), (152, 0, 7), (154, 5, 5), (154, 37, 38), (154, 74, 74), (154, 138, 145), (156, 19, 19)], [(none, [], [(154, 5, (0, 2, 2, [])), (154, 35, (0, 1, 30, [])), (154, 36, (0, 1, 30, [])), (154, 37, (0, 1, 30, [])), (154, 38, (0, 1, 9, []))]), (none, [], [(154, 5, (0, 1, 1, [])), (154, 35, (0, 1, 30, [])), (154, 36, (0, 1, 30, []))])])
set_option maxRecDepth 20000 in
theorem vc1317 {l : Launch} {X : Nat × (Nat → Int32)} {e : Int} (d : Nat) : Vc l X U0 Pt7 e (d + 9) Kc1317 :=
  ck (d := (d + 8)) (Ks := [Kc1316, Kc1154, Kc1163, Kc1255, Kc1264, Kc1127]) (cy := 152) (cd := cdX7_canonLine) (nl := 5) (fuel := 1000) (Hs := [((32, 0), ([(0, (2, 0, 0, [150])), (1, (0, 1, 0, [])), (2, (0, 2, 0, [])), (3, (0, 3, 0, []))], [], [(0, 0), (1, 1), (0, 5), (0, 1), (1, 30), (1, 30)], [(154, 5, (0, 1, 0, [])), (154, 35, (0, 4, 0, [])), (154, 36, (0, 5, 0, []))]), [(0, 1, 0), (0, 2, 0), (0, 3, 0), (2, 154, 35), (2, 154, 36)], (2, [(3, (-2))]), [])]) (by decide) rfl (fun na b => by rw [← ceX7_canonLine]; exact tkX7_canonLine) (List.forall_mem_cons.mpr ⟨vc1316 (d + 1), List.forall_mem_cons.mpr ⟨vc1154 (d + 1), List.forall_mem_cons.mpr ⟨vc1163 (d + 5), List.forall_mem_cons.mpr ⟨vc1255 d, List.forall_mem_cons.mpr ⟨vc1264 d, List.forall_mem_cons.mpr ⟨vc1127 (d + 8), fun _ h => absurd h List.not_mem_nil⟩⟩⟩⟩⟩⟩) (cpyX (d + 8)) (by decide +kernel)
def Kc1318 : Con := ((165, [(2, 0, 0, [150]), (0, 7, 7, [])], [(150, 13, (0, 0, 0, [])), (150, 6, (0, 3, 59, []))]), [(150, 9, 10), (150, 13, 13)], [(none, [], [])])
set_option maxRecDepth 20000 in
theorem vc1318 {l : Launch} {X : Nat × (Nat → Int32)} {e : Int} (d : Nat) : Vc l X U0 Pt7 e (d + 2) Kc1318 :=
  ck (d := (d + 1)) (Ks := [Kc1246]) (cy := 152) (cd := cdX7_newName) (nl := 3) (fuel := 1000) (Hs := []) (by decide) rfl (fun na b => by rw [← ceX7_newName]; exact tkX7_newName) (List.forall_mem_cons.mpr ⟨vc1246 d, fun _ h => absurd h List.not_mem_nil⟩) (cpyX (d + 1)) (by decide +kernel)
def Kc1319 : Con := ((178, [(2, 0, 0, [150])], [(150, 13, (0, 0, 0, [])), (150, 6, (0, 3, 59, [])), (154, 5, (0, 1, 1, [])), (154, 35, (0, 1, 30, [])), (154, 36, (0, 1, 30, []))]), [(150, 4, 10), (150, 13, 13), (152, 0, 7), (154, 5, 5), (154, 37, 38), (156, 19, 19)], [(none, [], [(154, 5, (0, 2, 2, [])), (154, 35, (0, 1, 30, [])), (154, 36, (0, 1, 30, [])), (154, 37, (0, 1, 30, [])), (154, 38, (0, 1, 9, []))]), (none, [], [(154, 5, (0, 1, 1, [])), (154, 35, (0, 1, 30, [])), (154, 36, (0, 1, 30, []))])])
set_option maxRecDepth 20000 in
theorem vc1319 {l : Launch} {X : Nat × (Nat → Int32)} {e : Int} (d : Nat) : Vc l X U0 Pt7 e (d + 9) Kc1319 :=
  ck (d := (d + 8)) (Ks := [Kc1318, Kc1154, Kc1163, Kc1255, Kc1264, Kc1127]) (cy := 152) (cd := cdX7_canonLine) (nl := 5) (fuel := 1000) (Hs := [((32, 0), ([(0, (2, 0, 0, [150])), (1, (0, 1, 0, [])), (2, (0, 2, 0, [])), (3, (0, 3, 0, []))], [], [(0, 0), (1, 1), (0, 5), (0, 1), (3, 59), (1, 30), (1, 30)], [(150, 6, (0, 4, 0, [])), (154, 5, (0, 1, 0, [])), (154, 35, (0, 5, 0, [])), (154, 36, (0, 6, 0, []))]), [(0, 1, 0), (0, 2, 0), (0, 3, 0), (2, 150, 6), (2, 154, 35), (2, 154, 36)], (2, [(3, (-2))]), [])]) (by decide) rfl (fun na b => by rw [← ceX7_canonLine]; exact tkX7_canonLine) (List.forall_mem_cons.mpr ⟨vc1318 (d + 6), List.forall_mem_cons.mpr ⟨vc1154 (d + 1), List.forall_mem_cons.mpr ⟨vc1163 (d + 5), List.forall_mem_cons.mpr ⟨vc1255 d, List.forall_mem_cons.mpr ⟨vc1264 d, List.forall_mem_cons.mpr ⟨vc1127 (d + 8), fun _ h => absurd h List.not_mem_nil⟩⟩⟩⟩⟩⟩) (cpyX (d + 8)) (by decide +kernel)
def Kc1320 : Con := ((173, [(2, 0, 0, [150])], [(154, 5, (0, 1, 1, [])), (154, 35, (0, 1, 30, [])), (154, 36, (0, 1, 30, [])), (154, 9, (0, 1, 1, [])), (154, 0, (0, 2, 5, []))]), [(150, 4, 10), (150, 13, 13), (152, 0, 7), (154, 3, 8), (154, 10, 34), (154, 37, 38), (154, 45, 72), (154, 74, 74), (154, 78, 129), (154, 138, 145), (154, 170, 201), (156, 0, 5), (156, 19, 19)], [(none, [], [(154, 0, (0, 2, 5, [])), (154, 5, (0, 1, 1, [])), (154, 9, (0, 1, 1, [])), (154, 35, (0, 1, 30, [])), (154, 36, (0, 1, 30, []))]), (none, [], [(154, 0, (0, 2, 5, [])), (154, 5, (0, 2, 2, [])), (154, 9, (0, 1, 1, [])), (154, 35, (0, 1, 30, [])), (154, 36, (0, 1, 30, [])), (154, 37, (0, 1, 30, [])), (154, 38, (0, 1, 9, []))])])
set_option maxRecDepth 20000 in
theorem vc1320 {l : Launch} {X : Nat × (Nat → Int32)} {e : Int} (d : Nat) : Vc l X U0 Pt7 e (d + 10) Kc1320 :=
  ck (d := (d + 9)) (Ks := [Kc1123, Kc1209, Kc1210, Kc1211, Kc1212, Kc1213, Kc1214, Kc1127, Kc1167, Kc1215, Kc1168, Kc1216, Kc1170, Kc1223, Kc1171, Kc1224, Kc1173, Kc1242, Kc1245, Kc1248, Kc1313, Kc1315, Kc1317, Kc1319, Kc1175, Kc1270, Kc1177, Kc1304, Kc1306, Kc1308, Kc1178, Kc1309, Kc1310, Kc1311]) (cy := 152) (cd := cdX7_readLine) (nl := 1) (fuel := 1000) (Hs := []) (by decide) rfl (fun na b => by rw [← ceX7_readLine]; exact tkX7_readLine) (List.forall_mem_cons.mpr ⟨vc1123 (d + 4), List.forall_mem_cons.mpr ⟨vc1209 (d + 3), List.forall_mem_cons.mpr ⟨vc1210 (d + 3), List.forall_mem_cons.mpr ⟨vc1211 (d + 3), List.forall_mem_cons.mpr ⟨vc1212 (d + 3), List.forall_mem_cons.mpr ⟨vc1213 (d + 3), List.forall_mem_cons.mpr ⟨vc1214 (d + 3), List.forall_mem_cons.mpr ⟨vc1127 (d + 9), List.forall_mem_cons.mpr ⟨vc1167 d, List.forall_mem_cons.mpr ⟨vc1215 d, List.forall_mem_cons.mpr ⟨vc1168 (d + 8), List.forall_mem_cons.mpr ⟨vc1216 (d + 3), List.forall_mem_cons.mpr ⟨vc1170 (d + 8), List.forall_mem_cons.mpr ⟨vc1223 (d + 1), List.forall_mem_cons.mpr ⟨vc1171 (d + 8), List.forall_mem_cons.mpr ⟨vc1224 (d + 3), List.forall_mem_cons.mpr ⟨vc1173 (d + 8), List.forall_mem_cons.mpr ⟨vc1242 (d + 1), List.forall_mem_cons.mpr ⟨vc1245 (d + 1), List.forall_mem_cons.mpr ⟨vc1248 (d + 1), List.forall_mem_cons.mpr ⟨vc1313 (d + 8), List.forall_mem_cons.mpr ⟨vc1315 d, List.forall_mem_cons.mpr ⟨vc1317 d, List.forall_mem_cons.mpr ⟨vc1319 d, List.forall_mem_cons.mpr ⟨vc1175 (d + 8), List.forall_mem_cons.mpr ⟨vc1270 (d + 3), List.forall_mem_cons.mpr ⟨vc1177 (d + 8), List.forall_mem_cons.mpr ⟨vc1304 d, List.forall_mem_cons.mpr ⟨vc1306 d, List.forall_mem_cons.mpr ⟨vc1308 d, List.forall_mem_cons.mpr ⟨vc1178 (d + 8), List.forall_mem_cons.mpr ⟨vc1309 (d + 3), List.forall_mem_cons.mpr ⟨vc1310 (d + 5), List.forall_mem_cons.mpr ⟨vc1311 (d + 8), fun _ h => absurd h List.not_mem_nil⟩⟩⟩⟩⟩⟩⟩⟩⟩⟩⟩⟩⟩⟩⟩⟩⟩⟩⟩⟩⟩⟩⟩⟩⟩⟩⟩⟩⟩⟩⟩⟩⟩⟩) (cpyX (d + 9)) (by decide +kernel)
