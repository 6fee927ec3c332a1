def Kc1349 : Con := ((160, [(2, 0, 0, [150]), (2, 0, 0, [5021])], [(150, 6, (0, 0, 1, []))]), [], [(some (0, 0, 0, []), [], [])])
set_option maxRecDepth 20000 in
theorem vc1349 {l : Launch} {X : Nat × (Nat → Int32)} {e : Int} (d : Nat) : Vc l X U0 Pt7 e (d + 1) Kc1349 :=
  ck (d := d) (Ks := []) (cy := 152) (cd := cdX7_isWord) (nl := 4) (fuel := 1000) (Hs := []) (by decide) rfl (fun na b => by rw [← ceX7_isWord]; exact tkX7_isWord) (fun _ h => absurd h List.not_mem_nil) (cpyX d) (by decide +kernel)
def Kc1350 : Con := ((160, [(2, 0, 0, [150]), (2, 0, 0, [5022])], [(150, 6, (0, 0, 1, []))]), [], [(some (0, 0, 0, []), [], [])])
set_option maxRecDepth 20000 in
theorem vc1350 {l : Launch} {X : Nat × (Nat → Int32)} {e : Int} (d : Nat) : Vc l X U0 Pt7 e (d + 1) Kc1350 :=
  ck (d := d) (Ks := []) (cy := 152) (cd := cdX7_isWord) (nl := 4) (fuel := 1000) (Hs := []) (by decide) rfl (fun na b => by rw [← ceX7_isWord]; exact tkX7_isWord) (fun _ h => absurd h List.not_mem_nil) (cpyX d) (by decide +kernel)
def Kc1351 : Con := ((172, [(2, 0, 0, [150]), (2, 0, 0, [5022]), (0, 0, 0, [])], [(154, 9, (0, 0, 0, [])), (150, 6, (0, 0, 1, []))]), [], [(some (0, 0, 0, []), [], [(150, 6, (0, 0, 1, []))])])
set_option maxRecDepth 20000 in
theorem vc1351 {l : Launch} {X : Nat × (Nat → Int32)} {e : Int} (d : Nat) : Vc l X U0 Pt7 e (d + 2) Kc1351 :=
  ck (d := (d + 1)) (Ks := [Kc1350]) (cy := 152) (cd := cdX7_begins) (nl := 3) (fuel := 1000) (Hs := []) (by decide) rfl (fun na b => by rw [← ceX7_begins]; exact tkX7_begins) (List.forall_mem_cons.mpr ⟨vc1350 d, fun _ h => absurd h List.not_mem_nil⟩) (cpyX (d + 1)) (by decide +kernel)
def Kc1352 : Con := ((160, [(2, 0, 0, [150]), (2, 0, 0, [5023])], [(150, 6, (0, 0, 1, []))]), [], [(some (0, 0, 0, []), [], [])])
set_option maxRecDepth 20000 in
theorem vc1352 {l : Launch} {X : Nat × (Nat → Int32)} {e : Int} (d : Nat) : Vc l X U0 Pt7 e (d + 1) Kc1352 :=
  ck (d := d) (Ks := []) (cy := 152) (cd := cdX7_isWord) (nl := 4) (fuel := 1000) (Hs := []) (by decide) rfl (fun na b => by rw [← ceX7_isWord]; exact tkX7_isWord) (fun _ h => absurd h List.not_mem_nil) (cpyX d) (by decide +kernel)
def Kc1353 : Con := ((172, [(2, 0, 0, [150]), (2, 0, 0, [5023]), (0, 0, 0, [])], [(154, 9, (0, 0, 0, [])), (150, 6, (0, 0, 1, []))]), [], [(some (0, 0, 0, []), [], [(150, 6, (0, 0, 1, []))])])
set_option maxRecDepth 20000 in
theorem vc1353 {l : Launch} {X : Nat × (Nat → Int32)} {e : Int} (d : Nat) : Vc l X U0 Pt7 e (d + 2) Kc1353 :=
  ck (d := (d + 1)) (Ks := [Kc1352]) (cy := 152) (cd := cdX7_begins) (nl := 3) (fuel := 1000) (Hs := []) (by decide) rfl (fun na b => by rw [← ceX7_begins]; exact tkX7_begins) (List.forall_mem_cons.mpr ⟨vc1352 d, fun _ h => absurd h List.not_mem_nil⟩) (cpyX (d + 1)) (by decide +kernel)
def Kc1354 : Con := ((160, [(2, 0, 0, [150]), (2, 0, 0, [5024])], [(150, 6, (0, 0, 1, []))]), [], [(some (0, 0, 0, []), [], [])])
set_option maxRecDepth 20000 in
theorem vc1354 {l : Launch} {X : Nat × (Nat → Int32)} {e : Int} (d : Nat) : Vc l X U0 Pt7 e (d + 1) Kc1354 :=
  ck (d := d) (Ks := []) (cy := 152) (cd := cdX7_isWord) (nl := 4) (fuel := 1000) (Hs := []) (by decide) rfl (fun na b => by rw [← ceX7_isWord]; exact tkX7_isWord) (fun _ h => absurd h List.not_mem_nil) (cpyX d) (by decide +kernel)
def Kc1355 : Con := ((172, [(2, 0, 0, [150]), (2, 0, 0, [5024]), (0, 1, 1, [])], [(154, 9, (0, 0, 0, [])), (150, 6, (0, 0, 1, []))]), [], [(some (0, 0, 0, []), [], [(150, 6, (0, 0, 1, []))])])
set_option maxRecDepth 20000 in
theorem vc1355 {l : Launch} {X : Nat × (Nat → Int32)} {e : Int} (d : Nat) : Vc l X U0 Pt7 e (d + 2) Kc1355 :=
  ck (d := (d + 1)) (Ks := [Kc1354]) (cy := 152) (cd := cdX7_begins) (nl := 3) (fuel := 1000) (Hs := []) (by decide) rfl (fun na b => by rw [← ceX7_begins]; exact tkX7_begins) (List.forall_mem_cons.mpr ⟨vc1354 d, fun _ h => absurd h List.not_mem_nil⟩) (cpyX (d + 1)) (by decide +kernel)
def Kc1356 : Con := ((160, [(2, 0, 0, [150]), (2, 0, 0, [5025])], [(150, 6, (0, 0, 1, []))]), [], [(some (0, 0, 0, []), [], [])])
set_option maxRecDepth 20000 in
theorem vc1356 {l : Launch} {X : Nat × (Nat → Int32)} {e : Int} (d : Nat) : Vc l X U0 Pt7 e (d + 1) Kc1356 :=
  ck (d := d) (Ks := []) (cy := 152) (cd := cdX7_isWord) (nl := 4) (fuel := 1000) (Hs := []) (by decide) rfl (fun na b => by rw [← ceX7_isWord]; exact tkX7_isWord) (fun _ h => absurd h List.not_mem_nil) (cpyX d) (by decide +kernel)
def Kc1357 : Con := ((172, [(2, 0, 0, [150]), (2, 0, 0, [5025]), (0, 0, 0, [])], [(154, 9, (0, 0, 0, [])), (150, 6, (0, 0, 1, []))]), [], [(some (0, 0, 0, []), [], [(150, 6, (0, 0, 1, []))])])
set_option maxRecDepth 20000 in
theorem vc1357 {l : Launch} {X : Nat × (Nat → Int32)} {e : Int} (d : Nat) : Vc l X U0 Pt7 e (d + 2) Kc1357 :=
  ck (d := (d + 1)) (Ks := [Kc1356]) (cy := 152) (cd := cdX7_begins) (nl := 3) (fuel := 1000) (Hs := []) (by decide) rfl (fun na b => by rw [← ceX7_begins]; exact tkX7_begins) (List.forall_mem_cons.mpr ⟨vc1356 d, fun _ h => absurd h List.not_mem_nil⟩) (cpyX (d + 1)) (by decide +kernel)
def Kc1358 : Con := ((160, [(2, 0, 0, [150]), (2, 0, 0, [5026])], [(150, 6, (0, 0, 1, []))]), [], [(some (0, 0, 0, []), [], [])])
set_option maxRecDepth 20000 in
theorem vc1358 {l : Launch} {X : Nat × (Nat → Int32)} {e : Int} (d : Nat) : Vc l X U0 Pt7 e (d + 1) Kc1358 :=
  ck (d := d) (Ks := []) (cy := 152) (cd := cdX7_isWord) (nl := 4) (fuel := 1000) (Hs := []) (by decide) rfl (fun na b => by rw [← ceX7_isWord]; exact tkX7_isWord) (fun _ h => absurd h List.not_mem_nil) (cpyX d) (by decide +kernel)
def Kc1359 : Con := ((172, [(2, 0, 0, [150]), (2, 0, 0, [5026]), (0, 0, 0, [])], [(154, 9, (0, 0, 0, [])), (150, 6, (0, 0, 1, []))]), [], [(some (0, 0, 0, []), [], [(150, 6, (0, 0, 1, []))])])
set_option maxRecDepth 20000 in
theorem vc1359 {l : Launch} {X : Nat × (Nat → Int32)} {e : Int} (d : Nat) : Vc l X U0 Pt7 e (d + 2) Kc1359 :=
  ck (d := (d + 1)) (Ks := [Kc1358]) (cy := 152) (cd := cdX7_begins) (nl := 3) (fuel := 1000) (Hs := []) (by decide) rfl (fun na b => by rw [← ceX7_begins]; exact tkX7_begins) (List.forall_mem_cons.mpr ⟨vc1358 d, fun _ h => absurd h List.not_mem_nil⟩) (cpyX (d + 1)) (by decide +kernel)
def Kc1360 : Con := ((160, [(2, 0, 0, [150]), (2, 0, 0, [5027])], [(150, 6, (0, 0, 1, []))]), [], [(some (0, 0, 0, []), [], [])])
set_option maxRecDepth 20000 in
theorem vc1360 {l : Launch} {X : Nat × (Nat → Int32)} {e : Int} (d : Nat) : Vc l X U0 Pt7 e (d + 1) Kc1360 :=
  ck (d := d) (Ks := []) (cy := 152) (cd := cdX7_isWord) (nl := 4) (fuel := 1000) (Hs := []) (by decide) rfl (fun na b => by rw [← ceX7_isWord]; exact tkX7_isWord) (fun _ h => absurd h List.not_mem_nil) (cpyX d) (by decide +kernel)
def Kc1361 : Con := ((172, [(2, 0, 0, [150]), (2, 0, 0, [5027]), (0, 1, 1, [])], [(154, 9, (0, 0, 0, [])), (150, 6, (0, 0, 1, []))]), [], [(some (0, 0, 0, []), [], [(150, 6, (0, 0, 1, []))])])
set_option maxRecDepth 20000 in
theorem vc1361 {l : Launch} {X : Nat × (Nat → Int32)} {e : Int} (d : Nat) : Vc l X U0 Pt7 e (d + 2) Kc1361 :=
  ck (d := (d + 1)) (Ks := [Kc1360]) (cy := 152) (cd := cdX7_begins) (nl := 3) (fuel := 1000) (Hs := []) (by decide) rfl (fun na b => by rw [← ceX7_begins]; exact tkX7_begins) (List.forall_mem_cons.mpr ⟨vc1360 d, fun _ h => absurd h List.not_mem_nil⟩) (cpyX (d + 1)) (by decide +kernel)
def Kc1362 : Con := ((172, [(2, 0, 0, [150]), (2, 0, 0, [5026]), (0, 1, 1, [])], [(154, 9, (0, 0, 0, [])), (150, 6, (0, 0, 1, []))]), [], [(some (0, 0, 0, []), [], [(150, 6, (0, 0, 1, []))])])
set_option maxRecDepth 20000 in
theorem vc1362 {l : Launch} {X : Nat × (Nat → Int32)} {e : Int} (d : Nat) : Vc l X U0 Pt7 e (d + 2) Kc1362 :=
  ck (d := (d + 1)) (Ks := [Kc1358]) (cy := 152) (cd := cdX7_begins) (nl := 3) (fuel := 1000) (Hs := []) (by decide) rfl (fun na b => by rw [← ceX7_begins]; exact tkX7_begins) (List.forall_mem_cons.mpr ⟨vc1358 d, fun _ h => absurd h List.not_mem_nil⟩) (cpyX (d + 1)) (by decide +kernel)
def Kc1363 : Con := ((172, [(2, 0, 0, [150]), (2, 0, 0, [5025]), (0, 1, 1, [])], [(154, 9, (0, 0, 0, [])), (150, 6, (0, 0, 1, []))]), [], [(some (0, 0, 0, []), [], [(150, 6, (0, 0, 1, []))])])
set_option maxRecDepth 20000 in
theorem vc1363 {l : Launch} {X : Nat × (Nat → Int32)} {e : Int} (d : Nat) : Vc l X U0 Pt7 e (d + 2) Kc1363 :=
  ck (d := (d + 1)) (Ks := [Kc1356]) (cy := 152) (cd := cdX7_begins) (nl := 3) (fuel := 1000) (Hs := []) (by decide) rfl (fun na b => by rw [← ceX7_begins]; exact tkX7_begins) (List.forall_mem_cons.mpr ⟨vc1356 d, fun _ h => absurd h List.not_mem_nil⟩) (cpyX (d + 1)) (by decide +kernel)
def Kc1364 : Con := ((172, [(2, 0, 0, [150]), (2, 0, 0, [5023]), (0, 1, 1, [])], [(154, 9, (0, 0, 0, [])), (150, 6, (0, 0, 1, []))]), [], [(some (0, 0, 0, []), [], [(150, 6, (0, 0, 1, []))])])
set_option maxRecDepth 20000 in
theorem vc1364 {l : Launch} {X : Nat × (Nat → Int32)} {e : Int} (d : Nat) : Vc l X U0 Pt7 e (d + 2) Kc1364 :=
  ck (d := (d + 1)) (Ks := [Kc1352]) (cy := 152) (cd := cdX7_begins) (nl := 3) (fuel := 1000) (Hs := []) (by decide) rfl (fun na b => by rw [← ceX7_begins]; exact tkX7_begins) (List.forall_mem_cons.mpr ⟨vc1352 d, fun _ h => absurd h List.not_mem_nil⟩) (cpyX (d + 1)) (by decide +kernel)
def Kc1365 : Con := ((172, [(2, 0, 0, [150]), (2, 0, 0, [5022]), (0, 1, 1, [])], [(154, 9, (0, 0, 0, [])), (150, 6, (0, 0, 1, []))]), [], [(some (0, 0, 0, []), [], [(150, 6, (0, 0, 1, []))])])
set_option maxRecDepth 20000 in
theorem vc1365 {l : Launch} {X : Nat × (Nat → Int32)} {e : Int} (d : Nat) : Vc l X U0 Pt7 e (d + 2) Kc1365 :=
  ck (d := (d + 1)) (Ks := [Kc1350]) (cy := 152) (cd := cdX7_begins) (nl := 3) (fuel := 1000) (Hs := []) (by decide) rfl (fun na b => by rw [← ceX7_begins]; exact tkX7_begins) (List.forall_mem_cons.mpr ⟨vc1350 d, fun _ h => absurd h List.not_mem_nil⟩) (cpyX (d + 1)) (by decide +kernel)
def Kc1366 : Con := ((173, [(2, 0, 0, [150])], [(154, 5, (0, 0, 0, [])), (154, 9, (0, 0, 0, [])), (150, 6, (0, 0, 1, []))]), [(150, 9, 10), (150, 13, 13)], [(none, [], [(150, 13, (0, 1, 1, [])), (154, 5, (0, 0, 0, [])), (154, 9, (0, 0, 0, []))])])
set_option maxRecDepth 20000 in
theorem vc1366 {l : Launch} {X : Nat × (Nat → Int32)} {e : Int} (d : Nat) : Vc l X U0 Pt7 e (d + 3) Kc1366 :=
  ck (d := (d + 2)) (Ks := [Kc1349, Kc1351, Kc1353, Kc1355, Kc1357, Kc1359, Kc1361, Kc1127, Kc1362, Kc1363, Kc1364, Kc1365]) (cy := 152) (cd := cdX7_readLine) (nl := 1) (fuel := 1000) (Hs := []) (by decide) rfl (fun na b => by rw [← ceX7_readLine]; exact tkX7_readLine) (List.forall_mem_cons.mpr ⟨vc1349 (d + 1), List.forall_mem_cons.mpr ⟨vc1351 d, List.forall_mem_cons.mpr ⟨vc1353 d, List.forall_mem_cons.mpr ⟨vc1355 d, List.forall_mem_cons.mpr ⟨vc1357 d, List.forall_mem_cons.mpr ⟨vc1359 d, List.forall_mem_cons.mpr ⟨vc1361 d, List.forall_mem_cons.mpr ⟨vc1127 (d + 2), List.forall_mem_cons.mpr ⟨vc1362 d, List.forall_mem_cons.mpr ⟨vc1363 d, List.forall_mem_cons.mpr ⟨vc1364 d, List.forall_mem_cons.mpr ⟨vc1365 d, fun _ h => absurd h List.not_mem_nil⟩⟩⟩⟩⟩⟩⟩⟩⟩⟩⟩⟩) (cpyX (d + 2)) (by decide +kernel)
def Kc1367 : Con := ((172, [(2, 0, 0, [150]), (2, 0, 0, [5022]), (0, 0, 0, [])], [(154, 9, (0, 1, 1, [])), (150, 6, (0, 0, 1, []))]), [], [(some (0, 0, 0, []), [], [(150, 6, (0, 0, 1, []))])])
set_option maxRecDepth 20000 in
theorem vc1367 {l : Launch} {X : Nat × (Nat → Int32)} {e : Int} (d : Nat) : Vc l X U0 Pt7 e (d + 2) Kc1367 :=
  ck (d := (d + 1)) (Ks := [Kc1350]) (cy := 152) (cd := cdX7_begins) (nl := 3) (fuel := 1000) (Hs := []) (by decide) rfl (fun na b => by rw [← ceX7_begins]; exact tkX7_begins) (List.forall_mem_cons.mpr ⟨vc1350 d, fun _ h => absurd h List.not_mem_nil⟩) (cpyX (d + 1)) (by decide +kernel)
def Kc1368 : Con := ((172, [(2, 0, 0, [150]), (2, 0, 0, [5023]), (0, 0, 0, [])], [(154, 9, (0, 1, 1, [])), (150, 6, (0, 0, 1, []))]), [], [(some (0, 0, 0, []), [], [(150, 6, (0, 0, 1, []))])])
set_option maxRecDepth 20000 in
theorem vc1368 {l : Launch} {X : Nat × (Nat → Int32)} {e : Int} (d : Nat) : Vc l X U0 Pt7 e (d + 2) Kc1368 :=
  ck (d := (d + 1)) (Ks := [Kc1352]) (cy := 152) (cd := cdX7_begins) (nl := 3) (fuel := 1000) (Hs := []) (by decide) rfl (fun na b => by rw [← ceX7_begins]; exact tkX7_begins) (List.forall_mem_cons.mpr ⟨vc1352 d, fun _ h => absurd h List.not_mem_nil⟩) (cpyX (d + 1)) (by decide +kernel)
def Kc1369 : Con := ((172, [(2, 0, 0, [150]), (2, 0, 0, [5024]), (0, 1, 1, [])], [(154, 9, (0, 1, 1, [])), (150, 6, (0, 0, 1, []))]), [], [(some (0, 0, 0, []), [], [(150, 6, (0, 0, 1, []))])])
set_option maxRecDepth 20000 in
theorem vc1369 {l : Launch} {X : Nat × (Nat → Int32)} {e : Int} (d : Nat) : Vc l X U0 Pt7 e (d + 2) Kc1369 :=
  ck (d := (d + 1)) (Ks := [Kc1354]) (cy := 152) (cd := cdX7_begins) (nl := 3) (fuel := 1000) (Hs := []) (by decide) rfl (fun na b => by rw [← ceX7_begins]; exact tkX7_begins) (List.forall_mem_cons.mpr ⟨vc1354 d, fun _ h => absurd h List.not_mem_nil⟩) (cpyX (d + 1)) (by decide +kernel)
def Kc1370 : Con := ((172, [(2, 0, 0, [150]), (2, 0, 0, [5025]), (0, 0, 0, [])], [(154, 9, (0, 1, 1, [])), (150, 6, (0, 0, 1, []))]), [], [(some (0, 0, 0, []), [], [(150, 6, (0, 0, 1, []))])])
set_option maxRecDepth 20000 in
theorem vc1370 {l : Launch} {X : Nat × (Nat → Int32)} {e : Int} (d : Nat) : Vc l X U0 Pt7 e (d + 2) Kc1370 :=
  ck (d := (d + 1)) (Ks := [Kc1356]) (cy := 152) (cd := cdX7_begins) (nl := 3) (fuel := 1000) (Hs := []) (by decide) rfl (fun na b => by rw [← ceX7_begins]; exact tkX7_begins) (List.forall_mem_cons.mpr ⟨vc1356 d, fun _ h => absurd h List.not_mem_nil⟩) (cpyX (d + 1)) (by decide +kernel)
def Kc1371 : Con := ((172, [(2, 0, 0, [150]), (2, 0, 0, [5026]), (0, 0, 0, [])], [(154, 9, (0, 1, 1, [])), (150, 6, (0, 0, 1, []))]), [], [(some (0, 0, 0, []), [], [(150, 6, (0, 0, 1, []))])])
set_option maxRecDepth 20000 in
theorem vc1371 {l : Launch} {X : Nat × (Nat → Int32)} {e : Int} (d : Nat) : Vc l X U0 Pt7 e (d + 2) Kc1371 :=
  ck (d := (d + 1)) (Ks := [Kc1358]) (cy := 152) (cd := cdX7_begins) (nl := 3) (fuel := 1000) (Hs := []) (by decide) rfl (fun na b => by rw [← ceX7_begins]; exact tkX7_begins) (List.forall_mem_cons.mpr ⟨vc1358 d, fun _ h => absurd h List.not_mem_nil⟩) (cpyX (d + 1)) (by decide +kernel)
def Kc1372 : Con := ((172, [(2, 0, 0, [150]), (2, 0, 0, [5027]), (0, 1, 1, [])], [(154, 9, (0, 1, 1, [])), (150, 6, (0, 0, 1, []))]), [], [(some (0, 0, 0, []), [], [(150, 6, (0, 0, 1, []))])])
set_option maxRecDepth 20000 in
theorem vc1372 {l : Launch} {X : Nat × (Nat → Int32)} {e : Int} (d : Nat) : Vc l X U0 Pt7 e (d + 2) Kc1372 :=
  ck (d := (d + 1)) (Ks := [Kc1360]) (cy := 152) (cd := cdX7_begins) (nl := 3) (fuel := 1000) (Hs := []) (by decide) rfl (fun na b => by rw [← ceX7_begins]; exact tkX7_begins) (List.forall_mem_cons.mpr ⟨vc1360 d, fun _ h => absurd h List.not_mem_nil⟩) (cpyX (d + 1)) (by decide +kernel)
def Kc1373 : Con := ((172, [(2, 0, 0, [150]), (2, 0, 0, [5026]), (0, 1, 1, [])], [(154, 9, (0, 1, 1, [])), (150, 6, (0, 0, 1, []))]), [], [(some (0, 0, 0, []), [], [(150, 6, (0, 0, 1, []))])])
set_option maxRecDepth 20000 in
theorem vc1373 {l : Launch} {X : Nat × (Nat → Int32)} {e : Int} (d : Nat) : Vc l X U0 Pt7 e (d + 2) Kc1373 :=
  ck (d := (d + 1)) (Ks := [Kc1358]) (cy := 152) (cd := cdX7_begins) (nl := 3) (fuel := 1000) (Hs := []) (by decide) rfl (fun na b => by rw [← ceX7_begins]; exact tkX7_begins) (List.forall_mem_cons.mpr ⟨vc1358 d, fun _ h => absurd h List.not_mem_nil⟩) (cpyX (d + 1)) (by decide +kernel)
def Kc1374 : Con := ((172, [(2, 0, 0, [150]), (2, 0, 0, [5025]), (0, 1, 1, [])], [(154, 9, (0, 1, 1, [])), (150, 6, (0, 0, 1, []))]), [], [(some (0, 0, 0, []), [], [(150, 6, (0, 0, 1, []))])])
set_option maxRecDepth 20000 in
theorem vc1374 {l : Launch} {X : Nat × (Nat → Int32)} {e : Int} (d : Nat) : Vc l X U0 Pt7 e (d + 2) Kc1374 :=
  ck (d := (d + 1)) (Ks := [Kc1356]) (cy := 152) (cd := cdX7_begins) (nl := 3) (fuel := 1000) (Hs := []) (by decide) rfl (fun na b => by rw [← ceX7_begins]; exact tkX7_begins) (List.forall_mem_cons.mpr ⟨vc1356 d, fun _ h => absurd h List.not_mem_nil⟩) (cpyX (d + 1)) (by decide +kernel)
def Kc1375 : Con := ((172, [(2, 0, 0, [150]), (2, 0, 0, [5023]), (0, 1, 1, [])], [(154, 9, (0, 1, 1, [])), (150, 6, (0, 0, 1, []))]), [], [(some (0, 0, 0, []), [], [(150, 6, (0, 0, 1, []))])])
set_option maxRecDepth 20000 in
theorem vc1375 {l : Launch} {X : Nat × (Nat → Int32)} {e : Int} (d : Nat) : Vc l X U0 Pt7 e (d + 2) Kc1375 :=
  ck (d := (d + 1)) (Ks := [Kc1352]) (cy := 152) (cd := cdX7_begins) (nl := 3) (fuel := 1000) (Hs := []) (by decide) rfl (fun na b => by rw [← ceX7_begins]; exact tkX7_begins) (List.forall_mem_cons.mpr ⟨vc1352 d, fun _ h => absurd h List.not_mem_nil⟩) (cpyX (d + 1)) (by decide +kernel)
def Kc1376 : Con := ((172, [(2, 0, 0, [150]), (2, 0, 0, [5022]), (0, 1, 1, [])], [(154, 9, (0, 1, 1, [])), (150, 6, (0, 0, 1, []))]), [], [(some (0, 0, 0, []), [], [(150, 6, (0, 0, 1, []))])])
set_option maxRecDepth 20000 in
theorem vc1376 {l : Launch} {X : Nat × (Nat → Int32)} {e : Int} (d : Nat) : Vc l X U0 Pt7 e (d + 2) Kc1376 :=
  ck (d := (d + 1)) (Ks := [Kc1350]) (cy := 152) (cd := cdX7_begins) (nl := 3) (fuel := 1000) (Hs := []) (by decide) rfl (fun na b => by rw [← ceX7_begins]; exact tkX7_begins) (List.forall_mem_cons.mpr ⟨vc1350 d, fun _ h => absurd h List.not_mem_nil⟩) (cpyX (d + 1)) (by decide +kernel)
def Kc1377 : Con := ((173, [(2, 0, 0, [150])], [(154, 5, (0, 0, 0, [])), (154, 9, (0, 1, 1, [])), (154, 0, (0, 2, 5, [])), (150, 6, (0, 0, 1, []))]), [(150, 9, 10), (150, 13, 13)], [(none, [], [(150, 13, (0, 1, 1, [])), (154, 0, (0, 2, 5, [])), (154, 5, (0, 0, 0, [])), (154, 9, (0, 1, 1, []))])])
set_option maxRecDepth 20000 in
theorem vc1377 {l : Launch} {X : Nat × (Nat → Int32)} {e : Int} (d : Nat) : Vc l X U0 Pt7 e (d + 3) Kc1377 :=
  ck (d := (d + 2)) (Ks := [Kc1349, Kc1367, Kc1368, Kc1369, Kc1370, Kc1371, Kc1372, Kc1127, Kc1373, Kc1374, Kc1375, Kc1376]) (cy := 152) (cd := cdX7_readLine) (nl := 1) (fuel := 1000) (Hs := []) (by decide) rfl (fun na b => by rw [← ceX7_readLine]; exact tkX7_readLine) (List.forall_mem_cons.mpr ⟨vc1349 (d + 1), List.forall_mem_cons.mpr ⟨vc1367 d, List.forall_mem_cons.mpr ⟨vc1368 d, List.forall_mem_cons.mpr ⟨vc1369 d, List.forall_mem_cons.mpr ⟨vc1370 d, List.forall_mem_cons.mpr ⟨vc1371 d, List.forall_mem_cons.mpr ⟨vc1372 d, List.forall_mem_cons.mpr ⟨vc1127 (d + 2), List.forall_mem_cons.mpr ⟨vc1373 d, List.forall_mem_cons.mpr ⟨vc1374 d, List.forall_mem_cons.mpr ⟨vc1375 d, List.forall_mem_cons.mpr ⟨vc1376 d, fun _ h => absurd h List.not_mem_nil⟩⟩⟩⟩⟩⟩⟩⟩⟩⟩⟩⟩) (cpyX (d + 2)) (by decide +kernel)
def Kc1378 : Con := ((173, [(2, 0, 0, [150])], [(154, 5, (0, 1, 1, [])), (154, 35, (0, 1, 30, [])), (154, 36, (0, 1, 30, [])), (154, 9, (0, 1, 1, [])), (154, 0, (0, 2, 5, [])), (150, 6, (0, 0, 1, []))]), [(150, 9, 10), (150, 13, 13)], [(none, [], [(150, 13, (0, 1, 1, [])), (154, 0, (0, 2, 5, [])), (154, 5, (0, 1, 1, [])), (154, 9, (0, 1, 1, [])), (154, 35, (0, 1, 30, [])), (154, 36, (0, 1, 30, []))])])
set_option maxRecDepth 20000 in
theorem vc1378 {l : Launch} {X : Nat × (Nat → Int32)} {e : Int} (d : Nat) : Vc l X U0 Pt7 e (d + 3) Kc1378 :=
  ck (d := (d + 2)) (Ks := [Kc1349, Kc1367, Kc1368, Kc1369, Kc1370, Kc1371, Kc1372, Kc1127, Kc1373, Kc1374, Kc1375, Kc1376]) (cy := 152) (cd := cdX7_readLine) (nl := 1) (fuel := 1000) (Hs := []) (by decide) rfl (fun na b => by rw [← ceX7_readLine]; exact tkX7_readLine) (List.forall_mem_cons.mpr ⟨vc1349 (d + 1), List.forall_mem_cons.mpr ⟨vc1367 d, List.forall_mem_cons.mpr ⟨vc1368 d, List.forall_mem_cons.mpr ⟨vc1369 d, List.forall_mem_cons.mpr ⟨vc1370 d, List.forall_mem_cons.mpr ⟨vc1371 d, List.forall_mem_cons.mpr ⟨vc1372 d, List.forall_mem_cons.mpr ⟨vc1127 (d + 2), List.forall_mem_cons.mpr ⟨vc1373 d, List.forall_mem_cons.mpr ⟨vc1374 d, List.forall_mem_cons.mpr ⟨vc1375 d, List.forall_mem_cons.mpr ⟨vc1376 d, fun _ h => absurd h List.not_mem_nil⟩⟩⟩⟩⟩⟩⟩⟩⟩⟩⟩⟩) (cpyX (d + 2)) (by decide +kernel)
def Kc1379 : Con := ((173, [(2, 0, 0, [150])], [(154, 5, (0, 2, 2, [])), (154, 35, (0, 1, 30, [])), (154, 36, (0, 1, 30, [])), (154, 37, (0, 1, 30, [])), (154, 38, (0, 1, 30, [])), (154, 9, (0, 1, 1, [])), (154, 0, (0, 2, 5, [])), (150, 6, (0, 0, 1, []))]), [(150, 9, 10), (150, 13, 13)], [(none, [], [(150, 13, (0, 1, 1, [])), (154, 0, (0, 2, 5, [])), (154, 5, (0, 2, 2, [])), (154, 9, (0, 1, 1, [])), (154, 35, (0, 1, 30, [])), (154, 36, (0, 1, 30, [])), (154, 37, (0, 1, 30, [])), (154, 38, (0, 1, 30, []))])])
set_option maxRecDepth 20000 in
theorem vc1379 {l : Launch} {X : Nat × (Nat → Int32)} {e : Int} (d : Nat) : Vc l X U0 Pt7 e (d + 3) Kc1379 :=
  ck (d := (d + 2)) (Ks := [Kc1349, Kc1367, Kc1368, Kc1369, Kc1370, Kc1371, Kc1372, Kc1127, Kc1373, Kc1374, Kc1375, Kc1376]) (cy := 152) (cd := cdX7_readLine) (nl := 1) (fuel := 1000) (Hs := []) (by decide) rfl (fun na b => by rw [← ceX7_readLine]; exact tkX7_readLine) (List.forall_mem_cons.mpr ⟨vc1349 (d + 1), List.forall_mem_cons.mpr ⟨vc1367 d, List.forall_mem_cons.mpr ⟨vc1368 d, List.forall_mem_cons.mpr ⟨vc1369 d, List.forall_mem_cons.mpr ⟨vc1370 d, List.forall_mem_cons.mpr ⟨vc1371 d, List.forall_mem_cons.mpr ⟨vc1372 d, List.forall_mem_cons.mpr ⟨vc1127 (d + 2), List.forall_mem_cons.mpr ⟨vc1373 d, List.forall_mem_cons.mpr ⟨vc1374 d, List.forall_mem_cons.mpr ⟨vc1375 d, List.forall_mem_cons.mpr ⟨vc1376 d, fun _ h => absurd h List.not_mem_nil⟩⟩⟩⟩⟩⟩⟩⟩⟩⟩⟩⟩) (cpyX (d + 2)) (by decide +kernel)
def Kc1380 : Con := ((173, [(2, 0, 0, [150])], [(154, 5, (0, 3, 3, [])), (154, 35, (0, 1, 30, [])), (154, 36, (0, 1, 30, [])), (154, 37, (0, 1, 30, [])), (154, 38, (0, 1, 30, [])), (154, 39, (0, 1, 30, [])), (154, 40, (0, 1, 30, [])), (154, 9, (0, 1, 1, [])), (154, 0, (0, 2, 5, [])), (150, 6, (0, 0, 1, []))]), [(150, 9, 10), (150, 13, 13)], [(none, [], [(150, 13, (0, 1, 1, [])), (154, 0, (0, 2, 5, [])), (154, 5, (0, 3, 3, [])), (154, 9, (0, 1, 1, [])), (154, 35, (0, 1, 30, [])), (154, 36, (0, 1, 30, [])), (154, 37, (0, 1, 30, [])), (154, 38, (0, 1, 30, [])), (154, 39, (0, 1, 30, [])), (154, 40, (0, 1, 30, []))])])
set_option maxRecDepth 20000 in
theorem vc1380 {l : Launch} {X : Nat × (Nat → Int32)} {e : Int} (d : Nat) : Vc l X U0 Pt7 e (d + 3) Kc1380 :=
  ck (d := (d + 2)) (Ks := [Kc1349, Kc1367, Kc1368, Kc1369, Kc1370, Kc1371, Kc1372, Kc1127, Kc1373, Kc1374, Kc1375, Kc1376]) (cy := 152) (cd := cdX7_readLine) (nl := 1) (fuel := 1000) (Hs := []) (by decide) rfl (fun na b => by rw [← ceX7_readLine]; exact tkX7_readLine) (List.forall_mem_cons.mpr ⟨vc1349 (d + 1), List.forall_mem_cons.mpr ⟨vc1367 d, List.forall_mem_cons.mpr ⟨vc1368 d, List.forall_mem_cons.mpr ⟨vc1369 d, List.forall_mem_cons.mpr ⟨vc1370 d, List.forall_mem_cons.mpr ⟨vc1371 d, List.forall_mem_cons.mpr ⟨vc1372 d, List.forall_mem_cons.mpr ⟨vc1127 (d + 2), List.forall_mem_cons.mpr ⟨vc1373 d, List.forall_mem_cons.mpr ⟨vc1374 d, List.forall_mem_cons.mpr ⟨vc1375 d, List.forall_mem_cons.mpr ⟨vc1376 d, fun _ h => absurd h List.not_mem_nil⟩⟩⟩⟩⟩⟩⟩⟩⟩⟩⟩⟩) (cpyX (d + 2)) (by decide +kernel)
def Kc1381 : Con := ((173, [(2, 0, 0, [150])], [(154, 5, (0, 4, 4, [])), (154, 35, (0, 1, 30, [])), (154, 36, (0, 1, 30, [])), (154, 37, (0, 1, 30, [])), (154, 38, (0, 1, 30, [])), (154, 39, (0, 1, 30, [])), (154, 40, (0, 1, 30, [])), (154, 41, (0, 1, 30, [])), (154, 42, (0, 1, 30, [])), (154, 9, (0, 1, 1, [])), (154, 0, (0, 2, 5, [])), (150, 6, (0, 0, 1, []))]), [(150, 9, 10), (150, 13, 13)], [(none, [], [(150, 13, (0, 1, 1, [])), (154, 0, (0, 2, 5, [])), (154, 5, (0, 4, 4, [])), (154, 9, (0, 1, 1, [])), (154, 35, (0, 1, 30, [])), (154, 36, (0, 1, 30, [])), (154, 37, (0, 1, 30, [])), (154, 38, (0, 1, 30, [])), (154, 39, (0, 1, 30, [])), (154, 40, (0, 1, 30, [])), (154, 41, (0, 1, 30, [])), (154, 42, (0, 1, 30, []))])])
set_option maxRecDepth 20000 in
theorem vc1381 {l : Launch} {X : Nat × (Nat → Int32)} {e : Int} (d : Nat) : Vc l X U0 Pt7 e (d + 3) Kc1381 :=
  ck (d := (d + 2)) (Ks := [Kc1349, Kc1367, Kc1368, Kc1369, Kc1370, Kc1371, Kc1372, Kc1127, Kc1373, Kc1374, Kc1375, Kc1376]) (cy := 152) (cd := cdX7_readLine) (nl := 1) (fuel := 1000) (Hs := []) (by decide) rfl (fun na b => by rw [← ceX7_readLine]; exact tkX7_readLine) (List.forall_mem_cons.mpr ⟨vc1349 (d + 1), List.forall_mem_cons.mpr ⟨vc1367 d, List.forall_mem_cons.mpr ⟨vc1368 d, List.forall_mem_cons.mpr ⟨vc1369 d, List.forall_mem_cons.mpr ⟨vc1370 d, List.forall_mem_cons.mpr ⟨vc1371 d, List.forall_mem_cons.mpr ⟨vc1372 d, List.forall_mem_cons.mpr ⟨vc1127 (d + 2), List.forall_mem_cons.mpr ⟨vc1373 d, List.forall_mem_cons.mpr ⟨vc1374 d, List.forall_mem_cons.mpr ⟨vc1375 d, List.forall_mem_cons.mpr ⟨vc1376 d, fun _ h => absurd h List.not_mem_nil⟩⟩⟩⟩⟩⟩⟩⟩⟩⟩⟩⟩) (cpyX (d + 2)) (by decide +kernel)
def Kc1382 : Con := ((172, [(2, 0, 0, [150]), (2, 0, 0, [5024]), (0, 0, 0, [])], [(154, 9, (0, 1, 1, [])), (150, 6, (0, 0, 1, []))]), [], [(some (0, 0, 0, []), [], [(150, 6, (0, 0, 1, []))])])
set_option maxRecDepth 20000 in
theorem vc1382 {l : Launch} {X : Nat × (Nat → Int32)} {e : Int} (d : Nat) : Vc l X U0 Pt7 e (d + 2) Kc1382 :=
  ck (d := (d + 1)) (Ks := [Kc1354]) (cy := 152) (cd := cdX7_begins) (nl := 3) (fuel := 1000) (Hs := []) (by decide) rfl (fun na b => by rw [← ceX7_begins]; exact tkX7_begins) (List.forall_mem_cons.mpr ⟨vc1354 d, fun _ h => absurd h List.not_mem_nil⟩) (cpyX (d + 1)) (by decide +kernel)
def Kc1383 : Con := ((173, [(2, 0, 0, [150])], [(154, 5, (0, 5, 5, [])), (154, 35, (0, 1, 30, [])), (154, 36, (0, 1, 30, [])), (154, 37, (0, 1, 30, [])), (154, 38, (0, 1, 30, [])), (154, 39, (0, 1, 30, [])), (154, 40, (0, 1, 30, [])), (154, 41, (0, 1, 30, [])), (154, 42, (0, 1, 30, [])), (154, 43, (0, 1, 30, [])), (154, 44, (0, 1, 30, [])), (154, 9, (0, 1, 1, [])), (154, 0, (0, 2, 5, [])), (150, 6, (0, 0, 1, []))]), [(150, 9, 10), (150, 13, 13)], [(none, [], [(150, 13, (0, 1, 1, [])), (154, 0, (0, 2, 5, [])), (154, 5, (0, 5, 5, [])), (154, 9, (0, 1, 1, [])), (154, 35, (0, 1, 30, [])), (154, 36, (0, 1, 30, [])), (154, 37, (0, 1, 30, [])), (154, 38, (0, 1, 30, [])), (154, 39, (0, 1, 30, [])), (154, 40, (0, 1, 30, [])), (154, 41, (0, 1, 30, [])), (154, 42, (0, 1, 30, [])), (154, 43, (0, 1, 30, [])), (154, 44, (0, 1, 30, []))])])
set_option maxRecDepth 20000 in
theorem vc1383 {l : Launch} {X : Nat × (Nat → Int32)} {e : Int} (d : Nat) : Vc l X U0 Pt7 e (d + 3) Kc1383 :=
  ck (d := (d + 2)) (Ks := [Kc1349, Kc1367, Kc1368, Kc1382, Kc1370, Kc1371, Kc1372, Kc1127, Kc1373, Kc1374, Kc1375, Kc1376]) (cy := 152) (cd := cdX7_readLine) (nl := 1) (fuel := 1000) (Hs := []) (by decide) rfl (fun na b => by rw [← ceX7_readLine]; exact tkX7_readLine) (List.forall_mem_cons.mpr ⟨vc1349 (d + 1), List.forall_mem_cons.mpr ⟨vc1367 d, List.forall_mem_cons.mpr ⟨vc1368 d, List.forall_mem_cons.mpr ⟨vc1382 d, List.forall_mem_cons.mpr ⟨vc1370 d, List.forall_mem_cons.mpr ⟨vc1371 d, List.forall_mem_cons.mpr ⟨vc1372 d, List.forall_mem_cons.mpr ⟨vc1127 (d + 2), List.forall_mem_cons.mpr ⟨vc1373 d, List.forall_mem_cons.mpr ⟨vc1374 d, List.forall_mem_cons.mpr ⟨vc1375 d, List.forall_mem_cons.mpr ⟨vc1376 d, fun _ h => absurd h List.not_mem_nil⟩⟩⟩⟩⟩⟩⟩⟩⟩⟩⟩⟩) (cpyX (d + 2)) (by decide +kernel)
def Kc1384 : Con := ((146, [(2, 0, 0, [150])], []), [(150, 0, 0), (150, 11, 11)], [(none, [], [])])
set_option maxRecDepth 20000 in
theorem vc1384 {l : Launch} {X : Nat × (Nat → Int32)} {e : Int} (d : Nat) : Vc l X U0 Pt7 e d Kc1384 :=
  ck (d := d) (Ks := []) (cy := 152) (cd := cdX7_good) (nl := 1) (fuel := 1000) (Hs := []) (by decide) rfl (fun na b => by rw [← ceX7_good]; exact tkX7_good) (fun _ h => absurd h List.not_mem_nil) (cpyX d) (by decide +kernel)
def Kc1385 : Con := ((147, [(2, 0, 0, [150]), (0, iLo, iHi, [])], []), [(150, 11, 11)], [(some (0, (-1), (-1), []), [], [])])
set_option maxRecDepth 20000 in
theorem vc1385 {l : Launch} {X : Nat × (Nat → Int32)} {e : Int} (d : Nat) : Vc l X U0 Pt7 e d Kc1385 :=
  ck (d := d) (Ks := []) (cy := 152) (cd := cdX7_no) (nl := 2) (fuel := 1000) (Hs := []) (by decide) rfl (fun na b => by rw [← ceX7_no]; exact tkX7_no) (fun _ h => absurd h List.not_mem_nil) (cpyX d) (by decide +kernel)
