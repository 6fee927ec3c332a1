def Kc395 : Con := ((146, [(2, 0, 0, [150])], []), [(150, 0, 0), (150, 11, 11)], [(none, [], [])])
set_option maxRecDepth 20000 in
theorem vc395 {l : Launch} {X : Nat × (Nat → Int32)} {e : Int} (d : Nat) : Vc l X U0 Pt1 e d Kc395 :=
  ck (d := d) (Ks := []) (cy := 152) (cd := cdX7_good) (nl := 1) (fuel := 1000) (Hs := []) (by decide) rfl (fun na b => by rw [← ceX7_good]; exact tkX7_good) (fun _ h => absurd h List.not_mem_nil) (cpyX d) (by decide +kernel)
def Kc396 : Con := ((149, [(0, iLo, iHi, []), (0, 0, 0, []), (0, (-1), 5, [])], []), [], [(some (0, 0, 0, []), [], []), (some (0, 1, 1, []), [(0, 0, 5), (2, 0, 5)], [])])
set_option maxRecDepth 20000 in
theorem vc396 {l : Launch} {X : Nat × (Nat → Int32)} {e : Int} (d : Nat) : Vc l X U0 Pt1 e d Kc396 :=
  ck (d := d) (Ks := []) (cy := 152) (cd := cdX7_in) (nl := 3) (fuel := 1000) (Hs := []) (by decide) rfl (fun na b => by rw [← ceX7_in]; exact tkX7_in) (fun _ h => absurd h List.not_mem_nil) (cpyX d) (by decide +kernel)
def Kc397 : Con := ((185, [(2, 0, 0, [150]), (0, iLo, iHi, [])], []), [], [(some (0, 0, 0, []), [], []), (some (0, 1, 1, []), [(1, 0, 5)], [])])
set_option maxRecDepth 20000 in
theorem vc397 {l : Launch} {X : Nat × (Nat → Int32)} {e : Int} (d : Nat) : Vc l X U0 Pt1 e (d + 1) Kc397 :=
  ck (d := d) (Ks := [Kc396]) (cy := 152) (cd := cdX7_isFace) (nl := 2) (fuel := 1000) (Hs := []) (by decide) rfl (fun na b => by rw [← ceX7_isFace]; exact tkX7_isFace) (List.forall_mem_cons.mpr ⟨vc396 d, fun _ h => absurd h List.not_mem_nil⟩) (cpyX d) (by decide +kernel)
def Kc398 : Con := ((147, [(2, 0, 0, [150]), (0, iLo, iHi, [])], []), [(150, 11, 11)], [(some (0, (-1), (-1), []), [], [])])
set_option maxRecDepth 20000 in
theorem vc398 {l : Launch} {X : Nat × (Nat → Int32)} {e : Int} (d : Nat) : Vc l X U0 Pt1 e d Kc398 :=
  ck (d := d) (Ks := []) (cy := 152) (cd := cdX7_no) (nl := 2) (fuel := 1000) (Hs := []) (by decide) rfl (fun na b => by rw [← ceX7_no]; exact tkX7_no) (fun _ h => absurd h List.not_mem_nil) (cpyX d) (by decide +kernel)
def Kc399 : Con := ((149, [(0, iLo, iHi, []), (0, 0, 0, []), (0, 6, 6, [])], []), [], [(some (0, 0, 0, []), [], []), (some (0, 1, 1, []), [(0, 0, 6)], [])])
set_option maxRecDepth 20000 in
theorem vc399 {l : Launch} {X : Nat × (Nat → Int32)} {e : Int} (d : Nat) : Vc l X U0 Pt1 e d Kc399 :=
  ck (d := d) (Ks := []) (cy := 152) (cd := cdX7_in) (nl := 3) (fuel := 1000) (Hs := []) (by decide) rfl (fun na b => by rw [← ceX7_in]; exact tkX7_in) (fun _ h => absurd h List.not_mem_nil) (cpyX d) (by decide +kernel)
def Kc400 : Con := ((197, [(2, 0, 0, [150]), (0, iLo, iHi, [])], []), [], [(some (0, (-2), (-2), []), [], []), (some (0, 0, 0, []), [], [])])
set_option maxRecDepth 20000 in
theorem vc400 {l : Launch} {X : Nat × (Nat → Int32)} {e : Int} (d : Nat) : Vc l X U0 Pt1 e d Kc400 :=
  ck (d := d) (Ks := []) (cy := 152) (cd := cdX7_canonOf) (nl := 3) (fuel := 1000) (Hs := [((2, 0), ([(0, (2, 0, 0, [150])), (1, (0, 1, 0, [])), (2, (0, 2, 0, []))], [], [(0, 0), (iLo, iHi), (0, 1)], []), [(0, 1, 0), (0, 2, 0)], (2, [(2, (-2))]), [])]) (by decide) rfl (fun na b => by rw [← ceX7_canonOf]; exact tkX7_canonOf) (fun _ h => absurd h List.not_mem_nil) (cpyX d) (by decide +kernel)
def Kc401 : Con := ((198, [(2, 0, 0, [150]), (0, iLo, iHi, []), (0, iLo, iHi, [])], []), [(150, 0, 0), (150, 11, 11)], [(some (0, (-1), (-1), []), [], []), (some (0, iLo, iHi, []), [(1, 0, 5), (2, 0, 6)], []), (some (0, (-2), (-2), []), [(1, 0, 5), (2, 5, 5)], [])])
set_option maxRecDepth 20000 in
theorem vc401 {l : Launch} {X : Nat × (Nat → Int32)} {e : Int} (d : Nat) : Vc l X U0 Pt1 e (d + 2) Kc401 :=
  ck (d := (d + 1)) (Ks := [Kc395, Kc397, Kc398, Kc399, Kc400]) (cy := 152) (cd := cdX7_face) (nl := 3) (fuel := 1000) (Hs := []) (by decide) rfl (fun na b => by rw [← ceX7_face]; exact tkX7_face) (List.forall_mem_cons.mpr ⟨vc395 (d + 1), List.forall_mem_cons.mpr ⟨vc397 d, List.forall_mem_cons.mpr ⟨vc398 (d + 1), List.forall_mem_cons.mpr ⟨vc399 (d + 1), List.forall_mem_cons.mpr ⟨vc400 (d + 1), fun _ h => absurd h List.not_mem_nil⟩⟩⟩⟩⟩) (cpyX (d + 1)) (by decide +kernel)
def Kc402 : Con := ((149, [(0, iLo, iHi, []), (0, 0, 0, []), (0, 0, 0, [])], []), [], [(some (0, 0, 0, []), [], []), (some (0, 1, 1, []), [(0, 0, 0)], [])])
set_option maxRecDepth 20000 in
theorem vc402 {l : Launch} {X : Nat × (Nat → Int32)} {e : Int} (d : Nat) : Vc l X U0 Pt1 e d Kc402 :=
  ck (d := d) (Ks := []) (cy := 152) (cd := cdX7_in) (nl := 3) (fuel := 1000) (Hs := []) (by decide) rfl (fun na b => by rw [← ceX7_in]; exact tkX7_in) (fun _ h => absurd h List.not_mem_nil) (cpyX d) (by decide +kernel)
def Kc403 : Con := ((186, [(2, 0, 0, [150]), (0, iLo, iHi, [])], []), [], [(some (0, 0, 0, []), [], []), (some (0, 1, 1, []), [(1, 0, 0)], [])])
set_option maxRecDepth 20000 in
theorem vc403 {l : Launch} {X : Nat × (Nat → Int32)} {e : Int} (d : Nat) : Vc l X U0 Pt1 e (d + 1) Kc403 :=
  ck (d := d) (Ks := [Kc402]) (cy := 152) (cd := cdX7_isCanon) (nl := 2) (fuel := 1000) (Hs := []) (by decide) rfl (fun na b => by rw [← ceX7_isCanon]; exact tkX7_isCanon) (List.forall_mem_cons.mpr ⟨vc402 d, fun _ h => absurd h List.not_mem_nil⟩) (cpyX d) (by decide +kernel)
def Kc404 : Con := ((149, [(0, iLo, iHi, []), (0, 0, 0, []), (0, 2, 2, [])], []), [], [(some (0, 0, 0, []), [], []), (some (0, 1, 1, []), [(0, 0, 2)], [])])
set_option maxRecDepth 20000 in
theorem vc404 {l : Launch} {X : Nat × (Nat → Int32)} {e : Int} (d : Nat) : Vc l X U0 Pt1 e d Kc404 :=
  ck (d := d) (Ks := []) (cy := 152) (cd := cdX7_in) (nl := 3) (fuel := 1000) (Hs := []) (by decide) rfl (fun na b => by rw [← ceX7_in]; exact tkX7_in) (fun _ h => absurd h List.not_mem_nil) (cpyX d) (by decide +kernel)
def Kc405 : Con := ((199, [(2, 0, 0, [150]), (0, iLo, iHi, []), (0, iLo, iHi, [])], []), [(150, 0, 0), (150, 11, 11)], [(some (0, (-1), (-1), []), [], []), (some (0, 0, 30, []), [(1, 0, 0), (2, 0, 2)], [])])
set_option maxRecDepth 20000 in
theorem vc405 {l : Launch} {X : Nat × (Nat → Int32)} {e : Int} (d : Nat) : Vc l X U0 Pt1 e (d + 2) Kc405 :=
  ck (d := (d + 1)) (Ks := [Kc395, Kc403, Kc398, Kc404]) (cy := 152) (cd := cdX7_canon) (nl := 3) (fuel := 1000) (Hs := []) (by decide) rfl (fun na b => by rw [← ceX7_canon]; exact tkX7_canon) (List.forall_mem_cons.mpr ⟨vc395 (d + 1), List.forall_mem_cons.mpr ⟨vc403 d, List.forall_mem_cons.mpr ⟨vc398 (d + 1), List.forall_mem_cons.mpr ⟨vc404 (d + 1), fun _ h => absurd h List.not_mem_nil⟩⟩⟩⟩) (cpyX (d + 1)) (by decide +kernel)
def Kc406 : Con := ((187, [(2, 0, 0, [150])], []), [], [(some (0, 0, 20, []), [], [])])
set_option maxRecDepth 20000 in
theorem vc406 {l : Launch} {X : Nat × (Nat → Int32)} {e : Int} (d : Nat) : Vc l X U0 Pt1 e d Kc406 :=
  ck (d := d) (Ks := []) (cy := 152) (cd := cdX7_cells) (nl := 1) (fuel := 1000) (Hs := []) (by decide) rfl (fun na b => by rw [← ceX7_cells]; exact tkX7_cells) (fun _ h => absurd h List.not_mem_nil) (cpyX d) (by decide +kernel)
def Kc407 : Con := ((149, [(0, iLo, iHi, []), (0, 0, 0, []), (0, (-1), 19, [])], []), [], [(some (0, 0, 0, []), [], []), (some (0, 1, 1, []), [(0, 0, 19), (2, 0, 19)], [])])
set_option maxRecDepth 20000 in
theorem vc407 {l : Launch} {X : Nat × (Nat → Int32)} {e : Int} (d : Nat) : Vc l X U0 Pt1 e d Kc407 :=
  ck (d := d) (Ks := []) (cy := 152) (cd := cdX7_in) (nl := 3) (fuel := 1000) (Hs := []) (by decide) rfl (fun na b => by rw [← ceX7_in]; exact tkX7_in) (fun _ h => absurd h List.not_mem_nil) (cpyX d) (by decide +kernel)
def Kc408 : Con := ((188, [(2, 0, 0, [150]), (0, iLo, iHi, [])], []), [], [(some (0, 0, 0, []), [], []), (some (0, 1, 1, []), [(1, 0, 19)], [])])
set_option maxRecDepth 20000 in
theorem vc408 {l : Launch} {X : Nat × (Nat → Int32)} {e : Int} (d : Nat) : Vc l X U0 Pt1 e (d + 1) Kc408 :=
  ck (d := d) (Ks := [Kc406, Kc407]) (cy := 152) (cd := cdX7_isCell) (nl := 2) (fuel := 1000) (Hs := []) (by decide) rfl (fun na b => by rw [← ceX7_isCell]; exact tkX7_isCell) (List.forall_mem_cons.mpr ⟨vc406 d, List.forall_mem_cons.mpr ⟨vc407 d, fun _ h => absurd h List.not_mem_nil⟩⟩) (cpyX d) (by decide +kernel)
def Kc409 : Con := ((149, [(0, iLo, iHi, []), (0, 0, 0, []), (0, 3, 3, [])], []), [], [(some (0, 0, 0, []), [], []), (some (0, 1, 1, []), [(0, 0, 3)], [])])
set_option maxRecDepth 20000 in
theorem vc409 {l : Launch} {X : Nat × (Nat → Int32)} {e : Int} (d : Nat) : Vc l X U0 Pt1 e d Kc409 :=
  ck (d := d) (Ks := []) (cy := 152) (cd := cdX7_in) (nl := 3) (fuel := 1000) (Hs := []) (by decide) rfl (fun na b => by rw [← ceX7_in]; exact tkX7_in) (fun _ h => absurd h List.not_mem_nil) (cpyX d) (by decide +kernel)
def Kc410 : Con := ((200, [(2, 0, 0, [150]), (0, iLo, iHi, [])], []), [], [(some (0, (-2), (-2), []), [], []), (some (0, 0, 5, []), [], [])])
set_option maxRecDepth 20000 in
theorem vc410 {l : Launch} {X : Nat × (Nat → Int32)} {e : Int} (d : Nat) : Vc l X U0 Pt1 e d Kc410 :=
  ck (d := d) (Ks := []) (cy := 152) (cd := cdX7_faceOver) (nl := 3) (fuel := 1000) (Hs := [((2, 0), ([(0, (2, 0, 0, [150])), (1, (0, 1, 0, [])), (2, (0, 2, 0, []))], [], [(0, 0), (iLo, iHi), (0, 6)], []), [(0, 1, 0), (0, 2, 0)], (12, [(2, (-2))]), [])]) (by decide) rfl (fun na b => by rw [← ceX7_faceOver]; exact tkX7_faceOver) (fun _ h => absurd h List.not_mem_nil) (cpyX d) (by decide +kernel)
def Kc411 : Con := ((149, [(0, iLo, iHi, []), (0, 0, 0, []), (0, 1, 4, [])], []), [], [(some (0, 0, 0, []), [], []), (some (0, 1, 1, []), [(0, 0, 4)], [])])
set_option maxRecDepth 20000 in
theorem vc411 {l : Launch} {X : Nat × (Nat → Int32)} {e : Int} (d : Nat) : Vc l X U0 Pt1 e d Kc411 :=
  ck (d := d) (Ks := []) (cy := 152) (cd := cdX7_in) (nl := 3) (fuel := 1000) (Hs := []) (by decide) rfl (fun na b => by rw [← ceX7_in]; exact tkX7_in) (fun _ h => absurd h List.not_mem_nil) (cpyX d) (by decide +kernel)
def Kc412 : Con := ((149, [(0, iLo, iHi, []), (0, 0, 0, []), (0, (-1), 3, [])], []), [], [(some (0, 0, 0, []), [], []), (some (0, 1, 1, []), [(0, 0, 3), (2, 0, 3)], [])])
set_option maxRecDepth 20000 in
theorem vc412 {l : Launch} {X : Nat × (Nat → Int32)} {e : Int} (d : Nat) : Vc l X U0 Pt1 e d Kc412 :=
  ck (d := d) (Ks := []) (cy := 152) (cd := cdX7_in) (nl := 3) (fuel := 1000) (Hs := []) (by decide) rfl (fun na b => by rw [← ceX7_in]; exact tkX7_in) (fun _ h => absurd h List.not_mem_nil) (cpyX d) (by decide +kernel)
def Kc413 : Con := ((150, [(0, iLo, iHi, []), (0, iLo, iHi, [])], []), [], [(some (0, 0, 0, []), [], []), (some (0, 1, 1, []), [], [])])
set_option maxRecDepth 20000 in
theorem vc413 {l : Launch} {X : Nat × (Nat → Int32)} {e : Int} (d : Nat) : Vc l X U0 Pt1 e d Kc413 :=
  ck (d := d) (Ks := []) (cy := 152) (cd := cdX7_hasBit) (nl := 2) (fuel := 1000) (Hs := []) (by decide) rfl (fun na b => by rw [← ceX7_hasBit]; exact tkX7_hasBit) (fun _ h => absurd h List.not_mem_nil) (cpyX d) (by decide +kernel)
def Kc414 : Con := ((201, [(2, 0, 0, [150]), (0, iLo, iHi, [])], []), [], [(some (0, 0, 0, []), [], []), (some (0, 1, 1, []), [], [])])
set_option maxRecDepth 20000 in
theorem vc414 {l : Launch} {X : Nat × (Nat → Int32)} {e : Int} (d : Nat) : Vc l X U0 Pt1 e (d + 1) Kc414 :=
  ck (d := d) (Ks := [Kc413]) (cy := 152) (cd := cdX7_isWall) (nl := 2) (fuel := 1000) (Hs := []) (by decide) rfl (fun na b => by rw [← ceX7_isWall]; exact tkX7_isWall) (List.forall_mem_cons.mpr ⟨vc413 d, fun _ h => absurd h List.not_mem_nil⟩) (cpyX d) (by decide +kernel)
def Kc415 : Con := ((202, [(2, 0, 0, [150]), (0, iLo, iHi, []), (0, iLo, iHi, [])], []), [], [(some (0, (-2), (-2), []), [], []), (some (0, 0, 19, []), [], [])])
set_option maxRecDepth 20000 in
theorem vc415 {l : Launch} {X : Nat × (Nat → Int32)} {e : Int} (d : Nat) : Vc l X U0 Pt1 e (d + 2) Kc415 :=
  ck (d := (d + 1)) (Ks := [Kc411, Kc412, Kc414]) (cy := 152) (cd := cdX7_stepFrom) (nl := 5) (fuel := 1000) (Hs := []) (by decide) rfl (fun na b => by rw [← ceX7_stepFrom]; exact tkX7_stepFrom) (List.forall_mem_cons.mpr ⟨vc411 (d + 1), List.forall_mem_cons.mpr ⟨vc412 (d + 1), List.forall_mem_cons.mpr ⟨vc414 d, fun _ h => absurd h List.not_mem_nil⟩⟩⟩) (cpyX (d + 1)) (by decide +kernel)
def Kc416 : Con := ((203, [(2, 0, 0, [150]), (0, iLo, iHi, [])], []), [], [(some (0, iLo, iHi, []), [], [])])
set_option maxRecDepth 20000 in
theorem vc416 {l : Launch} {X : Nat × (Nat → Int32)} {e : Int} (d : Nat) : Vc l X U0 Pt1 e (d + 3) Kc416 :=
  ck (d := (d + 2)) (Ks := [Kc415]) (cy := 152) (cd := cdX7_beside) (nl := 4) (fuel := 1000) (Hs := [((4, 0), ([(0, (2, 0, 0, [150])), (1, (0, 1, 0, [])), (2, (0, 2, 0, [])), (3, (0, 3, 0, []))], [], [(0, 0), (iLo, iHi), (iLo, iHi), (0, 4)], []), [(0, 1, 0), (0, 2, 0), (0, 3, 0)], (8, [(3, (-2))]), [])]) (by decide) rfl (fun na b => by rw [← ceX7_beside]; exact tkX7_beside) (List.forall_mem_cons.mpr ⟨vc415 d, fun _ h => absurd h List.not_mem_nil⟩) (cpyX (d + 2)) (by decide +kernel)
def Kc417 : Con := ((204, [(2, 0, 0, [150]), (0, iLo, iHi, []), (0, iLo, iHi, [])], []), [(150, 0, 0), (150, 11, 11), (150, 26, 26)], [(some (0, (-1), (-1), []), [], []), (some (0, iLo, iHi, []), [(1, 0, 19), (2, 0, 3)], []), (some (0, (-2), (-2), []), [(1, 0, 19), (2, 1, 1)], [])])
set_option maxRecDepth 20000 in
theorem vc417 {l : Launch} {X : Nat × (Nat → Int32)} {e : Int} (d : Nat) : Vc l X U0 Pt1 e (d + 4) Kc417 :=
  ck (d := (d + 3)) (Ks := [Kc395, Kc408, Kc398, Kc409, Kc410, Kc416]) (cy := 152) (cd := cdX7_cell) (nl := 3) (fuel := 1000) (Hs := []) (by decide) rfl (fun na b => by rw [← ceX7_cell]; exact tkX7_cell) (List.forall_mem_cons.mpr ⟨vc395 (d + 3), List.forall_mem_cons.mpr ⟨vc408 (d + 2), List.forall_mem_cons.mpr ⟨vc398 (d + 3), List.forall_mem_cons.mpr ⟨vc409 (d + 3), List.forall_mem_cons.mpr ⟨vc410 (d + 3), List.forall_mem_cons.mpr ⟨vc416 d, fun _ h => absurd h List.not_mem_nil⟩⟩⟩⟩⟩⟩) (cpyX (d + 3)) (by decide +kernel)
def Kc418 : Con := ((205, [(2, 0, 0, [150])], []), [(150, 0, 0), (150, 11, 11)], [(some (0, iLo, iHi, []), [], [])])
set_option maxRecDepth 20000 in
theorem vc418 {l : Launch} {X : Nat × (Nat → Int32)} {e : Int} (d : Nat) : Vc l X U0 Pt1 e (d + 1) Kc418 :=
  ck (d := d) (Ks := [Kc395]) (cy := 152) (cd := cdX7_burden) (nl := 3) (fuel := 1000) (Hs := [((21, 0), ([(0, (2, 0, 0, [150])), (1, (0, 1, 0, [])), (2, (0, 2, 0, []))], [], [(0, 0), (iLo, iHi), (0, 6)], []), [(0, 1, 0), (0, 2, 0)], (12, [(2, (-2))]), [])]) (by decide) rfl (fun na b => by rw [← ceX7_burden]; exact tkX7_burden) (List.forall_mem_cons.mpr ⟨vc395 d, fun _ h => absurd h List.not_mem_nil⟩) (cpyX d) (by decide +kernel)
def Kc419 : Con := ((149, [(0, iLo, iHi, []), (0, 0, 0, []), (0, 60, 60, [])], []), [], [(some (0, 0, 0, []), [], []), (some (0, 1, 1, []), [(0, 0, 60)], [])])
set_option maxRecDepth 20000 in
theorem vc419 {l : Launch} {X : Nat × (Nat → Int32)} {e : Int} (d : Nat) : Vc l X U0 Pt1 e d Kc419 :=
  ck (d := d) (Ks := []) (cy := 152) (cd := cdX7_in) (nl := 3) (fuel := 1000) (Hs := []) (by decide) rfl (fun na b => by rw [← ceX7_in]; exact tkX7_in) (fun _ h => absurd h List.not_mem_nil) (cpyX d) (by decide +kernel)
def Kc420 : Con := ((190, [(2, 0, 0, [150]), (0, 0, 0, []), (0, 0, 0, [])], []), [], [(some (0, 1, 1, []), [], [])])
set_option maxRecDepth 20000 in
theorem vc420 {l : Launch} {X : Nat × (Nat → Int32)} {e : Int} (d : Nat) : Vc l X U0 Pt1 e d Kc420 :=
  ck (d := d) (Ks := []) (cy := 152) (cd := cdX7_why) (nl := 3) (fuel := 1000) (Hs := []) (by decide) rfl (fun na b => by rw [← ceX7_why]; exact tkX7_why) (fun _ h => absurd h List.not_mem_nil) (cpyX d) (by decide +kernel)
def Kc421 : Con := ((190, [(2, 0, 0, [150]), (0, 0, 0, []), (0, 1, 1, [])], []), [], [(some (0, 1, 1, []), [], [])])
set_option maxRecDepth 20000 in
theorem vc421 {l : Launch} {X : Nat × (Nat → Int32)} {e : Int} (d : Nat) : Vc l X U0 Pt1 e d Kc421 :=
  ck (d := d) (Ks := []) (cy := 152) (cd := cdX7_why) (nl := 3) (fuel := 1000) (Hs := []) (by decide) rfl (fun na b => by rw [← ceX7_why]; exact tkX7_why) (fun _ h => absurd h List.not_mem_nil) (cpyX d) (by decide +kernel)
def Kc422 : Con := ((206, [(2, 0, 0, [150]), (0, 0, 0, []), (0, 0, 0, []), (0, iLo, iHi, [])], []), [], [(some (0, 1, 1, []), [], [])])
set_option maxRecDepth 20000 in
theorem vc422 {l : Launch} {X : Nat × (Nat → Int32)} {e : Int} (d : Nat) : Vc l X U0 Pt1 e (d + 1) Kc422 :=
  ck (d := d) (Ks := [Kc419, Kc420, Kc421]) (cy := 152) (cd := cdX7_aheadWhy) (nl := 4) (fuel := 1000) (Hs := []) (by decide) rfl (fun na b => by rw [← ceX7_aheadWhy]; exact tkX7_aheadWhy) (List.forall_mem_cons.mpr ⟨vc419 d, List.forall_mem_cons.mpr ⟨vc420 d, List.forall_mem_cons.mpr ⟨vc421 d, fun _ h => absurd h List.not_mem_nil⟩⟩⟩) (cpyX d) (by decide +kernel)
def Kc423 : Con := ((190, [(2, 0, 0, [150]), (0, 1, 1, []), (0, 0, 0, [])], []), [], [(some (0, 2, 2, []), [], [])])
set_option maxRecDepth 20000 in
theorem vc423 {l : Launch} {X : Nat × (Nat → Int32)} {e : Int} (d : Nat) : Vc l X U0 Pt1 e d Kc423 :=
  ck (d := d) (Ks := []) (cy := 152) (cd := cdX7_why) (nl := 3) (fuel := 1000) (Hs := []) (by decide) rfl (fun na b => by rw [← ceX7_why]; exact tkX7_why) (fun _ h => absurd h List.not_mem_nil) (cpyX d) (by decide +kernel)
def Kc424 : Con := ((190, [(2, 0, 0, [150]), (0, 1, 1, []), (0, 1, 1, [])], []), [], [(some (0, 0, 0, []), [], [])])
set_option maxRecDepth 20000 in
theorem vc424 {l : Launch} {X : Nat × (Nat → Int32)} {e : Int} (d : Nat) : Vc l X U0 Pt1 e d Kc424 :=
  ck (d := d) (Ks := []) (cy := 152) (cd := cdX7_why) (nl := 3) (fuel := 1000) (Hs := []) (by decide) rfl (fun na b => by rw [← ceX7_why]; exact tkX7_why) (fun _ h => absurd h List.not_mem_nil) (cpyX d) (by decide +kernel)
def Kc425 : Con := ((206, [(2, 0, 0, [150]), (0, 1, 1, []), (0, 0, 0, []), (0, iLo, iHi, [])], []), [], [(some (0, 2, 2, []), [], []), (some (0, 0, 0, []), [(3, 0, 60)], [])])
set_option maxRecDepth 20000 in
theorem vc425 {l : Launch} {X : Nat × (Nat → Int32)} {e : Int} (d : Nat) : Vc l X U0 Pt1 e (d + 1) Kc425 :=
  ck (d := d) (Ks := [Kc419, Kc423, Kc424]) (cy := 152) (cd := cdX7_aheadWhy) (nl := 4) (fuel := 1000) (Hs := []) (by decide) rfl (fun na b => by rw [← ceX7_aheadWhy]; exact tkX7_aheadWhy) (List.forall_mem_cons.mpr ⟨vc419 d, List.forall_mem_cons.mpr ⟨vc423 d, List.forall_mem_cons.mpr ⟨vc424 d, fun _ h => absurd h List.not_mem_nil⟩⟩⟩) (cpyX d) (by decide +kernel)
def Kc426 : Con := ((191, [(2, 0, 0, [150]), (0, iLo, iHi, [])], []), [(160, 0, 4)], [(none, [], [])])
set_option maxRecDepth 20000 in
theorem vc426 {l : Launch} {X : Nat × (Nat → Int32)} {e : Int} (d : Nat) : Vc l X U0 Pt1 e (d + 1) Kc426 :=
  ck (d := d) (Ks := [Kc413]) (cy := 152) (cd := cdX7_vexedBy) (nl := 3) (fuel := 1000) (Hs := [((2, 0), ([(0, (2, 0, 0, [150])), (1, (0, 1, 0, [])), (2, (0, 2, 0, []))], [], [(0, 0), (iLo, iHi), (0, 1)], []), [(0, 1, 0), (0, 2, 0)], (19, [(2, (-3))]), []), ((37, 2), ([(0, (2, 0, 0, [150])), (1, (0, 1, 0, [])), (2, (0, 2, 0, []))], [], [(0, 0), (iLo, iHi), (0, 4)], []), [(0, 1, 0), (0, 2, 0)], (12, [(2, (-3))]), [])]) (by decide) rfl (fun na b => by rw [← ceX7_vexedBy]; exact tkX7_vexedBy) (List.forall_mem_cons.mpr ⟨vc413 d, fun _ h => absurd h List.not_mem_nil⟩) (cpyX d) (by decide +kernel)
def Kc427 : Con := ((192, [(2, 0, 0, [150]), (2, 0, 0, [161]), (0, 0, 5, [])], []), [], [(some (0, iLo, iHi, []), [], [])])
set_option maxRecDepth 20000 in
theorem vc427 {l : Launch} {X : Nat × (Nat → Int32)} {e : Int} (d : Nat) : Vc l X U0 Pt1 e d Kc427 :=
  ck (d := d) (Ks := []) (cy := 152) (cd := cdX7_letsGo) (nl := 6) (fuel := 1000) (Hs := []) (by decide) rfl (fun na b => by rw [← ceX7_letsGo]; exact tkX7_letsGo) (fun _ h => absurd h List.not_mem_nil) (cpyX d) (by decide +kernel)
def Kc428 : Con := ((193, [(2, 0, 0, [150]), (2, 0, 0, [161]), (0, iLo, iHi, [])], []), [(161, 0, 17), (161, 23, 24)], [(none, [], [])])
set_option maxRecDepth 20000 in
theorem vc428 {l : Launch} {X : Nat × (Nat → Int32)} {e : Int} (d : Nat) : Vc l X U0 Pt1 e (d + 1) Kc428 :=
  ck (d := d) (Ks := [Kc427]) (cy := 152) (cd := cdX7_dayOn) (nl := 5) (fuel := 1000) (Hs := [((15, 0), ([(0, (2, 0, 0, [150])), (1, (2, 0, 0, [161])), (2, (0, 1, 0, [])), (3, (0, 2, 0, []))], [], [(0, 0), (iLo, iHi), (0, 1)], []), [(0, 2, 0), (0, 3, 0)], (25, [(2, (-3))]), []), ((89, 0), ([(0, (2, 0, 0, [150])), (1, (2, 0, 0, [161])), (3, (0, 1, 0, []))], [], [(0, 0), (0, 6)], []), [(0, 3, 0)], (18, [(1, (-3))]), [])]) (by decide) rfl (fun na b => by rw [← ceX7_dayOn]; exact tkX7_dayOn) (List.forall_mem_cons.mpr ⟨vc427 d, fun _ h => absurd h List.not_mem_nil⟩) (cpyX d) (by decide +kernel)
def Kc429 : Con := ((194, [(2, 0, 0, [150]), (0, iLo, iHi, [])], []), [(160, 0, 4), (161, 0, 24)], [(none, [], [])])
set_option maxRecDepth 20000 in
theorem vc429 {l : Launch} {X : Nat × (Nat → Int32)} {e : Int} (d : Nat) : Vc l X U0 Pt1 e (d + 2) Kc429 :=
  ck (d := (d + 1)) (Ks := [Kc426, Kc428]) (cy := 152) (cd := cdX7_daysOn) (nl := 3) (fuel := 1000) (Hs := [((22, 0), ([(0, (2, 0, 0, [150])), (1, (0, 1, 0, [])), (2, (0, 2, 0, []))], [], [(0, 0), (iLo, iHi), (0, iHi)], []), [(0, 1, 0), (0, 2, 0)], (4294967294, [(2, (-2))]), [])]) (by decide) rfl (fun na b => by rw [← ceX7_daysOn]; exact tkX7_daysOn) (List.forall_mem_cons.mpr ⟨vc426 d, List.forall_mem_cons.mpr ⟨vc428 d, fun _ h => absurd h List.not_mem_nil⟩⟩) (cpyX (d + 1)) (by decide +kernel)
def Kc430 : Con := ((207, [(2, 0, 0, [150]), (0, iLo, iHi, []), (0, iLo, iHi, [])], []), [(150, 0, 0), (150, 11, 11), (160, 0, 4), (161, 0, 24)], [(some (0, (-1), (-1), []), [], []), (some (0, iLo, iHi, []), [(1, 0, 5), (2, 0, 60)], [])])
set_option maxRecDepth 20000 in
theorem vc430 {l : Launch} {X : Nat × (Nat → Int32)} {e : Int} (d : Nat) : Vc l X U0 Pt1 e (d + 3) Kc430 :=
  ck (d := (d + 2)) (Ks := [Kc395, Kc397, Kc422, Kc398, Kc425, Kc429]) (cy := 152) (cd := cdX7_bears) (nl := 4) (fuel := 1000) (Hs := []) (by decide) rfl (fun na b => by rw [← ceX7_bears]; exact tkX7_bears) (List.forall_mem_cons.mpr ⟨vc395 (d + 2), List.forall_mem_cons.mpr ⟨vc397 (d + 1), List.forall_mem_cons.mpr ⟨vc422 (d + 1), List.forall_mem_cons.mpr ⟨vc398 (d + 2), List.forall_mem_cons.mpr ⟨vc425 (d + 1), List.forall_mem_cons.mpr ⟨vc429 d, fun _ h => absurd h List.not_mem_nil⟩⟩⟩⟩⟩⟩) (cpyX (d + 2)) (by decide +kernel)
def Kc431 : Con := ((208, [(2, 0, 0, [150]), (0, iLo, iHi, []), (0, iLo, iHi, [])], []), [(150, 0, 0), (150, 11, 11), (160, 0, 4), (161, 0, 24)], [(some (0, (-1), (-1), []), [], []), (some (0, iLo, iHi, []), [(1, 0, 5), (2, 0, 60)], [])])
set_option maxRecDepth 20000 in
theorem vc431 {l : Launch} {X : Nat × (Nat → Int32)} {e : Int} (d : Nat) : Vc l X U0 Pt1 e (d + 3) Kc431 :=
  ck (d := (d + 2)) (Ks := [Kc395, Kc397, Kc422, Kc398, Kc425, Kc429]) (cy := 152) (cd := cdX7_holds) (nl := 4) (fuel := 1000) (Hs := []) (by decide) rfl (fun na b => by rw [← ceX7_holds]; exact tkX7_holds) (List.forall_mem_cons.mpr ⟨vc395 (d + 2), List.forall_mem_cons.mpr ⟨vc397 (d + 1), List.forall_mem_cons.mpr ⟨vc422 (d + 1), List.forall_mem_cons.mpr ⟨vc398 (d + 2), List.forall_mem_cons.mpr ⟨vc425 (d + 1), List.forall_mem_cons.mpr ⟨vc429 d, fun _ h => absurd h List.not_mem_nil⟩⟩⟩⟩⟩⟩) (cpyX (d + 2)) (by decide +kernel)
def Kc432 : Con := ((209, [(2, 0, 0, [150]), (0, iLo, iHi, []), (0, iLo, iHi, [])], []), [(150, 0, 0), (150, 11, 11), (160, 0, 4), (161, 0, 24)], [(some (0, (-1), (-1), []), [], []), (some (0, iLo, iHi, []), [(1, 0, 5), (2, 0, 60)], [])])
set_option maxRecDepth 20000 in
theorem vc432 {l : Launch} {X : Nat × (Nat → Int32)} {e : Int} (d : Nat) : Vc l X U0 Pt1 e (d + 3) Kc432 :=
  ck (d := (d + 2)) (Ks := [Kc395, Kc397, Kc422, Kc398, Kc425, Kc429]) (cy := 152) (cd := cdX7_drops) (nl := 4) (fuel := 1000) (Hs := []) (by decide) rfl (fun na b => by rw [← ceX7_drops]; exact tkX7_drops) (List.forall_mem_cons.mpr ⟨vc395 (d + 2), List.forall_mem_cons.mpr ⟨vc397 (d + 1), List.forall_mem_cons.mpr ⟨vc422 (d + 1), List.forall_mem_cons.mpr ⟨vc398 (d + 2), List.forall_mem_cons.mpr ⟨vc425 (d + 1), List.forall_mem_cons.mpr ⟨vc429 d, fun _ h => absurd h List.not_mem_nil⟩⟩⟩⟩⟩⟩) (cpyX (d + 2)) (by decide +kernel)
def Kc433 : Con := ((210, [(2, 0, 0, [150]), (0, iLo, iHi, [])], []), [(150, 0, 0), (150, 11, 11), (160, 0, 4), (161, 0, 24)], [(some (0, (-1), (-1), []), [], []), (some (0, (-2), (-2), []), [], []), (some (0, 1, 60, []), [], [])])
set_option maxRecDepth 20000 in
theorem vc433 {l : Launch} {X : Nat × (Nat → Int32)} {e : Int} (d : Nat) : Vc l X U0 Pt1 e (d + 3) Kc433 :=
  ck (d := (d + 2)) (Ks := [Kc395, Kc397, Kc398, Kc429, Kc428]) (cy := 152) (cd := cdX7_dropsIn) (nl := 3) (fuel := 1000) (Hs := [((25, 0), ([(0, (2, 0, 0, [150])), (1, (0, 1, 0, [])), (2, (0, 2, 0, []))], [], [(0, 0), (0, 5), (1, 61)], []), [(0, 1, 0), (0, 2, 0)], (122, [(2, (-2))]), [])]) (by decide) rfl (fun na b => by rw [← ceX7_dropsIn]; exact tkX7_dropsIn) (List.forall_mem_cons.mpr ⟨vc395 (d + 2), List.forall_mem_cons.mpr ⟨vc397 (d + 1), List.forall_mem_cons.mpr ⟨vc398 (d + 2), List.forall_mem_cons.mpr ⟨vc429 d, List.forall_mem_cons.mpr ⟨vc428 (d + 1), fun _ h => absurd h List.not_mem_nil⟩⟩⟩⟩⟩) (cpyX (d + 2)) (by decide +kernel)
def Kc434 : Con := ((211, [(2, 0, 0, [150]), (0, iLo, iHi, [])], []), [(150, 0, 0), (150, 11, 11), (160, 0, 4), (161, 0, 24)], [(some (0, (-1), (-1), []), [], []), (some (0, (-2), (-2), []), [], []), (some (0, 0, 60, []), [], [])])
set_option maxRecDepth 20000 in
theorem vc434 {l : Launch} {X : Nat × (Nat → Int32)} {e : Int} (d : Nat) : Vc l X U0 Pt1 e (d + 3) Kc434 :=
  ck (d := (d + 2)) (Ks := [Kc395, Kc397, Kc398, Kc429, Kc428]) (cy := 152) (cd := cdX7_fallsIn) (nl := 3) (fuel := 1000) (Hs := [((25, 0), ([(0, (2, 0, 0, [150])), (1, (0, 1, 0, [])), (2, (0, 2, 0, []))], [], [(0, 0), (0, 5), (0, 61)], []), [(0, 1, 0), (0, 2, 0)], (122, [(2, (-2))]), [])]) (by decide) rfl (fun na b => by rw [← ceX7_fallsIn]; exact tkX7_fallsIn) (List.forall_mem_cons.mpr ⟨vc395 (d + 2), List.forall_mem_cons.mpr ⟨vc397 (d + 1), List.forall_mem_cons.mpr ⟨vc398 (d + 2), List.forall_mem_cons.mpr ⟨vc429 d, List.forall_mem_cons.mpr ⟨vc428 (d + 1), fun _ h => absurd h List.not_mem_nil⟩⟩⟩⟩⟩) (cpyX (d + 2)) (by decide +kernel)
def Kc435 : Con := ((149, [(0, iLo, iHi, []), (0, 1, 1, []), (0, 60, 60, [])], []), [], [(some (0, 0, 0, []), [], []), (some (0, 1, 1, []), [(0, 1, 60)], [])])
set_option maxRecDepth 20000 in
theorem vc435 {l : Launch} {X : Nat × (Nat → Int32)} {e : Int} (d : Nat) : Vc l X U0 Pt1 e d Kc435 :=
  ck (d := d) (Ks := []) (cy := 152) (cd := cdX7_in) (nl := 3) (fuel := 1000) (Hs := []) (by decide) rfl (fun na b => by rw [← ceX7_in]; exact tkX7_in) (fun _ h => absurd h List.not_mem_nil) (cpyX d) (by decide +kernel)
def Kc436 : Con := ((206, [(2, 0, 0, [150]), (0, 1, 1, []), (0, 1, 1, []), (0, iLo, iHi, [])], []), [], [(some (0, 2, 2, []), [], []), (some (0, 0, 0, []), [(3, 1, 60)], [])])
set_option maxRecDepth 20000 in
theorem vc436 {l : Launch} {X : Nat × (Nat → Int32)} {e : Int} (d : Nat) : Vc l X U0 Pt1 e (d + 1) Kc436 :=
  ck (d := d) (Ks := [Kc435, Kc423, Kc424]) (cy := 152) (cd := cdX7_aheadWhy) (nl := 4) (fuel := 1000) (Hs := []) (by decide) rfl (fun na b => by rw [← ceX7_aheadWhy]; exact tkX7_aheadWhy) (List.forall_mem_cons.mpr ⟨vc435 d, List.forall_mem_cons.mpr ⟨vc423 d, List.forall_mem_cons.mpr ⟨vc424 d, fun _ h => absurd h List.not_mem_nil⟩⟩⟩) (cpyX d) (by decide +kernel)
def Kc437 : Con := ((212, [(2, 0, 0, [150]), (0, iLo, iHi, [])], []), [(150, 0, 0), (150, 11, 11), (160, 0, 4), (161, 0, 24)], [(some (0, (-1), (-1), []), [], []), (some (0, iLo, iHi, []), [(1, 1, 60)], [])])
set_option maxRecDepth 20000 in
theorem vc437 {l : Launch} {X : Nat × (Nat → Int32)} {e : Int} (d : Nat) : Vc l X U0 Pt1 e (d + 3) Kc437 :=
  ck (d := (d + 2)) (Ks := [Kc395, Kc436, Kc398, Kc429]) (cy := 152) (cd := cdX7_wet) (nl := 3) (fuel := 1000) (Hs := []) (by decide) rfl (fun na b => by rw [← ceX7_wet]; exact tkX7_wet) (List.forall_mem_cons.mpr ⟨vc395 (d + 2), List.forall_mem_cons.mpr ⟨vc436 (d + 1), List.forall_mem_cons.mpr ⟨vc398 (d + 2), List.forall_mem_cons.mpr ⟨vc429 d, fun _ h => absurd h List.not_mem_nil⟩⟩⟩⟩) (cpyX (d + 2)) (by decide +kernel)
def Kc438 : Con := ((213, [(2, 0, 0, [150]), (0, 0, 19, []), (0, 0, 60, [])], []), [(160, 0, 4), (161, 0, 24)], [(some (0, iLo, iHi, []), [], [])])
set_option maxRecDepth 20000 in
theorem vc438 {l : Launch} {X : Nat × (Nat → Int32)} {e : Int} (d : Nat) : Vc l X U0 Pt1 e (d + 3) Kc438 :=
  ck (d := (d + 2)) (Ks := [Kc429, Kc428]) (cy := 152) (cd := cdX7_wetOften) (nl := 5) (fuel := 1000) (Hs := [((10, 0), ([(0, (2, 0, 0, [150])), (1, (0, 1, 0, [])), (2, (0, 2, 0, [])), (3, (0, 3, 0, [])), (4, (0, 4, 0, []))], [], [(0, 0), (0, 19), (0, 60), (iLo, iHi), (1, 61)], []), [(0, 1, 0), (0, 2, 0), (0, 3, 0), (0, 4, 0)], (122, [(4, (-2))]), [])]) (by decide) rfl (fun na b => by rw [← ceX7_wetOften]; exact tkX7_wetOften) (List.forall_mem_cons.mpr ⟨vc429 d, List.forall_mem_cons.mpr ⟨vc428 (d + 1), fun _ h => absurd h List.not_mem_nil⟩⟩) (cpyX (d + 2)) (by decide +kernel)
def Kc439 : Con := ((214, [(2, 0, 0, [150]), (0, iLo, iHi, []), (0, iLo, iHi, [])], []), [(150, 0, 0), (150, 11, 11), (160, 0, 4), (161, 0, 24)], [(some (0, (-1), (-1), []), [], []), (some (0, iLo, iHi, []), [(1, 0, 19), (2, 0, 60)], [])])
set_option maxRecDepth 20000 in
theorem vc439 {l : Launch} {X : Nat × (Nat → Int32)} {e : Int} (d : Nat) : Vc l X U0 Pt1 e (d + 4) Kc439 :=
  ck (d := (d + 3)) (Ks := [Kc395, Kc408, Kc422, Kc398, Kc425, Kc438]) (cy := 152) (cd := cdX7_wetDays) (nl := 4) (fuel := 1000) (Hs := []) (by decide) rfl (fun na b => by rw [← ceX7_wetDays]; exact tkX7_wetDays) (List.forall_mem_cons.mpr ⟨vc395 (d + 3), List.forall_mem_cons.mpr ⟨vc408 (d + 2), List.forall_mem_cons.mpr ⟨vc422 (d + 2), List.forall_mem_cons.mpr ⟨vc398 (d + 3), List.forall_mem_cons.mpr ⟨vc425 (d + 2), List.forall_mem_cons.mpr ⟨vc438 d, fun _ h => absurd h List.not_mem_nil⟩⟩⟩⟩⟩⟩) (cpyX (d + 3)) (by decide +kernel)
def Kc440 : Con := ((213, [(2, 0, 0, [150]), (0, 0, 0, []), (0, 60, 60, [])], []), [(160, 0, 4), (161, 0, 24)], [(some (0, iLo, iHi, []), [], [])])
set_option maxRecDepth 20000 in
theorem vc440 {l : Launch} {X : Nat × (Nat → Int32)} {e : Int} (d : Nat) : Vc l X U0 Pt1 e (d + 3) Kc440 :=
  ck (d := (d + 2)) (Ks := [Kc429, Kc428]) (cy := 152) (cd := cdX7_wetOften) (nl := 5) (fuel := 1000) (Hs := [((10, 0), ([(0, (2, 0, 0, [150])), (1, (0, 1, 0, [])), (2, (0, 2, 0, [])), (3, (0, 3, 0, [])), (4, (0, 4, 0, []))], [], [(0, 0), (0, 0), (60, 60), (iLo, iHi), (1, 61)], []), [(0, 1, 0), (0, 2, 0), (0, 3, 0), (0, 4, 0)], (122, [(4, (-2))]), [])]) (by decide) rfl (fun na b => by rw [← ceX7_wetOften]; exact tkX7_wetOften) (List.forall_mem_cons.mpr ⟨vc429 d, List.forall_mem_cons.mpr ⟨vc428 (d + 1), fun _ h => absurd h List.not_mem_nil⟩⟩) (cpyX (d + 2)) (by decide +kernel)
def Kc441 : Con := ((213, [(2, 0, 0, [150]), (0, 1, 19, []), (0, 60, 60, [])], []), [(160, 0, 4), (161, 0, 24)], [(some (0, iLo, iHi, []), [], [])])
set_option maxRecDepth 20000 in
theorem vc441 {l : Launch} {X : Nat × (Nat → Int32)} {e : Int} (d : Nat) : Vc l X U0 Pt1 e (d + 3) Kc441 :=
  ck (d := (d + 2)) (Ks := [Kc429, Kc428]) (cy := 152) (cd := cdX7_wetOften) (nl := 5) (fuel := 1000) (Hs := [((10, 0), ([(0, (2, 0, 0, [150])), (1, (0, 1, 0, [])), (2, (0, 2, 0, [])), (3, (0, 3, 0, [])), (4, (0, 4, 0, []))], [], [(0, 0), (1, 19), (60, 60), (iLo, iHi), (1, 61)], []), [(0, 1, 0), (0, 2, 0), (0, 3, 0), (0, 4, 0)], (122, [(4, (-2))]), [])]) (by decide) rfl (fun na b => by rw [← ceX7_wetOften]; exact tkX7_wetOften) (List.forall_mem_cons.mpr ⟨vc429 d, List.forall_mem_cons.mpr ⟨vc428 (d + 1), fun _ h => absurd h List.not_mem_nil⟩⟩) (cpyX (d + 2)) (by decide +kernel)
def Kc442 : Con := ((215, [(2, 0, 0, [150])], []), [(150, 0, 0), (150, 11, 11), (160, 0, 4), (161, 0, 24)], [(some (0, 0, 19, []), [], [])])
set_option maxRecDepth 20000 in
theorem vc442 {l : Launch} {X : Nat × (Nat → Int32)} {e : Int} (d : Nat) : Vc l X U0 Pt1 e (d + 4) Kc442 :=
  ck (d := (d + 3)) (Ks := [Kc395, Kc440, Kc406, Kc441]) (cy := 152) (cd := cdX7_wettest) (nl := 5) (fuel := 1000) (Hs := [((29, 0), ([(0, (2, 0, 0, [150])), (1, (0, 1, 0, [])), (2, (0, 2, 0, [])), (3, (0, 3, 0, []))], [], [(0, 0), (0, 19), (iLo, iHi), (1, 20)], []), [(0, 1, 0), (0, 2, 0), (0, 3, 0)], (40, [(3, (-2))]), [])]) (by decide) rfl (fun na b => by rw [← ceX7_wettest]; exact tkX7_wettest) (List.forall_mem_cons.mpr ⟨vc395 (d + 3), List.forall_mem_cons.mpr ⟨vc440 d, List.forall_mem_cons.mpr ⟨vc406 (d + 3), List.forall_mem_cons.mpr ⟨vc441 d, fun _ h => absurd h List.not_mem_nil⟩⟩⟩⟩) (cpyX (d + 3)) (by decide +kernel)
def Kc443 : Con := ((216, [(2, 0, 0, [150])], []), [(150, 0, 0), (150, 11, 11), (160, 0, 4), (161, 0, 24)], [(some (0, (-2), (-2), []), [], []), (some (0, 1, 60, []), [], [])])
set_option maxRecDepth 20000 in
theorem vc443 {l : Launch} {X : Nat × (Nat → Int32)} {e : Int} (d : Nat) : Vc l X U0 Pt1 e (d + 3) Kc443 :=
  ck (d := (d + 2)) (Ks := [Kc395, Kc429, Kc428]) (cy := 152) (cd := cdX7_sunny) (nl := 2) (fuel := 1000) (Hs := [((24, 0), ([(0, (2, 0, 0, [150])), (1, (0, 1, 0, []))], [], [(0, 0), (1, 61)], []), [(0, 1, 0)], (122, [(1, (-2))]), [])]) (by decide) rfl (fun na b => by rw [← ceX7_sunny]; exact tkX7_sunny) (List.forall_mem_cons.mpr ⟨vc395 (d + 2), List.forall_mem_cons.mpr ⟨vc429 d, List.forall_mem_cons.mpr ⟨vc428 (d + 1), fun _ h => absurd h List.not_mem_nil⟩⟩⟩) (cpyX (d + 2)) (by decide +kernel)
def Kc444 : Con := ((217, [(2, 0, 0, [150])], []), [(150, 0, 0), (150, 11, 11), (160, 0, 4), (161, 0, 24)], [(some (0, iLo, iHi, []), [], [])])
set_option maxRecDepth 20000 in
theorem vc444 {l : Launch} {X : Nat × (Nat → Int32)} {e : Int} (d : Nat) : Vc l X U0 Pt1 e (d + 3) Kc444 :=
  ck (d := (d + 2)) (Ks := [Kc395, Kc429, Kc428]) (cy := 152) (cd := cdX7_heaviest) (nl := 4) (fuel := 1000) (Hs := [((26, 0), ([(0, (2, 0, 0, [150])), (1, (0, 1, 0, [])), (2, (0, 2, 0, []))], [], [(0, 0), (iLo, iHi), (1, 61)], []), [(0, 1, 0), (0, 2, 0)], (1486, [(2, (-24))]), []), ((43, 0), ([(0, (2, 0, 0, [150])), (1, (0, 1, 0, [])), (2, (0, 2, 0, [])), (3, (0, 3, 0, []))], [], [(0, 0), (iLo, iHi), (1, 60), (0, 6)], []), [(0, 1, 0), (0, 2, 0), (0, 3, 0)], (1482, [(2, (-24)), (3, (-3))]), [])]) (by decide) rfl (fun na b => by rw [← ceX7_heaviest]; exact tkX7_heaviest) (List.forall_mem_cons.mpr ⟨vc395 (d + 2), List.forall_mem_cons.mpr ⟨vc429 d, List.forall_mem_cons.mpr ⟨vc428 (d + 1), fun _ h => absurd h List.not_mem_nil⟩⟩⟩) (cpyX (d + 2)) (by decide +kernel)
def Kc445 : Con := ((196, [(2, 0, 0, [150]), (2, 0, 0, [161])], []), [], [(some (0, iLo, iHi, []), [], [])])
set_option maxRecDepth 20000 in
theorem vc445 {l : Launch} {X : Nat × (Nat → Int32)} {e : Int} (d : Nat) : Vc l X U0 Pt1 e d Kc445 :=
  ck (d := d) (Ks := []) (cy := 152) (cd := cdX7_fallenOn) (nl := 4) (fuel := 1000) (Hs := [((4, 0), ([(0, (2, 0, 0, [150])), (1, (2, 0, 0, [161])), (2, (0, 1, 0, [])), (3, (0, 2, 0, []))], [], [(0, 0), (iLo, iHi), (0, 6)], []), [(0, 2, 0), (0, 3, 0)], (12, [(2, (-2))]), [])]) (by decide) rfl (fun na b => by rw [← ceX7_fallenOn]; exact tkX7_fallenOn) (fun _ h => absurd h List.not_mem_nil) (cpyX d) (by decide +kernel)
def Kc446 : Con := ((218, [(2, 0, 0, [150]), (0, iLo, iHi, [])], []), [(150, 0, 0), (150, 11, 11), (160, 0, 4), (161, 0, 24)], [(some (0, (-1), (-1), []), [], []), (some (0, iLo, iHi, []), [(1, 0, 60)], [])])
set_option maxRecDepth 20000 in
theorem vc446 {l : Launch} {X : Nat × (Nat → Int32)} {e : Int} (d : Nat) : Vc l X U0 Pt1 e (d + 3) Kc446 :=
  ck (d := (d + 2)) (Ks := [Kc395, Kc425, Kc398, Kc429, Kc445]) (cy := 152) (cd := cdX7_fallen) (nl := 3) (fuel := 1000) (Hs := []) (by decide) rfl (fun na b => by rw [← ceX7_fallen]; exact tkX7_fallen) (List.forall_mem_cons.mpr ⟨vc395 (d + 2), List.forall_mem_cons.mpr ⟨vc425 (d + 1), List.forall_mem_cons.mpr ⟨vc398 (d + 2), List.forall_mem_cons.mpr ⟨vc429 d, List.forall_mem_cons.mpr ⟨vc445 (d + 2), fun _ h => absurd h List.not_mem_nil⟩⟩⟩⟩⟩) (cpyX (d + 2)) (by decide +kernel)
def Kc447 : Con := ((149, [(0, iLo, iHi, []), (0, 1, 1, []), (0, 30, 30, [])], []), [], [(some (0, 0, 0, []), [], []), (some (0, 1, 1, []), [(0, 1, 30)], [])])
set_option maxRecDepth 20000 in
theorem vc447 {l : Launch} {X : Nat × (Nat → Int32)} {e : Int} (d : Nat) : Vc l X U0 Pt1 e d Kc447 :=
  ck (d := d) (Ks := []) (cy := 152) (cd := cdX7_in) (nl := 3) (fuel := 1000) (Hs := []) (by decide) rfl (fun na b => by rw [← ceX7_in]; exact tkX7_in) (fun _ h => absurd h List.not_mem_nil) (cpyX d) (by decide +kernel)
def Kc448 : Con := ((222, [(2, 0, 0, [150]), (0, 0, 0, []), (0, iLo, iHi, [])], []), [], [(some (0, 1, 1, []), [], [])])
set_option maxRecDepth 20000 in
theorem vc448 {l : Launch} {X : Nat × (Nat → Int32)} {e : Int} (d : Nat) : Vc l X U0 Pt1 e (d + 1) Kc448 :=
  ck (d := d) (Ks := [Kc447, Kc420, Kc421]) (cy := 152) (cd := cdX7_planWhy) (nl := 3) (fuel := 1000) (Hs := []) (by decide) rfl (fun na b => by rw [← ceX7_planWhy]; exact tkX7_planWhy) (List.forall_mem_cons.mpr ⟨vc447 d, List.forall_mem_cons.mpr ⟨vc420 d, List.forall_mem_cons.mpr ⟨vc421 d, fun _ h => absurd h List.not_mem_nil⟩⟩⟩) (cpyX d) (by decide +kernel)
def Kc449 : Con := ((222, [(2, 0, 0, [150]), (0, 1, 1, []), (0, iLo, iHi, [])], []), [], [(some (0, 2, 2, []), [], []), (some (0, 0, 0, []), [(2, 1, 30)], [])])
set_option maxRecDepth 20000 in
theorem vc449 {l : Launch} {X : Nat × (Nat → Int32)} {e : Int} (d : Nat) : Vc l X U0 Pt1 e (d + 1) Kc449 :=
  ck (d := d) (Ks := [Kc447, Kc423, Kc424]) (cy := 152) (cd := cdX7_planWhy) (nl := 3) (fuel := 1000) (Hs := []) (by decide) rfl (fun na b => by rw [← ceX7_planWhy]; exact tkX7_planWhy) (List.forall_mem_cons.mpr ⟨vc447 d, List.forall_mem_cons.mpr ⟨vc423 d, List.forall_mem_cons.mpr ⟨vc424 d, fun _ h => absurd h List.not_mem_nil⟩⟩⟩) (cpyX d) (by decide +kernel)
def Kc450 : Con := ((221, [(2, 0, 0, [150]), (0, 0, 0, []), (0, 0, 5, [])], []), [], [(some (0, 0, 0, []), [], []), (some (0, 1, 1, []), [], [])])
set_option maxRecDepth 20000 in
theorem vc450 {l : Launch} {X : Nat × (Nat → Int32)} {e : Int} (d : Nat) : Vc l X U0 Pt1 e (d + 1) Kc450 :=
  ck (d := d) (Ks := [Kc400]) (cy := 152) (cd := cdX7_mayHave) (nl := 3) (fuel := 1000) (Hs := []) (by decide) rfl (fun na b => by rw [← ceX7_mayHave]; exact tkX7_mayHave) (List.forall_mem_cons.mpr ⟨vc400 d, fun _ h => absurd h List.not_mem_nil⟩) (cpyX d) (by decide +kernel)
def Kc451 : Con := ((219, [(2, 0, 0, [150])], []), [(162, 0, 0)], [(none, [], [])])
set_option maxRecDepth 20000 in
theorem vc451 {l : Launch} {X : Nat × (Nat → Int32)} {e : Int} (d : Nat) : Vc l X U0 Pt1 e d Kc451 :=
  ck (d := d) (Ks := []) (cy := 152) (cd := cdX7_planAsNow) (nl := 2) (fuel := 1000) (Hs := [((2, 0), ([(0, (2, 0, 0, [150])), (1, (0, 1, 0, []))], [], [(0, 0), (0, 1)], []), [(0, 1, 0)], (2, [(1, (-2))]), [])]) (by decide) rfl (fun na b => by rw [← ceX7_planAsNow]; exact tkX7_planAsNow) (fun _ h => absurd h List.not_mem_nil) (cpyX d) (by decide +kernel)
def Kc452 : Con := ((151, [(0, iLo, iHi, [])], []), [], [(some (0, iLo, iHi, []), [], [])])
set_option maxRecDepth 20000 in
theorem vc452 {l : Launch} {X : Nat × (Nat → Int32)} {e : Int} (d : Nat) : Vc l X U0 Pt1 e d Kc452 :=
  ck (d := d) (Ks := []) (cy := 152) (cd := cdX7_ones) (nl := 3) (fuel := 1000) (Hs := [((4, 0), ([(0, (0, 1, 0, [])), (1, (0, 2, 0, [])), (2, (0, 3, 0, []))], [], [(0, 0), (iLo, iHi), (iLo, iHi), (0, 8)], []), [(0, 0, 0), (0, 1, 0), (0, 2, 0)], (16, [(3, (-2))]), [])]) (by decide) rfl (fun na b => by rw [← ceX7_ones]; exact tkX7_ones) (fun _ h => absurd h List.not_mem_nil) (cpyX d) (by decide +kernel)
def Kc453 : Con := ((196, [(2, 0, 0, [150]), (2, 0, 0, [157])], []), [], [(some (0, iLo, iHi, []), [], [])])
set_option maxRecDepth 20000 in
theorem vc453 {l : Launch} {X : Nat × (Nat → Int32)} {e : Int} (d : Nat) : Vc l X U0 Pt1 e d Kc453 :=
  ck (d := d) (Ks := []) (cy := 152) (cd := cdX7_fallenOn) (nl := 4) (fuel := 1000) (Hs := [((4, 0), ([(0, (2, 0, 0, [150])), (1, (2, 0, 0, [157])), (2, (0, 1, 0, [])), (3, (0, 2, 0, []))], [], [(0, 0), (iLo, iHi), (0, 6)], []), [(0, 2, 0), (0, 3, 0)], (12, [(2, (-2))]), [])]) (by decide) rfl (fun na b => by rw [← ceX7_fallenOn]; exact tkX7_fallenOn) (fun _ h => absurd h List.not_mem_nil) (cpyX d) (by decide +kernel)
def Kc454 : Con := ((195, [(2, 0, 0, [150]), (2, 0, 0, [161])], []), [], [(some (0, iLo, iHi, []), [], [])])
set_option maxRecDepth 20000 in
theorem vc454 {l : Launch} {X : Nat × (Nat → Int32)} {e : Int} (d : Nat) : Vc l X U0 Pt1 e d Kc454 :=
  ck (d := d) (Ks := []) (cy := 152) (cd := cdX7_letsOf) (nl := 4) (fuel := 1000) (Hs := [((4, 0), ([(0, (2, 0, 0, [150])), (1, (2, 0, 0, [161])), (2, (0, 1, 0, [])), (3, (0, 2, 0, []))], [], [(0, 0), (iLo, iHi), (0, 6)], []), [(0, 2, 0), (0, 3, 0)], (12, [(2, (-2))]), [])]) (by decide) rfl (fun na b => by rw [← ceX7_letsOf]; exact tkX7_letsOf) (fun _ h => absurd h List.not_mem_nil) (cpyX d) (by decide +kernel)
def Kc455 : Con := ((195, [(2, 0, 0, [150]), (2, 0, 0, [157])], []), [], [(some (0, iLo, iHi, []), [], [])])
set_option maxRecDepth 20000 in
theorem vc455 {l : Launch} {X : Nat × (Nat → Int32)} {e : Int} (d : Nat) : Vc l X U0 Pt1 e d Kc455 :=
  ck (d := d) (Ks := []) (cy := 152) (cd := cdX7_letsOf) (nl := 4) (fuel := 1000) (Hs := [((4, 0), ([(0, (2, 0, 0, [150])), (1, (2, 0, 0, [157])), (2, (0, 1, 0, [])), (3, (0, 2, 0, []))], [], [(0, 0), (iLo, iHi), (0, 6)], []), [(0, 2, 0), (0, 3, 0)], (12, [(2, (-2))]), [])]) (by decide) rfl (fun na b => by rw [← ceX7_letsOf]; exact tkX7_letsOf) (fun _ h => absurd h List.not_mem_nil) (cpyX d) (by decide +kernel)
def Kc456 : Con := ((220, [(2, 0, 0, [150]), (0, iLo, iHi, [])], []), [(150, 29, 30), (160, 0, 4), (161, 0, 24)], [(none, [], [])])
set_option maxRecDepth 20000 in
theorem vc456 {l : Launch} {X : Nat × (Nat → Int32)} {e : Int} (d : Nat) : Vc l X U0 Pt1 e (d + 2) Kc456 :=
  ck (d := (d + 1)) (Ks := [Kc426, Kc445, Kc452, Kc453, Kc454, Kc455, Kc428]) (cy := 152) (cd := cdX7_goByPlan) (nl := 3) (fuel := 1000) (Hs := [((22, 0), ([(0, (2, 0, 0, [150])), (1, (0, 1, 0, [])), (2, (0, 2, 0, []))], [], [(0, 0), (iLo, iHi), (0, 1)], []), [(0, 1, 0), (0, 2, 0)], (6442450948, [(2, (-3))]), []), ((55, 0), ([(0, (2, 0, 0, [150])), (1, (0, 1, 0, [])), (2, (0, 2, 0, []))], [], [(0, 0), (iLo, iHi), (0, iHi)], []), [(0, 1, 0), (0, 2, 0)], (6442450941, [(2, (-3))]), [])]) (by decide) rfl (fun na b => by rw [← ceX7_goByPlan]; exact tkX7_goByPlan) (List.forall_mem_cons.mpr ⟨vc426 d, List.forall_mem_cons.mpr ⟨vc445 (d + 1), List.forall_mem_cons.mpr ⟨vc452 (d + 1), List.forall_mem_cons.mpr ⟨vc453 (d + 1), List.forall_mem_cons.mpr ⟨vc454 (d + 1), List.forall_mem_cons.mpr ⟨vc455 (d + 1), List.forall_mem_cons.mpr ⟨vc428 d, fun _ h => absurd h List.not_mem_nil⟩⟩⟩⟩⟩⟩⟩) (cpyX (d + 1)) (by decide +kernel)
def Kc457 : Con := ((223, [(2, 0, 0, [150]), (0, iLo, iHi, []), (0, iLo, iHi, []), (0, iLo, iHi, [])], []), [(150, 0, 0), (150, 11, 11), (150, 29, 30), (160, 0, 4), (161, 0, 24), (162, 0, 0)], [(some (0, (-1), (-1), []), [], []), (some (0, iLo, iHi, []), [(1, 0, 0), (2, 0, 5), (3, 1, 30)], [])])
set_option maxRecDepth 20000 in
theorem vc457 {l : Launch} {X : Nat × (Nat → Int32)} {e : Int} (d : Nat) : Vc l X U0 Pt1 e (d + 3) Kc457 :=
  ck (d := (d + 2)) (Ks := [Kc395, Kc403, Kc448, Kc398, Kc397, Kc449, Kc450, Kc451, Kc456]) (cy := 152) (cd := cdX7_dropsIf) (nl := 5) (fuel := 1000) (Hs := []) (by decide) rfl (fun na b => by rw [← ceX7_dropsIf]; exact tkX7_dropsIf) (List.forall_mem_cons.mpr ⟨vc395 (d + 2), List.forall_mem_cons.mpr ⟨vc403 (d + 1), List.forall_mem_cons.mpr ⟨vc448 (d + 1), List.forall_mem_cons.mpr ⟨vc398 (d + 2), List.forall_mem_cons.mpr ⟨vc397 (d + 1), List.forall_mem_cons.mpr ⟨vc449 (d + 1), List.forall_mem_cons.mpr ⟨vc450 (d + 1), List.forall_mem_cons.mpr ⟨vc451 (d + 2), List.forall_mem_cons.mpr ⟨vc456 d, fun _ h => absurd h List.not_mem_nil⟩⟩⟩⟩⟩⟩⟩⟩⟩) (cpyX (d + 2)) (by decide +kernel)
def Kc458 : Con := ((224, [(2, 0, 0, [150]), (0, iLo, iHi, [])], []), [(150, 29, 32), (160, 0, 4), (161, 0, 24), (163, 0, 4)], [(some (0, 1, 1, []), [], []), (some (0, 0, 0, []), [], [])])
set_option maxRecDepth 20000 in
theorem vc458 {l : Launch} {X : Nat × (Nat → Int32)} {e : Int} (d : Nat) : Vc l X U0 Pt1 e (d + 3) Kc458 :=
  ck (d := (d + 2)) (Ks := [Kc456]) (cy := 152) (cd := cdX7_isBest) (nl := 2) (fuel := 1000) (Hs := []) (by decide) rfl (fun na b => by rw [← ceX7_isBest]; exact tkX7_isBest) (List.forall_mem_cons.mpr ⟨vc456 d, fun _ h => absurd h List.not_mem_nil⟩) (cpyX (d + 2)) (by decide +kernel)
def Kc459 : Con := ((225, [(2, 0, 0, [150]), (0, iLo, iHi, []), (0, iLo, iHi, [])], []), [(150, 0, 0), (150, 11, 11), (150, 29, 32), (160, 0, 4), (161, 0, 24), (162, 0, 0), (163, 0, 4)], [(some (0, (-1), (-1), []), [], []), (some (0, (-2), 5, []), [], [])])
set_option maxRecDepth 20000 in
theorem vc459 {l : Launch} {X : Nat × (Nat → Int32)} {e : Int} (d : Nat) : Vc l X U0 Pt1 e (d + 4) Kc459 :=
  ck (d := (d + 3)) (Ks := [Kc395, Kc403, Kc448, Kc398, Kc449, Kc451, Kc450, Kc458]) (cy := 152) (cd := cdX7_faceFor) (nl := 6) (fuel := 1000) (Hs := [((42, 0), ([(0, (2, 0, 0, [150])), (1, (0, 1, 0, [])), (2, (0, 2, 0, [])), (4, (0, 3, 0, [])), (5, (0, 4, 0, []))], [], [(0, 0), (0, 0), (1, 30), ((-2), 5), (0, 6)], []), [(0, 1, 0), (0, 2, 0), (0, 4, 0), (0, 5, 0)], (12, [(4, (-2))]), [])]) (by decide) rfl (fun na b => by rw [← ceX7_faceFor]; exact tkX7_faceFor) (List.forall_mem_cons.mpr ⟨vc395 (d + 3), List.forall_mem_cons.mpr ⟨vc403 (d + 2), List.forall_mem_cons.mpr ⟨vc448 (d + 2), List.forall_mem_cons.mpr ⟨vc398 (d + 3), List.forall_mem_cons.mpr ⟨vc449 (d + 2), List.forall_mem_cons.mpr ⟨vc451 (d + 3), List.forall_mem_cons.mpr ⟨vc450 (d + 2), List.forall_mem_cons.mpr ⟨vc458 d, fun _ h => absurd h List.not_mem_nil⟩⟩⟩⟩⟩⟩⟩⟩) (cpyX (d + 3)) (by decide +kernel)
def Kc460 : Con := ((226, [(2, 0, 0, [150]), (0, 1, 1, []), (0, iLo, iHi, []), (0, iLo, iHi, [])], []), [(150, 29, 32), (160, 0, 4), (161, 0, 24), (163, 0, 4)], [(none, [], [])])
set_option maxRecDepth 20000 in
theorem vc460 {l : Launch} {X : Nat × (Nat → Int32)} {e : Int} (d : Nat) : Vc l X U0 Pt1 e (d + 4) Kc460 :=
  ck (d := (d + 3)) (Ks := [Kc458]) (cy := 152) (cd := cdX7_tryPlans) (nl := 5) (fuel := 1000) (Hs := []) (by decide) rfl (fun na b => by rw [← ceX7_tryPlans]; exact tkX7_tryPlans) (List.forall_mem_cons.mpr ⟨vc458 d, fun _ h => absurd h List.not_mem_nil⟩) (cpyX (d + 3)) (by decide +kernel)
def Kc461 : Con := ((226, [(2, 0, 0, [150]), (0, 0, 0, []), (0, iLo, iHi, []), (0, iLo, iHi, [])], []), [(150, 29, 32), (160, 0, 4), (161, 0, 24), (162, 0, 0), (163, 0, 4)], [(none, [], [])])
set_option maxRecDepth 20000 in
theorem vc461 {l : Launch} {X : Nat × (Nat → Int32)} {e : Int} (d : Nat) : Vc l X U0 Pt1 e (d + 5) Kc461 :=
  ck (d := (d + 4)) (Ks := [Kc413, Kc460]) (cy := 152) (cd := cdX7_tryPlans) (nl := 5) (fuel := 1000) (Hs := [((20, 0), ([(0, (2, 0, 0, [150])), (1, (0, 1, 0, [])), (2, (0, 2, 0, [])), (3, (0, 3, 0, [])), (4, (0, 4, 0, []))], [], [(0, 0), (0, 0), (iLo, iHi), (iLo, iHi), (0, 6)], []), [(0, 1, 0), (0, 2, 0), (0, 3, 0), (0, 4, 0)], (12, [(4, (-2))]), [])]) (by decide) rfl (fun na b => by rw [← ceX7_tryPlans]; exact tkX7_tryPlans) (List.forall_mem_cons.mpr ⟨vc413 (d + 4), List.forall_mem_cons.mpr ⟨vc460 d, fun _ h => absurd h List.not_mem_nil⟩⟩) (cpyX (d + 4)) (by decide +kernel)
def Kc462 : Con := ((227, [(2, 0, 0, [150]), (0, iLo, iHi, [])], []), [(150, 29, 32), (160, 0, 4), (161, 0, 24), (162, 0, 0), (163, 0, 4)], [(none, [], [])])
set_option maxRecDepth 20000 in
theorem vc462 {l : Launch} {X : Nat × (Nat → Int32)} {e : Int} (d : Nat) : Vc l X U0 Pt1 e (d + 6) Kc462 :=
  ck (d := (d + 5)) (Ks := [Kc461]) (cy := 152) (cd := cdX7_seekMatch) (nl := 2) (fuel := 1000) (Hs := []) (by decide) rfl (fun na b => by rw [← ceX7_seekMatch]; exact tkX7_seekMatch) (List.forall_mem_cons.mpr ⟨vc461 d, fun _ h => absurd h List.not_mem_nil⟩) (cpyX (d + 5)) (by decide +kernel)
def Kc463 : Con := ((228, [(2, 0, 0, [150]), (0, iLo, iHi, [])], []), [(150, 0, 0), (150, 11, 11), (150, 29, 32), (160, 0, 4), (161, 0, 24), (162, 0, 0), (163, 0, 4)], [(some (0, (-1), (-1), []), [], []), (some (0, iLo, iHi, []), [(1, 1, 30)], [])])
set_option maxRecDepth 20000 in
theorem vc463 {l : Launch} {X : Nat × (Nat → Int32)} {e : Int} (d : Nat) : Vc l X U0 Pt1 e (d + 7) Kc463 :=
  ck (d := (d + 6)) (Ks := [Kc395, Kc449, Kc398, Kc462]) (cy := 152) (cd := cdX7_match) (nl := 3) (fuel := 1000) (Hs := []) (by decide) rfl (fun na b => by rw [← ceX7_match]; exact tkX7_match) (List.forall_mem_cons.mpr ⟨vc395 (d + 6), List.forall_mem_cons.mpr ⟨vc449 (d + 5), List.forall_mem_cons.mpr ⟨vc398 (d + 6), List.forall_mem_cons.mpr ⟨vc462 d, fun _ h => absurd h List.not_mem_nil⟩⟩⟩⟩) (cpyX (d + 6)) (by decide +kernel)
def Kc464 : Con := ((229, [(2, 0, 0, [150]), (0, iLo, iHi, [])], []), [(150, 0, 0), (150, 11, 11), (150, 29, 32), (160, 0, 4), (161, 0, 24), (162, 0, 0), (163, 0, 4)], [(some (0, (-1), (-1), []), [], []), (some (0, iLo, iHi, []), [(1, 1, 30)], [])])
set_option maxRecDepth 20000 in
theorem vc464 {l : Launch} {X : Nat × (Nat → Int32)} {e : Int} (d : Nat) : Vc l X U0 Pt1 e (d + 7) Kc464 :=
  ck (d := (d + 6)) (Ks := [Kc395, Kc449, Kc398, Kc462]) (cy := 152) (cd := cdX7_matchDrops) (nl := 3) (fuel := 1000) (Hs := []) (by decide) rfl (fun na b => by rw [← ceX7_matchDrops]; exact tkX7_matchDrops) (List.forall_mem_cons.mpr ⟨vc395 (d + 6), List.forall_mem_cons.mpr ⟨vc449 (d + 5), List.forall_mem_cons.mpr ⟨vc398 (d + 6), List.forall_mem_cons.mpr ⟨vc462 d, fun _ h => absurd h List.not_mem_nil⟩⟩⟩⟩) (cpyX (d + 6)) (by decide +kernel)
def Kc465 : Con := ((230, [(2, 0, 0, [150]), (0, iLo, iHi, []), (0, iLo, iHi, [])], []), [(150, 0, 0), (150, 11, 11), (150, 29, 32), (160, 0, 4), (161, 0, 24), (162, 0, 0), (163, 0, 4)], [(some (0, (-1), (-1), []), [], []), (some (0, 0, 5, []), [(1, 0, 0), (2, 1, 30)], [])])
set_option maxRecDepth 20000 in
theorem vc465 {l : Launch} {X : Nat × (Nat → Int32)} {e : Int} (d : Nat) : Vc l X U0 Pt1 e (d + 7) Kc465 :=
  ck (d := (d + 6)) (Ks := [Kc395, Kc403, Kc448, Kc398, Kc449, Kc462]) (cy := 152) (cd := cdX7_matchAt) (nl := 4) (fuel := 1000) (Hs := []) (by decide) rfl (fun na b => by rw [← ceX7_matchAt]; exact tkX7_matchAt) (List.forall_mem_cons.mpr ⟨vc395 (d + 6), List.forall_mem_cons.mpr ⟨vc403 (d + 5), List.forall_mem_cons.mpr ⟨vc448 (d + 5), List.forall_mem_cons.mpr ⟨vc398 (d + 6), List.forall_mem_cons.mpr ⟨vc449 (d + 5), List.forall_mem_cons.mpr ⟨vc462 d, fun _ h => absurd h List.not_mem_nil⟩⟩⟩⟩⟩⟩) (cpyX (d + 6)) (by decide +kernel)
def Kc466 : Con := ((232, [(2, 0, 0, [150]), (0, 0, 19, []), (0, iLo, iHi, [])], []), [(164, 0, 19)], [(none, [], [])])
set_option maxRecDepth 20000 in
theorem vc466 {l : Launch} {X : Nat × (Nat → Int32)} {e : Int} (d : Nat) : Vc l X U0 Pt1 e (d + 4) Kc466 := vh_lay (R := rwt1) rfl rfl rfl d
def Kc467 : Con := ((233, [(2, 0, 0, [150]), (0, 0, 19, []), (0, 0, 19, [])], []), [(164, 0, 19)], [(some (0, iLo, iHi, []), [], []), (some (0, (-2), (-2), []), [], [])])
set_option maxRecDepth 20000 in
theorem vc467 {l : Launch} {X : Nat × (Nat → Int32)} {e : Int} (d : Nat) : Vc l X U0 Pt1 e (d + 5) Kc467 :=
  ck (d := (d + 4)) (Ks := [Kc466]) (cy := 152) (cd := cdX7_stepsOf) (nl := 3) (fuel := 1000) (Hs := []) (by decide) rfl (fun na b => by rw [← ceX7_stepsOf]; exact tkX7_stepsOf) (List.forall_mem_cons.mpr ⟨vc466 d, fun _ h => absurd h List.not_mem_nil⟩) (cpyX (d + 4)) (by decide +kernel)
def Kc468 : Con := ((234, [(2, 0, 0, [150]), (0, iLo, iHi, []), (0, iLo, iHi, [])], []), [(150, 0, 0), (150, 11, 11), (150, 26, 26), (164, 0, 19)], [(some (0, (-1), (-1), []), [], []), (some (0, iLo, iHi, []), [(1, 0, 19), (2, 0, 19)], []), (some (0, (-2), (-2), []), [(1, 0, 19), (2, 0, 19)], [])])
set_option maxRecDepth 20000 in
theorem vc468 {l : Launch} {X : Nat × (Nat → Int32)} {e : Int} (d : Nat) : Vc l X U0 Pt1 e (d + 6) Kc468 :=
  ck (d := (d + 5)) (Ks := [Kc395, Kc408, Kc398, Kc467]) (cy := 152) (cd := cdX7_steps) (nl := 3) (fuel := 1000) (Hs := []) (by decide) rfl (fun na b => by rw [← ceX7_steps]; exact tkX7_steps) (List.forall_mem_cons.mpr ⟨vc395 (d + 5), List.forall_mem_cons.mpr ⟨vc408 (d + 4), List.forall_mem_cons.mpr ⟨vc398 (d + 5), List.forall_mem_cons.mpr ⟨vc467 d, fun _ h => absurd h List.not_mem_nil⟩⟩⟩⟩) (cpyX (d + 5)) (by decide +kernel)
def Kc469 : Con := ((189, [(2, 0, 0, [150]), (0, iLo, iHi, [])], []), [], [(some (0, 0, 0, []), [], []), (some (0, 1, 1, []), [(1, 0, 3)], [])])
set_option maxRecDepth 20000 in
theorem vc469 {l : Launch} {X : Nat × (Nat → Int32)} {e : Int} (d : Nat) : Vc l X U0 Pt1 e (d + 1) Kc469 :=
  ck (d := d) (Ks := [Kc412]) (cy := 152) (cd := cdX7_isWalker) (nl := 2) (fuel := 1000) (Hs := []) (by decide) rfl (fun na b => by rw [← ceX7_isWalker]; exact tkX7_isWalker) (List.forall_mem_cons.mpr ⟨vc412 d, fun _ h => absurd h List.not_mem_nil⟩) (cpyX d) (by decide +kernel)
def Kc470 : Con := ((206, [(2, 0, 0, [150]), (0, 0, 0, []), (0, 1, 1, []), (0, iLo, iHi, [])], []), [], [(some (0, 1, 1, []), [], [])])
set_option maxRecDepth 20000 in
theorem vc470 {l : Launch} {X : Nat × (Nat → Int32)} {e : Int} (d : Nat) : Vc l X U0 Pt1 e (d + 1) Kc470 :=
  ck (d := d) (Ks := [Kc435, Kc420, Kc421]) (cy := 152) (cd := cdX7_aheadWhy) (nl := 4) (fuel := 1000) (Hs := []) (by decide) rfl (fun na b => by rw [← ceX7_aheadWhy]; exact tkX7_aheadWhy) (List.forall_mem_cons.mpr ⟨vc435 d, List.forall_mem_cons.mpr ⟨vc420 d, List.forall_mem_cons.mpr ⟨vc421 d, fun _ h => absurd h List.not_mem_nil⟩⟩⟩) (cpyX d) (by decide +kernel)
def Kc471 : Con := ((235, [(2, 0, 0, [150]), (0, 0, 3, []), (0, 1, 60, [])], []), [(150, 26, 26), (160, 0, 4), (161, 0, 24), (164, 0, 19)], [(some (0, iLo, iHi, []), [], []), (some (0, (-2), (-2), []), [], [])])
set_option maxRecDepth 20000 in
theorem vc471 {l : Launch} {X : Nat × (Nat → Int32)} {e : Int} (d : Nat) : Vc l X U0 Pt1 e (d + 5) Kc471 :=
  ck (d := (d + 4)) (Ks := [Kc429, Kc466]) (cy := 152) (cd := cdX7_wayOf) (nl := 4) (fuel := 1000) (Hs := []) (by decide) rfl (fun na b => by rw [← ceX7_wayOf]; exact tkX7_wayOf) (List.forall_mem_cons.mpr ⟨vc429 (d + 2), List.forall_mem_cons.mpr ⟨vc466 d, fun _ h => absurd h List.not_mem_nil⟩⟩) (cpyX (d + 4)) (by decide +kernel)
def Kc472 : Con := ((236, [(2, 0, 0, [150]), (0, iLo, iHi, []), (0, iLo, iHi, [])], []), [(150, 0, 0), (150, 11, 11), (150, 26, 26), (160, 0, 4), (161, 0, 24), (164, 0, 19)], [(some (0, (-1), (-1), []), [], []), (some (0, 0, iHi, []), [(1, 0, 3), (2, 1, 60)], []), (some (0, (-2), (-2), []), [(1, 0, 3), (2, 1, 60)], [])])
set_option maxRecDepth 20000 in
theorem vc472 {l : Launch} {X : Nat × (Nat → Int32)} {e : Int} (d : Nat) : Vc l X U0 Pt1 e (d + 6) Kc472 :=
  ck (d := (d + 5)) (Ks := [Kc395, Kc469, Kc470, Kc398, Kc436, Kc471]) (cy := 152) (cd := cdX7_wets) (nl := 5) (fuel := 1000) (Hs := []) (by decide) rfl (fun na b => by rw [← ceX7_wets]; exact tkX7_wets) (List.forall_mem_cons.mpr ⟨vc395 (d + 5), List.forall_mem_cons.mpr ⟨vc469 (d + 4), List.forall_mem_cons.mpr ⟨vc470 (d + 4), List.forall_mem_cons.mpr ⟨vc398 (d + 5), List.forall_mem_cons.mpr ⟨vc436 (d + 4), List.forall_mem_cons.mpr ⟨vc471 d, fun _ h => absurd h List.not_mem_nil⟩⟩⟩⟩⟩⟩) (cpyX (d + 5)) (by decide +kernel)
def Kc473 : Con := ((237, [(2, 0, 0, [150]), (0, iLo, iHi, []), (0, iLo, iHi, [])], []), [(150, 0, 0), (150, 11, 11), (150, 26, 26), (160, 0, 4), (161, 0, 24), (164, 0, 19)], [(some (0, (-1), (-1), []), [], []), (some (0, 0, 999, []), [(1, 0, 3), (2, 1, 60)], []), (some (0, (-2), (-2), []), [(1, 0, 3), (2, 1, 60)], [])])
set_option maxRecDepth 20000 in
theorem vc473 {l : Launch} {X : Nat × (Nat → Int32)} {e : Int} (d : Nat) : Vc l X U0 Pt1 e (d + 6) Kc473 :=
  ck (d := (d + 5)) (Ks := [Kc395, Kc469, Kc470, Kc398, Kc436, Kc471]) (cy := 152) (cd := cdX7_way) (nl := 5) (fuel := 1000) (Hs := []) (by decide) rfl (fun na b => by rw [← ceX7_way]; exact tkX7_way) (List.forall_mem_cons.mpr ⟨vc395 (d + 5), List.forall_mem_cons.mpr ⟨vc469 (d + 4), List.forall_mem_cons.mpr ⟨vc470 (d + 4), List.forall_mem_cons.mpr ⟨vc398 (d + 5), List.forall_mem_cons.mpr ⟨vc436 (d + 4), List.forall_mem_cons.mpr ⟨vc471 d, fun _ h => absurd h List.not_mem_nil⟩⟩⟩⟩⟩⟩) (cpyX (d + 5)) (by decide +kernel)
def Kc474 : Con := ((239, [(2, 0, 0, [150]), (0, iLo, iHi, [])], []), [(150, 0, 0), (150, 11, 11), (150, 26, 26), (160, 0, 4), (161, 0, 24), (164, 0, 19)], [(some (0, (-1), (-1), []), [], []), (some (0, (-2), (-2), []), [], []), (some (0, 1, 60, []), [], [])])
set_option maxRecDepth 20000 in
theorem vc474 {l : Launch} {X : Nat × (Nat → Int32)} {e : Int} (d : Nat) : Vc l X U0 Pt1 e (d + 6) Kc474 :=
  ck (d := (d + 5)) (Ks := [Kc395, Kc469, Kc398, Kc471]) (cy := 152) (cd := cdX7_dryDay) (nl := 4) (fuel := 1000) (Hs := [((20, 0), ([(0, (2, 0, 0, [150])), (1, (0, 1, 0, [])), (2, (0, 2, 0, []))], [], [(0, 0), (0, 3), (1, 61)], []), [(0, 1, 0), (0, 2, 0)], (122, [(2, (-2))]), [])]) (by decide) rfl (fun na b => by rw [← ceX7_dryDay]; exact tkX7_dryDay) (List.forall_mem_cons.mpr ⟨vc395 (d + 5), List.forall_mem_cons.mpr ⟨vc469 (d + 4), List.forall_mem_cons.mpr ⟨vc398 (d + 5), List.forall_mem_cons.mpr ⟨vc471 d, fun _ h => absurd h List.not_mem_nil⟩⟩⟩⟩) (cpyX (d + 5)) (by decide +kernel)
def Kc475 : Con := ((240, [(2, 0, 0, [150])], []), [(164, 0, 19)], [(some (0, iLo, iHi, []), [], [])])
set_option maxRecDepth 20000 in
theorem vc475 {l : Launch} {X : Nat × (Nat → Int32)} {e : Int} (d : Nat) : Vc l X U0 Pt1 e (d + 6) Kc475 :=
  ck (d := (d + 5)) (Ks := [Kc467]) (cy := 152) (cd := cdX7_allSteps) (nl := 4) (fuel := 1000) (Hs := [((4, 0), ([(0, (2, 0, 0, [150])), (1, (0, 1, 0, [])), (2, (0, 2, 0, []))], [], [(0, 0), (iLo, iHi), (0, 4)], []), [(0, 1, 0), (0, 2, 0)], (8, [(2, (-2))]), [])]) (by decide) rfl (fun na b => by rw [← ceX7_allSteps]; exact tkX7_allSteps) (List.forall_mem_cons.mpr ⟨vc467 d, fun _ h => absurd h List.not_mem_nil⟩) (cpyX (d + 5)) (by decide +kernel)
def Kc476 : Con := ((241, [(2, 0, 0, [150])], []), [(150, 0, 0), (150, 11, 11), (150, 26, 26), (164, 0, 19)], [(some (0, (-2), 19, []), [], [])])
set_option maxRecDepth 20000 in
theorem vc476 {l : Launch} {X : Nat × (Nat → Int32)} {e : Int} (d : Nat) : Vc l X U0 Pt1 e (d + 7) Kc476 :=
  ck (d := (d + 6)) (Ks := [Kc395, Kc406, Kc413, Kc475]) (cy := 152) (cd := cdX7_gate) (nl := 5) (fuel := 1000) (Hs := [((26, 0), ([(0, (2, 0, 0, [150])), (1, (0, 1, 0, [])), (2, (0, 2, 0, [])), (3, (0, 3, 0, []))], [], [(0, 0), ((-2), 19), (iLo, 100000000), (0, 20)], []), [(0, 1, 0), (0, 2, 0), (0, 3, 0)], (40, [(3, (-2))]), [])]) (by decide) rfl (fun na b => by rw [← ceX7_gate]; exact tkX7_gate) (List.forall_mem_cons.mpr ⟨vc395 (d + 6), List.forall_mem_cons.mpr ⟨vc406 (d + 6), List.forall_mem_cons.mpr ⟨vc413 (d + 6), List.forall_mem_cons.mpr ⟨vc475 d, fun _ h => absurd h List.not_mem_nil⟩⟩⟩⟩) (cpyX (d + 6)) (by decide +kernel)
def Kc477 : Con := ((242, [(2, 0, 0, [150]), (0, iLo, iHi, [])], []), [(160, 0, 4), (161, 0, 24), (165, 0, 5)], [(some (0, (-2), (-2), []), [], []), (some (0, 0, 5, []), [], [])])
set_option maxRecDepth 20000 in
theorem vc477 {l : Launch} {X : Nat × (Nat → Int32)} {e : Int} (d : Nat) : Vc l X U0 Pt1 e (d + 2) Kc477 :=
  ck (d := (d + 1)) (Ks := [Kc426, Kc428]) (cy := 152) (cd := cdX7_wrongBy) (nl := 4) (fuel := 1000) (Hs := [((22, 0), ([(0, (2, 0, 0, [150])), (2, (0, 1, 0, []))], [], [(0, 0), (0, 6)], []), [(0, 2, 0)], (1708, [(1, (-5))]), []), ((43, 0), ([(0, (2, 0, 0, [150])), (2, (0, 1, 0, []))], [], [(0, 0), (1, 41)], []), [(0, 2, 0)], (1712, [(1, (-40))]), []), ((60, 0), ([(0, (2, 0, 0, [150])), (2, (0, 1, 0, [])), (3, (0, 2, 0, []))], [], [(0, 0), (1, 40), (0, 6)], []), [(0, 2, 0), (0, 3, 0)], (1706, [(1, (-40)), (2, (-5))]), []), ((112, 0), ([(0, (2, 0, 0, [150])), (2, (0, 1, 0, []))], [], [(0, 0), (0, 6)], []), [(0, 2, 0)], (30, [(1, (-5))]), [])]) (by decide) rfl (fun na b => by rw [← ceX7_wrongBy]; exact tkX7_wrongBy) (List.forall_mem_cons.mpr ⟨vc426 d, List.forall_mem_cons.mpr ⟨vc428 d, fun _ h => absurd h List.not_mem_nil⟩⟩) (cpyX (d + 1)) (by decide +kernel)
def Kc478 : Con := ((243, [(2, 0, 0, [150]), (0, iLo, iHi, [])], []), [(150, 36, 38), (160, 0, 4), (161, 0, 24), (165, 0, 5), (166, 0, 3)], [(some (0, (-1), 15, []), [], [])])
set_option maxRecDepth 20000 in
theorem vc478 {l : Launch} {X : Nat × (Nat → Int32)} {e : Int} (d : Nat) : Vc l X U0 Pt1 e (d + 3) Kc478 :=
  ck (d := (d + 2)) (Ks := [Kc477]) (cy := 152) (cd := cdX7_seekSets) (nl := 5) (fuel := 1000) (Hs := [((29, 0), ([(0, (2, 0, 0, [150])), (1, (0, 1, 0, [])), (2, (0, 0, (-1), [])), (3, (0, 2, 0, []))], [], [(0, 0), (iLo, iHi), (0, 4), (0, 15)], [(150, 36, (0, 0, 0, [])), (150, 37, (0, 0, 0, [])), (150, 38, (0, 3, 0, []))]), [(0, 1, 0), (0, 3, 0), (2, 150, 38)], (426, [(2, (-4))]), []), ((49, 0), ([(0, (2, 0, 0, [150])), (1, (0, 1, 0, [])), (2, (0, 2, 0, [])), (3, (0, 3, 0, []))], [], [(0, 0), (iLo, iHi), ((-1), 15), (0, 16), (iLo, iHi), (iLo, iHi), (0, 15)], [(150, 36, (0, 4, 0, [])), (150, 37, (0, 5, 0, [])), (150, 38, (0, 6, 0, []))]), [(0, 1, 0), (0, 2, 0), (0, 3, 0), (2, 150, 36), (2, 150, 37), (2, 150, 38)], (405, [(3, (-24))]), []), ((118, 0), ([(0, (2, 0, 0, [150])), (1, (0, 1, 0, [])), (2, (0, 2, 0, [])), (3, (0, 3, 0, [])), (4, (0, 4, 0, []))], [], [(0, 0), (iLo, iHi), ((-1), 15), (0, 15), (0, 4), (iLo, iHi), (iLo, iHi), (0, 15)], [(150, 36, (0, 5, 0, [])), (150, 37, (0, 6, 0, [])), (150, 38, (0, 7, 0, []))]), [(0, 1, 0), (0, 2, 0), (0, 3, 0), (0, 4, 0), (2, 150, 36), (2, 150, 37), (2, 150, 38)], (400, [(3, (-24)), (4, (-4))]), [])]) (by decide) rfl (fun na b => by rw [← ceX7_seekSets]; exact tkX7_seekSets) (List.forall_mem_cons.mpr ⟨vc477 d, fun _ h => absurd h List.not_mem_nil⟩) (cpyX (d + 2)) (by decide +kernel)
def Kc479 : Con := ((244, [(2, 0, 0, [150])], []), [(150, 0, 0), (150, 11, 11), (150, 36, 38), (160, 0, 4), (161, 0, 24), (165, 0, 5), (166, 0, 3)], [(some (0, iLo, iHi, []), [], [])])
set_option maxRecDepth 20000 in
theorem vc479 {l : Launch} {X : Nat × (Nat → Int32)} {e : Int} (d : Nat) : Vc l X U0 Pt1 e (d + 4) Kc479 :=
  ck (d := (d + 3)) (Ks := [Kc395, Kc478]) (cy := 152) (cd := cdX7_fits) (nl := 1) (fuel := 1000) (Hs := []) (by decide) rfl (fun na b => by rw [← ceX7_fits]; exact tkX7_fits) (List.forall_mem_cons.mpr ⟨vc395 (d + 3), List.forall_mem_cons.mpr ⟨vc478 d, fun _ h => absurd h List.not_mem_nil⟩⟩) (cpyX (d + 3)) (by decide +kernel)
def Kc480 : Con := ((245, [(2, 0, 0, [150]), (0, iLo, iHi, [])], []), [(150, 0, 0), (150, 11, 11), (150, 36, 38), (160, 0, 4), (161, 0, 24), (165, 0, 5), (166, 0, 3)], [(some (0, 0, 15, []), [(1, 0, iHi)], []), (some (0, (-1), (-1), []), [], [])])
set_option maxRecDepth 20000 in
theorem vc480 {l : Launch} {X : Nat × (Nat → Int32)} {e : Int} (d : Nat) : Vc l X U0 Pt1 e (d + 4) Kc480 :=
  ck (d := (d + 3)) (Ks := [Kc395, Kc478, Kc398]) (cy := 152) (cd := cdX7_fitAt) (nl := 3) (fuel := 1000) (Hs := []) (by decide) rfl (fun na b => by rw [← ceX7_fitAt]; exact tkX7_fitAt) (List.forall_mem_cons.mpr ⟨vc395 (d + 3), List.forall_mem_cons.mpr ⟨vc478 d, List.forall_mem_cons.mpr ⟨vc398 (d + 3), fun _ h => absurd h List.not_mem_nil⟩⟩⟩) (cpyX (d + 3)) (by decide +kernel)
def Kc481 : Con := ((246, [(2, 0, 0, [150])], []), [(150, 0, 0), (150, 11, 11), (150, 36, 38), (160, 0, 4), (161, 0, 24), (165, 0, 5), (166, 0, 3)], [(some (0, iLo, iHi, []), [], [])])
set_option maxRecDepth 20000 in
theorem vc481 {l : Launch} {X : Nat × (Nat → Int32)} {e : Int} (d : Nat) : Vc l X U0 Pt1 e (d + 4) Kc481 :=
  ck (d := (d + 3)) (Ks := [Kc395, Kc478]) (cy := 152) (cd := cdX7_could) (nl := 1) (fuel := 1000) (Hs := []) (by decide) rfl (fun na b => by rw [← ceX7_could]; exact tkX7_could) (List.forall_mem_cons.mpr ⟨vc395 (d + 3), List.forall_mem_cons.mpr ⟨vc478 d, fun _ h => absurd h List.not_mem_nil⟩⟩) (cpyX (d + 3)) (by decide +kernel)
def Kc482 : Con := ((247, [(2, 0, 0, [150])], []), [(150, 0, 0), (150, 11, 11), (150, 36, 38), (160, 0, 4), (161, 0, 24), (165, 0, 5), (166, 0, 3)], [(some (0, iLo, iHi, []), [], [])])
set_option maxRecDepth 20000 in
theorem vc482 {l : Launch} {X : Nat × (Nat → Int32)} {e : Int} (d : Nat) : Vc l X U0 Pt1 e (d + 4) Kc482 :=
  ck (d := (d + 3)) (Ks := [Kc395, Kc478]) (cy := 152) (cd := cdX7_surely) (nl := 1) (fuel := 1000) (Hs := []) (by decide) rfl (fun na b => by rw [← ceX7_surely]; exact tkX7_surely) (List.forall_mem_cons.mpr ⟨vc395 (d + 3), List.forall_mem_cons.mpr ⟨vc478 d, fun _ h => absurd h List.not_mem_nil⟩⟩) (cpyX (d + 3)) (by decide +kernel)
def Kc483 : Con := ((248, [(2, 0, 0, [150]), (0, 0, 3, [])], []), [], [(some (0, iLo, iHi, []), [], [])])
set_option maxRecDepth 20000 in
theorem vc483 {l : Launch} {X : Nat × (Nat → Int32)} {e : Int} (d : Nat) : Vc l X U0 Pt1 e d Kc483 :=
  ck (d := d) (Ks := []) (cy := 152) (cd := cdX7_leavesOf) (nl := 2) (fuel := 1000) (Hs := []) (by decide) rfl (fun na b => by rw [← ceX7_leavesOf]; exact tkX7_leavesOf) (fun _ h => absurd h List.not_mem_nil) (cpyX d) (by decide +kernel)
def Kc484 : Con := ((249, [(2, 0, 0, [150])], []), [(150, 36, 38), (160, 0, 4), (161, 0, 24), (165, 0, 5), (166, 0, 3)], [(some (0, (-2), 3, []), [], [])])
set_option maxRecDepth 20000 in
theorem vc484 {l : Launch} {X : Nat × (Nat → Int32)} {e : Int} (d : Nat) : Vc l X U0 Pt1 e (d + 4) Kc484 :=
  ck (d := (d + 3)) (Ks := [Kc478, Kc483]) (cy := 152) (cd := cdX7_askOf) (nl := 3) (fuel := 1000) (Hs := [((11, 0), ([(0, (2, 0, 0, [150])), (1, (0, 1, 0, [])), (2, (0, 2, 0, []))], [], [(0, 0), ((-2), 3), (0, 4)], []), [(0, 1, 0), (0, 2, 0)], (8, [(2, (-2))]), [])]) (by decide) rfl (fun na b => by rw [← ceX7_askOf]; exact tkX7_askOf) (List.forall_mem_cons.mpr ⟨vc478 d, List.forall_mem_cons.mpr ⟨vc483 (d + 3), fun _ h => absurd h List.not_mem_nil⟩⟩) (cpyX (d + 3)) (by decide +kernel)
def Kc485 : Con := ((250, [(2, 0, 0, [150])], []), [(150, 0, 0), (150, 11, 11), (150, 36, 38), (160, 0, 4), (161, 0, 24), (165, 0, 5), (166, 0, 3)], [(some (0, (-2), 3, []), [], [])])
set_option maxRecDepth 20000 in
theorem vc485 {l : Launch} {X : Nat × (Nat → Int32)} {e : Int} (d : Nat) : Vc l X U0 Pt1 e (d + 5) Kc485 :=
  ck (d := (d + 4)) (Ks := [Kc395, Kc484]) (cy := 152) (cd := cdX7_ask) (nl := 1) (fuel := 1000) (Hs := []) (by decide) rfl (fun na b => by rw [← ceX7_ask]; exact tkX7_ask) (List.forall_mem_cons.mpr ⟨vc395 (d + 4), List.forall_mem_cons.mpr ⟨vc484 d, fun _ h => absurd h List.not_mem_nil⟩⟩) (cpyX (d + 4)) (by decide +kernel)
def Kc486 : Con := ((251, [(2, 0, 0, [150])], []), [(150, 0, 0), (150, 11, 11), (150, 36, 38), (160, 0, 4), (161, 0, 24), (165, 0, 5), (166, 0, 3)], [(some (0, iLo, iHi, []), [], []), (some (0, (-2), (-2), []), [], [])])
set_option maxRecDepth 20000 in
theorem vc486 {l : Launch} {X : Nat × (Nat → Int32)} {e : Int} (d : Nat) : Vc l X U0 Pt1 e (d + 5) Kc486 :=
  ck (d := (d + 4)) (Ks := [Kc395, Kc484, Kc483]) (cy := 152) (cd := cdX7_askLeaves) (nl := 2) (fuel := 1000) (Hs := []) (by decide) rfl (fun na b => by rw [← ceX7_askLeaves]; exact tkX7_askLeaves) (List.forall_mem_cons.mpr ⟨vc395 (d + 4), List.forall_mem_cons.mpr ⟨vc484 d, List.forall_mem_cons.mpr ⟨vc483 (d + 4), fun _ h => absurd h List.not_mem_nil⟩⟩⟩) (cpyX (d + 4)) (by decide +kernel)
def Kc487 : Con := ((252, [(2, 0, 0, [150])], []), [(150, 0, 0), (150, 11, 11), (160, 0, 4), (161, 0, 24), (165, 0, 5)], [(some (0, (-2), (-2), []), [], []), (some (0, 0, 5, []), [], [])])
set_option maxRecDepth 20000 in
theorem vc487 {l : Launch} {X : Nat × (Nat → Int32)} {e : Int} (d : Nat) : Vc l X U0 Pt1 e (d + 3) Kc487 :=
  ck (d := (d + 2)) (Ks := [Kc395, Kc477]) (cy := 152) (cd := cdX7_judge) (nl := 1) (fuel := 1000) (Hs := []) (by decide) rfl (fun na b => by rw [← ceX7_judge]; exact tkX7_judge) (List.forall_mem_cons.mpr ⟨vc395 (d + 2), List.forall_mem_cons.mpr ⟨vc477 d, fun _ h => absurd h List.not_mem_nil⟩⟩) (cpyX (d + 2)) (by decide +kernel)
def Kc488 : Con := ((149, [(0, iLo, iHi, []), (0, 0, 0, []), (0, 9, 9, [])], []), [], [(some (0, 0, 0, []), [], []), (some (0, 1, 1, []), [(0, 0, 9)], [])])
set_option maxRecDepth 20000 in
theorem vc488 {l : Launch} {X : Nat × (Nat → Int32)} {e : Int} (d : Nat) : Vc l X U0 Pt1 e d Kc488 :=
  ck (d := d) (Ks := []) (cy := 152) (cd := cdX7_in) (nl := 3) (fuel := 1000) (Hs := []) (by decide) rfl (fun na b => by rw [← ceX7_in]; exact tkX7_in) (fun _ h => absurd h List.not_mem_nil) (cpyX d) (by decide +kernel)
def Kc489 : Con := ((253, [(0, iLo, iHi, []), (0, iLo, iHi, []), (0, iLo, iHi, [])], []), [], [(some (0, iLo, iHi, []), [], [])])
set_option maxRecDepth 20000 in
theorem vc489 {l : Launch} {X : Nat × (Nat → Int32)} {e : Int} (d : Nat) : Vc l X U0 Pt1 e d Kc489 :=
  ck (d := d) (Ks := []) (cy := 152) (cd := cdX7_canonHas) (nl := 3) (fuel := 1000) (Hs := []) (by decide) rfl (fun na b => by rw [← ceX7_canonHas]; exact tkX7_canonHas) (fun _ h => absurd h List.not_mem_nil) (cpyX d) (by decide +kernel)
def Kc490 : Con := ((254, [(0, iLo, iHi, []), (0, iLo, iHi, [])], []), [], [(some (0, 0, 3, []), [], [])])
set_option maxRecDepth 20000 in
theorem vc490 {l : Launch} {X : Nat × (Nat → Int32)} {e : Int} (d : Nat) : Vc l X U0 Pt1 e d Kc490 :=
  ck (d := d) (Ks := []) (cy := 152) (cd := cdX7_breadHas) (nl := 2) (fuel := 1000) (Hs := []) (by decide) rfl (fun na b => by rw [← ceX7_breadHas]; exact tkX7_breadHas) (fun _ h => absurd h List.not_mem_nil) (cpyX d) (by decide +kernel)
def Kc491 : Con := ((255, [(2, 0, 0, [150]), (0, iLo, iHi, []), (0, iLo, iHi, []), (0, iLo, iHi, []), (0, iLo, iHi, [])], []), [(150, 0, 0), (150, 11, 11)], [(some (0, (-100), (-100), []), [], []), (some (0, iLo, iHi, []), [(1, 0, 9)], [])])
set_option maxRecDepth 20000 in
theorem vc491 {l : Launch} {X : Nat × (Nat → Int32)} {e : Int} (d : Nat) : Vc l X U0 Pt1 e (d + 1) Kc491 :=
  ck (d := d) (Ks := [Kc395, Kc488, Kc423, Kc424, Kc489, Kc490]) (cy := 152) (cd := cdX7_sulks) (nl := 6) (fuel := 1000) (Hs := []) (by decide) rfl (fun na b => by rw [← ceX7_sulks]; exact tkX7_sulks) (List.forall_mem_cons.mpr ⟨vc395 d, List.forall_mem_cons.mpr ⟨vc488 d, List.forall_mem_cons.mpr ⟨vc423 d, List.forall_mem_cons.mpr ⟨vc424 d, List.forall_mem_cons.mpr ⟨vc489 d, List.forall_mem_cons.mpr ⟨vc490 d, fun _ h => absurd h List.not_mem_nil⟩⟩⟩⟩⟩⟩) (cpyX d) (by decide +kernel)
def Kc492 : Con := ((256, [(2, 0, 0, [150]), (0, iLo, iHi, [])], []), [(150, 39, 39)], [(some (0, iLo, iHi, []), [], [])])
set_option maxRecDepth 20000 in
theorem vc492 {l : Launch} {X : Nat × (Nat → Int32)} {e : Int} (d : Nat) : Vc l X U0 Pt1 e (d + 1) Kc492 :=
  ck (d := d) (Ks := [Kc489, Kc490]) (cy := 152) (cd := cdX7_seekRests) (nl := 6) (fuel := 1000) (Hs := [((10, 0), ([(0, (2, 0, 0, [150])), (1, (0, 1, 0, [])), (2, (0, 2, 0, [])), (3, (0, 3, 0, []))], [], [(0, 0), (iLo, iHi), (iLo, iHi), (0, 4), ((-2), 31)], [(150, 39, (0, 4, 0, []))]), [(0, 1, 0), (0, 2, 0), (0, 3, 0), (2, 150, 39)], (8, [(3, (-2))]), [])]) (by decide) rfl (fun na b => by rw [← ceX7_seekRests]; exact tkX7_seekRests) (List.forall_mem_cons.mpr ⟨vc489 d, List.forall_mem_cons.mpr ⟨vc490 d, fun _ h => absurd h List.not_mem_nil⟩⟩) (cpyX d) (by decide +kernel)
def Kc493 : Con := ((257, [(2, 0, 0, [150]), (0, iLo, iHi, [])], []), [(150, 0, 0), (150, 11, 11), (150, 39, 39)], [(some (0, (-1), (-1), []), [], []), (some (0, iLo, iHi, []), [(1, 0, 9)], [])])
set_option maxRecDepth 20000 in
theorem vc493 {l : Launch} {X : Nat × (Nat → Int32)} {e : Int} (d : Nat) : Vc l X U0 Pt1 e (d + 2) Kc493 :=
  ck (d := (d + 1)) (Ks := [Kc395, Kc488, Kc423, Kc398, Kc424, Kc492]) (cy := 152) (cd := cdX7_rests) (nl := 3) (fuel := 1000) (Hs := []) (by decide) rfl (fun na b => by rw [← ceX7_rests]; exact tkX7_rests) (List.forall_mem_cons.mpr ⟨vc395 (d + 1), List.forall_mem_cons.mpr ⟨vc488 (d + 1), List.forall_mem_cons.mpr ⟨vc423 (d + 1), List.forall_mem_cons.mpr ⟨vc398 (d + 1), List.forall_mem_cons.mpr ⟨vc424 (d + 1), List.forall_mem_cons.mpr ⟨vc492 d, fun _ h => absurd h List.not_mem_nil⟩⟩⟩⟩⟩⟩) (cpyX (d + 1)) (by decide +kernel)
def Kc494 : Con := ((258, [(2, 0, 0, [150]), (0, iLo, iHi, [])], []), [(150, 0, 0), (150, 11, 11), (150, 39, 39)], [(some (0, (-1), (-1), []), [], []), (some (0, iLo, iHi, []), [(1, 0, 9)], [])])
set_option maxRecDepth 20000 in
theorem vc494 {l : Launch} {X : Nat × (Nat → Int32)} {e : Int} (d : Nat) : Vc l X U0 Pt1 e (d + 2) Kc494 :=
  ck (d := (d + 1)) (Ks := [Kc395, Kc488, Kc423, Kc398, Kc424, Kc492]) (cy := 152) (cd := cdX7_rest) (nl := 3) (fuel := 1000) (Hs := []) (by decide) rfl (fun na b => by rw [← ceX7_rest]; exact tkX7_rest) (List.forall_mem_cons.mpr ⟨vc395 (d + 1), List.forall_mem_cons.mpr ⟨vc488 (d + 1), List.forall_mem_cons.mpr ⟨vc423 (d + 1), List.forall_mem_cons.mpr ⟨vc398 (d + 1), List.forall_mem_cons.mpr ⟨vc424 (d + 1), List.forall_mem_cons.mpr ⟨vc492 d, fun _ h => absurd h List.not_mem_nil⟩⟩⟩⟩⟩⟩) (cpyX (d + 1)) (by decide +kernel)
def Kc495 : Con := ((149, [(0, iLo, iHi, []), (0, 0, 0, []), (0, 7, 7, [])], []), [], [(some (0, 0, 0, []), [], []), (some (0, 1, 1, []), [(0, 0, 7)], [])])
set_option maxRecDepth 20000 in
theorem vc495 {l : Launch} {X : Nat × (Nat → Int32)} {e : Int} (d : Nat) : Vc l X U0 Pt1 e d Kc495 :=
  ck (d := d) (Ks := []) (cy := 152) (cd := cdX7_in) (nl := 3) (fuel := 1000) (Hs := []) (by decide) rfl (fun na b => by rw [← ceX7_in]; exact tkX7_in) (fun _ h => absurd h List.not_mem_nil) (cpyX d) (by decide +kernel)
def Kc496 : Con := ((259, [(2, 0, 0, [150]), (0, 0, 5, []), (0, 0, 7, [])], []), [(150, 40, 42), (160, 0, 4), (161, 0, 24)], [(none, [], [(150, 40, (1, 1, lHi, []))])])
set_option maxRecDepth 20000 in
theorem vc496 {l : Launch} {X : Nat × (Nat → Int32)} {e : Int} (d : Nat) : Vc l X U0 Pt1 e (d + 6) Kc496 := vh_tryCalms (R := rwt1) rfl d ⟨fun M kr hI he h => vc429 (d + 3) [.ref 150, .int 0] M kr hI he ⟨⟨rfl, List.mem_singleton.mpr rfl⟩, ⟨rfl, by decide, by decide⟩, trivial⟩ (fun f hf => absurd hf List.not_mem_nil) (fun r M' hJ hp => by
  rw [r_none (by decide) hp]
  exact h M' (Jv_tr (Jv.rf hI he) hJ (by decide))), fun b M kr hb hI he h => vc428 (d + 4) [.ref 150, .ref 161, .int b] M kr hI he ⟨⟨rfl, List.mem_singleton.mpr rfl⟩, ⟨rfl, List.mem_singleton.mpr rfl⟩, ⟨rfl, i32_lo _, i32_hi _⟩, trivial⟩ (fun f hf => absurd hf List.not_mem_nil) (fun r M' hJ hp => by
  rw [r_none (by decide) hp]
  exact h M' (Jv_tr (Jv.rf hI he) hJ (by decide)))⟩
def Kc497 : Con := ((153, [(1, lLo, lHi, []), (1, 1, lHi, []), (0, iLo, iHi, [])], []), [], [(some (1, lLo, lHi, []), [], [])])
set_option maxRecDepth 20000 in
theorem vc497 {l : Launch} {X : Nat × (Nat → Int32)} {e : Int} (d : Nat) : Vc l X U0 Pt1 e (d + 0) Kc497 := vh_lowI d
def Kc498 : Con := ((260, [(2, 0, 0, [150]), (0, iLo, iHi, []), (0, iLo, iHi, []), (0, iLo, iHi, [])], []), [(150, 0, 0), (150, 11, 11), (150, 40, 42), (160, 0, 4), (161, 0, 24)], [(some (1, lLo, lHi, []), [], [])])
set_option maxRecDepth 20000 in
theorem vc498 {l : Launch} {X : Nat × (Nat → Int32)} {e : Int} (d : Nat) : Vc l X U0 Pt1 e (d + 7) Kc498 :=
  ck (d := (d + 6)) (Ks := [Kc395, Kc397, Kc495, Kc420, Kc398, Kc421, Kc423, Kc424, Kc496, Kc497]) (cy := 152) (cd := cdX7_odds) (nl := 5) (fuel := 1000) (Hs := []) (by decide) rfl (fun na b => by rw [← ceX7_odds]; exact tkX7_odds) (List.forall_mem_cons.mpr ⟨vc395 (d + 6), List.forall_mem_cons.mpr ⟨vc397 (d + 5), List.forall_mem_cons.mpr ⟨vc495 (d + 6), List.forall_mem_cons.mpr ⟨vc420 (d + 6), List.forall_mem_cons.mpr ⟨vc398 (d + 6), List.forall_mem_cons.mpr ⟨vc421 (d + 6), List.forall_mem_cons.mpr ⟨vc423 (d + 6), List.forall_mem_cons.mpr ⟨vc424 (d + 6), List.forall_mem_cons.mpr ⟨vc496 d, List.forall_mem_cons.mpr ⟨vc497 (d + 6), fun _ h => absurd h List.not_mem_nil⟩⟩⟩⟩⟩⟩⟩⟩⟩⟩) (cpyX (d + 6)) (by decide +kernel)
def Kc499 : Con := ((261, [(2, 0, 0, [150]), (0, iLo, iHi, []), (0, iLo, iHi, []), (0, iLo, iHi, [])], []), [(150, 0, 0), (150, 11, 11), (150, 40, 42), (160, 0, 4), (161, 0, 24)], [(some (1, lLo, lHi, []), [], [])])
set_option maxRecDepth 20000 in
theorem vc499 {l : Launch} {X : Nat × (Nat → Int32)} {e : Int} (d : Nat) : Vc l X U0 Pt1 e (d + 7) Kc499 :=
  ck (d := (d + 6)) (Ks := [Kc395, Kc397, Kc495, Kc420, Kc398, Kc421, Kc423, Kc424, Kc496, Kc497]) (cy := 152) (cd := cdX7_mean) (nl := 5) (fuel := 1000) (Hs := []) (by decide) rfl (fun na b => by rw [← ceX7_mean]; exact tkX7_mean) (List.forall_mem_cons.mpr ⟨vc395 (d + 6), List.forall_mem_cons.mpr ⟨vc397 (d + 5), List.forall_mem_cons.mpr ⟨vc495 (d + 6), List.forall_mem_cons.mpr ⟨vc420 (d + 6), List.forall_mem_cons.mpr ⟨vc398 (d + 6), List.forall_mem_cons.mpr ⟨vc421 (d + 6), List.forall_mem_cons.mpr ⟨vc423 (d + 6), List.forall_mem_cons.mpr ⟨vc424 (d + 6), List.forall_mem_cons.mpr ⟨vc496 d, List.forall_mem_cons.mpr ⟨vc497 (d + 6), fun _ h => absurd h List.not_mem_nil⟩⟩⟩⟩⟩⟩⟩⟩⟩⟩) (cpyX (d + 6)) (by decide +kernel)
def Kc500 : Con := ((149, [(0, iLo, iHi, []), (0, 0, 0, []), (0, 65536, 65536, [])], []), [], [(some (0, 0, 0, []), [], []), (some (0, 1, 1, []), [(0, 0, 65536)], [])])
set_option maxRecDepth 20000 in
theorem vc500 {l : Launch} {X : Nat × (Nat → Int32)} {e : Int} (d : Nat) : Vc l X U0 Pt1 e d Kc500 :=
  ck (d := d) (Ks := []) (cy := 152) (cd := cdX7_in) (nl := 3) (fuel := 1000) (Hs := []) (by decide) rfl (fun na b => by rw [← ceX7_in]; exact tkX7_in) (fun _ h => absurd h List.not_mem_nil) (cpyX d) (by decide +kernel)
def Kc501 : Con := ((262, [(2, 0, 0, [150]), (0, 0, 0, []), (0, iLo, iHi, []), (0, iLo, iHi, [])], []), [], [(some (0, 1, 1, []), [], [])])
set_option maxRecDepth 20000 in
theorem vc501 {l : Launch} {X : Nat × (Nat → Int32)} {e : Int} (d : Nat) : Vc l X U0 Pt1 e (d + 1) Kc501 :=
  ck (d := d) (Ks := [Kc500, Kc420, Kc419, Kc421]) (cy := 152) (cd := cdX7_drawWhy) (nl := 7) (fuel := 1000) (Hs := []) (by decide) rfl (fun na b => by rw [← ceX7_drawWhy]; exact tkX7_drawWhy) (List.forall_mem_cons.mpr ⟨vc500 d, List.forall_mem_cons.mpr ⟨vc420 d, List.forall_mem_cons.mpr ⟨vc419 d, List.forall_mem_cons.mpr ⟨vc421 d, fun _ h => absurd h List.not_mem_nil⟩⟩⟩⟩) (cpyX d) (by decide +kernel)
def Kc502 : Con := ((262, [(2, 0, 0, [150]), (0, 1, 1, []), (0, iLo, iHi, []), (0, iLo, iHi, [])], []), [(150, 43, 43), (160, 0, 4), (161, 0, 24)], [(some (0, 2, 2, []), [], []), (some (0, 0, 0, []), [(2, 0, 65536), (3, 0, 60)], [])])
set_option maxRecDepth 20000 in
theorem vc502 {l : Launch} {X : Nat × (Nat → Int32)} {e : Int} (d : Nat) : Vc l X U0 Pt1 e (d + 3) Kc502 :=
  ck (d := (d + 2)) (Ks := [Kc500, Kc423, Kc419, Kc424, Kc429, Kc428]) (cy := 152) (cd := cdX7_drawWhy) (nl := 7) (fuel := 1000) (Hs := [((58, 0), ([(0, (2, 0, 0, [150])), (3, (0, 1, 0, [])), (5, (0, 2, 0, [])), (6, (0, 3, 0, [])), (1000, (2, 0, 0, [150])), (1001, (0, 4, 0, [])), (1002, (0, 5, 0, [])), (1003, (0, 1, 0, []))], [], [(0, 0), (0, 60), (0, 65536), (1, 61), (1, 1), (0, 65536), ((-2), 60)], [(150, 43, (0, 6, 0, []))]), [(0, 3, 0), (0, 5, 0), (0, 6, 0), (0, 1001, 0), (0, 1002, 0), (2, 150, 43)], (122, [(3, (-2))]), [])]) (by decide) rfl (fun na b => by rw [← ceX7_drawWhy]; exact tkX7_drawWhy) (List.forall_mem_cons.mpr ⟨vc500 (d + 2), List.forall_mem_cons.mpr ⟨vc423 (d + 2), List.forall_mem_cons.mpr ⟨vc419 (d + 2), List.forall_mem_cons.mpr ⟨vc424 (d + 2), List.forall_mem_cons.mpr ⟨vc429 d, List.forall_mem_cons.mpr ⟨vc428 (d + 1), fun _ h => absurd h List.not_mem_nil⟩⟩⟩⟩⟩⟩) (cpyX (d + 2)) (by decide +kernel)
def Kc503 : Con := ((263, [(2, 0, 0, [150]), (0, iLo, iHi, []), (0, iLo, iHi, []), (0, iLo, iHi, [])], []), [(150, 0, 0), (150, 11, 11), (150, 43, 43), (160, 0, 4), (161, 0, 24)], [(some (0, (-1), (-1), []), [], []), (some (0, iLo, iHi, []), [(1, 0, 5), (2, 0, 65536), (3, 0, 60)], [])])
set_option maxRecDepth 20000 in
theorem vc503 {l : Launch} {X : Nat × (Nat → Int32)} {e : Int} (d : Nat) : Vc l X U0 Pt1 e (d + 4) Kc503 :=
  ck (d := (d + 3)) (Ks := [Kc395, Kc397, Kc501, Kc398, Kc502]) (cy := 152) (cd := cdX7_borne) (nl := 5) (fuel := 1000) (Hs := []) (by decide) rfl (fun na b => by rw [← ceX7_borne]; exact tkX7_borne) (List.forall_mem_cons.mpr ⟨vc395 (d + 3), List.forall_mem_cons.mpr ⟨vc397 (d + 2), List.forall_mem_cons.mpr ⟨vc501 (d + 2), List.forall_mem_cons.mpr ⟨vc398 (d + 3), List.forall_mem_cons.mpr ⟨vc502 d, fun _ h => absurd h List.not_mem_nil⟩⟩⟩⟩⟩) (cpyX (d + 3)) (by decide +kernel)
def Kc504 : Con := ((264, [(2, 0, 0, [150]), (0, iLo, iHi, []), (0, iLo, iHi, [])], []), [(150, 0, 0), (150, 11, 11), (150, 43, 43), (160, 0, 4), (161, 0, 24)], [(some (0, (-1), (-1), []), [], []), (some (0, iLo, iHi, []), [(1, 0, 65536), (2, 0, 60)], [])])
set_option maxRecDepth 20000 in
theorem vc504 {l : Launch} {X : Nat × (Nat → Int32)} {e : Int} (d : Nat) : Vc l X U0 Pt1 e (d + 4) Kc504 :=
  ck (d := (d + 3)) (Ks := [Kc395, Kc502, Kc398]) (cy := 152) (cd := cdX7_firstWet) (nl := 4) (fuel := 1000) (Hs := []) (by decide) rfl (fun na b => by rw [← ceX7_firstWet]; exact tkX7_firstWet) (List.forall_mem_cons.mpr ⟨vc395 (d + 3), List.forall_mem_cons.mpr ⟨vc502 d, List.forall_mem_cons.mpr ⟨vc398 (d + 3), fun _ h => absurd h List.not_mem_nil⟩⟩⟩) (cpyX (d + 3)) (by decide +kernel)
def Kc505 : Con := ((265, [(2, 0, 0, [150])], []), [(150, 22, 22), (158, 0, 399)], [(none, [], [])])
set_option maxRecDepth 20000 in
theorem vc505 {l : Launch} {X : Nat × (Nat → Int32)} {e : Int} (d : Nat) : Vc l X U0 Pt1 e (d + 1) Kc505 :=
  ck (d := d) (Ks := []) (cy := 152) (cd := cdX7_note) (nl := 2) (fuel := 1000) (Hs := [((49, 1), ([(0, (2, 0, 0, [150]))], [], [(0, 0), (0, 15)], [(150, 22, (0, 1, 0, []))]), [(2, 150, 22)], (0, []), []), ((11, 1), ([(0, (2, 0, 0, [150])), (1, (0, 1, 0, []))], [], [(0, 0), (0, 375), (16, 16)], [(150, 22, (0, 2, 0, []))]), [(0, 1, 0), (2, 150, 22)], (1126, [(1, (-3))]), [])]) (by decide) rfl (fun na b => by rw [← ceX7_note]; exact tkX7_note) (fun _ h => absurd h List.not_mem_nil) (cpyX d) (by decide +kernel)
def Kc506 : Con := ((192, [(2, 0, 0, [150]), (2, 0, 0, [157]), (0, 0, 5, [])], []), [], [(some (0, iLo, iHi, []), [], [])])
set_option maxRecDepth 20000 in
theorem vc506 {l : Launch} {X : Nat × (Nat → Int32)} {e : Int} (d : Nat) : Vc l X U0 Pt1 e d Kc506 :=
  ck (d := d) (Ks := []) (cy := 152) (cd := cdX7_letsGo) (nl := 6) (fuel := 1000) (Hs := []) (by decide) rfl (fun na b => by rw [← ceX7_letsGo]; exact tkX7_letsGo) (fun _ h => absurd h List.not_mem_nil) (cpyX d) (by decide +kernel)
def Kc507 : Con := ((193, [(2, 0, 0, [150]), (2, 0, 0, [157]), (0, iLo, iHi, [])], []), [(157, 0, 17), (157, 23, 24)], [(none, [], [])])
set_option maxRecDepth 20000 in
theorem vc507 {l : Launch} {X : Nat × (Nat → Int32)} {e : Int} (d : Nat) : Vc l X U0 Pt1 e (d + 1) Kc507 :=
  ck (d := d) (Ks := [Kc506]) (cy := 152) (cd := cdX7_dayOn) (nl := 5) (fuel := 1000) (Hs := [((15, 0), ([(0, (2, 0, 0, [150])), (1, (2, 0, 0, [157])), (2, (0, 1, 0, [])), (3, (0, 2, 0, []))], [], [(0, 0), (iLo, iHi), (0, 1)], []), [(0, 2, 0), (0, 3, 0)], (25, [(2, (-3))]), []), ((89, 0), ([(0, (2, 0, 0, [150])), (1, (2, 0, 0, [157])), (3, (0, 1, 0, []))], [], [(0, 0), (0, 6)], []), [(0, 3, 0)], (18, [(1, (-3))]), [])]) (by decide) rfl (fun na b => by rw [← ceX7_dayOn]; exact tkX7_dayOn) (List.forall_mem_cons.mpr ⟨vc506 d, fun _ h => absurd h List.not_mem_nil⟩) (cpyX d) (by decide +kernel)
def Kc508 : Con := ((266, [(2, 0, 0, [150])], []), [(150, 0, 0), (150, 11, 11), (150, 22, 22), (157, 0, 17), (157, 23, 24), (158, 0, 399), (160, 0, 4)], [(some (0, iLo, iHi, []), [], []), (some (0, (-1), (-1), []), [], [])])
set_option maxRecDepth 20000 in
theorem vc508 {l : Launch} {X : Nat × (Nat → Int32)} {e : Int} (d : Nat) : Vc l X U0 Pt1 e (d + 2) Kc508 :=
  ck (d := (d + 1)) (Ks := [Kc395, Kc505, Kc426, Kc507, Kc398]) (cy := 152) (cd := cdX7_day) (nl := 1) (fuel := 1000) (Hs := []) (by decide) rfl (fun na b => by rw [← ceX7_day]; exact tkX7_day) (List.forall_mem_cons.mpr ⟨vc395 (d + 1), List.forall_mem_cons.mpr ⟨vc505 d, List.forall_mem_cons.mpr ⟨vc426 d, List.forall_mem_cons.mpr ⟨vc507 d, List.forall_mem_cons.mpr ⟨vc398 (d + 1), fun _ h => absurd h List.not_mem_nil⟩⟩⟩⟩⟩) (cpyX (d + 1)) (by decide +kernel)
def Kc509 : Con := ((267, [(2, 0, 0, [150]), (0, iLo, iHi, []), (0, iLo, iHi, [])], []), [(150, 0, 0), (150, 11, 11), (150, 22, 22), (157, 18, 18), (158, 0, 399)], [(some (0, (-1), (-1), []), [], []), (some (0, 0, 5, []), [(1, 0, 0), (2, 0, 5)], [])])
set_option maxRecDepth 20000 in
theorem vc509 {l : Launch} {X : Nat × (Nat → Int32)} {e : Int} (d : Nat) : Vc l X U0 Pt1 e (d + 2) Kc509 :=
  ck (d := (d + 1)) (Ks := [Kc395, Kc403, Kc398, Kc397, Kc400, Kc505]) (cy := 152) (cd := cdX7_give) (nl := 4) (fuel := 1000) (Hs := []) (by decide) rfl (fun na b => by rw [← ceX7_give]; exact tkX7_give) (List.forall_mem_cons.mpr ⟨vc395 (d + 1), List.forall_mem_cons.mpr ⟨vc403 d, List.forall_mem_cons.mpr ⟨vc398 (d + 1), List.forall_mem_cons.mpr ⟨vc397 d, List.forall_mem_cons.mpr ⟨vc400 (d + 1), List.forall_mem_cons.mpr ⟨vc505 d, fun _ h => absurd h List.not_mem_nil⟩⟩⟩⟩⟩⟩) (cpyX (d + 1)) (by decide +kernel)
def Kc510 : Con := ((148, [(2, 0, 0, [150]), (0, iLo, iHi, [])], []), [(150, 11, 11)], [(some (0, 0, 0, []), [], [])])
set_option maxRecDepth 20000 in
theorem vc510 {l : Launch} {X : Nat × (Nat → Int32)} {e : Int} (d : Nat) : Vc l X U0 Pt1 e d Kc510 :=
  ck (d := d) (Ks := []) (cy := 152) (cd := cdX7_isNot) (nl := 2) (fuel := 1000) (Hs := []) (by decide) rfl (fun na b => by rw [← ceX7_isNot]; exact tkX7_isNot) (fun _ h => absurd h List.not_mem_nil) (cpyX d) (by decide +kernel)
def Kc511 : Con := ((268, [(2, 0, 0, [150]), (0, iLo, iHi, [])], []), [(150, 0, 0), (150, 11, 11), (150, 22, 22), (157, 0, 11), (158, 0, 399)], [(some (0, 0, 0, []), [], []), (some (0, 1, 1, []), [(1, 0, 5)], [])])
set_option maxRecDepth 20000 in
theorem vc511 {l : Launch} {X : Nat × (Nat → Int32)} {e : Int} (d : Nat) : Vc l X U0 Pt1 e (d + 2) Kc511 :=
  ck (d := (d + 1)) (Ks := [Kc395, Kc397, Kc510, Kc505]) (cy := 152) (cd := cdX7_mend) (nl := 3) (fuel := 1000) (Hs := []) (by decide) rfl (fun na b => by rw [← ceX7_mend]; exact tkX7_mend) (List.forall_mem_cons.mpr ⟨vc395 (d + 1), List.forall_mem_cons.mpr ⟨vc397 d, List.forall_mem_cons.mpr ⟨vc510 (d + 1), List.forall_mem_cons.mpr ⟨vc505 d, fun _ h => absurd h List.not_mem_nil⟩⟩⟩⟩) (cpyX (d + 1)) (by decide +kernel)
def Kc512 : Con := ((149, [(0, iLo, iHi, []), (0, 1, 1, []), (0, 99, 99, [])], []), [], [(some (0, 0, 0, []), [], []), (some (0, 1, 1, []), [(0, 1, 99)], [])])
set_option maxRecDepth 20000 in
theorem vc512 {l : Launch} {X : Nat × (Nat → Int32)} {e : Int} (d : Nat) : Vc l X U0 Pt1 e d Kc512 :=
  ck (d := d) (Ks := []) (cy := 152) (cd := cdX7_in) (nl := 3) (fuel := 1000) (Hs := []) (by decide) rfl (fun na b => by rw [← ceX7_in]; exact tkX7_in) (fun _ h => absurd h List.not_mem_nil) (cpyX d) (by decide +kernel)
def Kc513 : Con := ((269, [(2, 0, 0, [150]), (0, iLo, iHi, []), (0, iLo, iHi, [])], []), [(150, 0, 0), (150, 11, 11), (150, 22, 22), (157, 6, 11), (158, 0, 399)], [(some (0, (-1), (-1), []), [], []), (some (0, iLo, iHi, []), [(1, 0, 5), (2, 1, 99)], [])])
set_option maxRecDepth 20000 in
theorem vc513 {l : Launch} {X : Nat × (Nat → Int32)} {e : Int} (d : Nat) : Vc l X U0 Pt1 e (d + 2) Kc513 :=
  ck (d := (d + 1)) (Ks := [Kc395, Kc397, Kc512, Kc420, Kc398, Kc421, Kc423, Kc424, Kc505]) (cy := 152) (cd := cdX7_vex) (nl := 4) (fuel := 1000) (Hs := []) (by decide) rfl (fun na b => by rw [← ceX7_vex]; exact tkX7_vex) (List.forall_mem_cons.mpr ⟨vc395 (d + 1), List.forall_mem_cons.mpr ⟨vc397 d, List.forall_mem_cons.mpr ⟨vc512 (d + 1), List.forall_mem_cons.mpr ⟨vc420 (d + 1), List.forall_mem_cons.mpr ⟨vc398 (d + 1), List.forall_mem_cons.mpr ⟨vc421 (d + 1), List.forall_mem_cons.mpr ⟨vc423 (d + 1), List.forall_mem_cons.mpr ⟨vc424 (d + 1), List.forall_mem_cons.mpr ⟨vc505 d, fun _ h => absurd h List.not_mem_nil⟩⟩⟩⟩⟩⟩⟩⟩⟩) (cpyX (d + 1)) (by decide +kernel)
def Kc514 : Con := ((270, [(2, 0, 0, [150])], []), [(150, 0, 0), (150, 11, 11), (150, 22, 22), (157, 0, 24)], [(some (0, 0, 0, []), [], []), (some (0, 1, 1, []), [], [])])
set_option maxRecDepth 20000 in
theorem vc514 {l : Launch} {X : Nat × (Nat → Int32)} {e : Int} (d : Nat) : Vc l X U0 Pt1 e (d + 1) Kc514 :=
  ck (d := d) (Ks := [Kc395, Kc510]) (cy := 152) (cd := cdX7_undo) (nl := 1) (fuel := 1000) (Hs := [((28, 1), ([(0, (2, 0, 0, [150]))], [], [(0, 0), (0, 15)], [(150, 22, (0, 1, 0, []))]), [(2, 150, 22)], (0, []), [])]) (by decide) rfl (fun na b => by rw [← ceX7_undo]; exact tkX7_undo) (List.forall_mem_cons.mpr ⟨vc395 d, List.forall_mem_cons.mpr ⟨vc510 d, fun _ h => absurd h List.not_mem_nil⟩⟩) (cpyX d) (by decide +kernel)
def Kc515 : Con := ((271, [(2, 0, 0, [150])], []), [(150, 0, 0), (150, 11, 11), (150, 23, 23), (159, 0, 74)], [(some (0, (-1), (-1), []), [], []), (some (0, 0, 2, []), [], [])])
set_option maxRecDepth 20000 in
theorem vc515 {l : Launch} {X : Nat × (Nat → Int32)} {e : Int} (d : Nat) : Vc l X U0 Pt1 e (d + 1) Kc515 :=
  ck (d := d) (Ks := [Kc395, Kc398]) (cy := 152) (cd := cdX7_image) (nl := 1) (fuel := 1000) (Hs := [((31, 1), ([(0, (2, 0, 0, [150]))], [], [(0, 0), (0, 2)], [(150, 23, (0, 1, 0, []))]), [(2, 150, 23)], (0, []), [])]) (by decide) rfl (fun na b => by rw [← ceX7_image]; exact tkX7_image) (List.forall_mem_cons.mpr ⟨vc395 d, List.forall_mem_cons.mpr ⟨vc398 d, fun _ h => absurd h List.not_mem_nil⟩⟩) (cpyX d) (by decide +kernel)
def Kc516 : Con := ((149, [(0, iLo, iHi, []), (0, 0, 0, []), (0, (-1), 2, [])], []), [], [(some (0, 0, 0, []), [], []), (some (0, 1, 1, []), [(0, 0, 2), (2, 0, 2)], [])])
set_option maxRecDepth 20000 in
theorem vc516 {l : Launch} {X : Nat × (Nat → Int32)} {e : Int} (d : Nat) : Vc l X U0 Pt1 e d Kc516 :=
  ck (d := d) (Ks := []) (cy := 152) (cd := cdX7_in) (nl := 3) (fuel := 1000) (Hs := []) (by decide) rfl (fun na b => by rw [← ceX7_in]; exact tkX7_in) (fun _ h => absurd h List.not_mem_nil) (cpyX d) (by decide +kernel)
def Kc517 : Con := ((272, [(2, 0, 0, [150]), (0, iLo, iHi, [])], []), [(150, 0, 0), (150, 11, 11), (150, 22, 22), (157, 0, 24)], [(some (0, 0, 0, []), [], []), (some (0, 1, 1, []), [], [])])
set_option maxRecDepth 20000 in
theorem vc517 {l : Launch} {X : Nat × (Nat → Int32)} {e : Int} (d : Nat) : Vc l X U0 Pt1 e (d + 1) Kc517 :=
  ck (d := d) (Ks := [Kc395, Kc516, Kc510]) (cy := 152) (cd := cdX7_back) (nl := 2) (fuel := 1000) (Hs := [((24, 1), ([(0, (2, 0, 0, [150])), (1, (0, 1, 0, []))], [], [(0, 0), (0, 2)], []), [(0, 1, 0)], (0, []), [])]) (by decide) rfl (fun na b => by rw [← ceX7_back]; exact tkX7_back) (List.forall_mem_cons.mpr ⟨vc395 d, List.forall_mem_cons.mpr ⟨vc516 d, List.forall_mem_cons.mpr ⟨vc510 d, fun _ h => absurd h List.not_mem_nil⟩⟩⟩) (cpyX d) (by decide +kernel)
def Kc518 : Con := ((273, [(2, 0, 0, [150]), (0, iLo, iHi, [])], []), [(150, 0, 0)], [(some (0, 0, 5, []), [], [])])
set_option maxRecDepth 20000 in
theorem vc518 {l : Launch} {X : Nat × (Nat → Int32)} {e : Int} (d : Nat) : Vc l X U0 Pt1 e (d + 1) Kc518 :=
  ck (d := d) (Ks := [Kc400]) (cy := 152) (cd := cdX7_led) (nl := 4) (fuel := 1000) (Hs := [((4, 0), ([(0, (2, 0, 0, [150])), (1, (0, 1, 0, [])), (2, (0, 2, 0, [])), (3, (0, 3, 0, []))], [], [(0, 0), (iLo, iHi), (iLo, iHi), (0, 6)], []), [(0, 1, 0), (0, 2, 0), (0, 3, 0)], (12, [(3, (-2))]), [])]) (by decide) rfl (fun na b => by rw [← ceX7_led]; exact tkX7_led) (List.forall_mem_cons.mpr ⟨vc400 d, fun _ h => absurd h List.not_mem_nil⟩) (cpyX d) (by decide +kernel)
def Kc519 : Con := ((149, [(0, iLo, iHi, []), (0, 0, 0, []), (0, 8, 8, [])], []), [], [(some (0, 0, 0, []), [], []), (some (0, 1, 1, []), [(0, 0, 8)], [])])
set_option maxRecDepth 20000 in
theorem vc519 {l : Launch} {X : Nat × (Nat → Int32)} {e : Int} (d : Nat) : Vc l X U0 Pt1 e d Kc519 :=
  ck (d := d) (Ks := []) (cy := 152) (cd := cdX7_in) (nl := 3) (fuel := 1000) (Hs := []) (by decide) rfl (fun na b => by rw [← ceX7_in]; exact tkX7_in) (fun _ h => absurd h List.not_mem_nil) (cpyX d) (by decide +kernel)
def Kc520 : Con := ((274, [(2, 0, 0, [150]), (0, iLo, iHi, [])], []), [(150, 0, 0)], [(some (0, (-1), (-1), []), [], []), (some (0, iLo, iHi, []), [(1, 0, 12)], [])])
set_option maxRecDepth 20000 in
theorem vc520 {l : Launch} {X : Nat × (Nat → Int32)} {e : Int} (d : Nat) : Vc l X U0 Pt1 e (d + 1) Kc520 :=
  ck (d := d) (Ks := [Kc519]) (cy := 152) (cd := cdX7_size) (nl := 2) (fuel := 1000) (Hs := []) (by decide) rfl (fun na b => by rw [← ceX7_size]; exact tkX7_size) (List.forall_mem_cons.mpr ⟨vc519 d, fun _ h => absurd h List.not_mem_nil⟩) (cpyX d) (by decide +kernel)
def Kc521 : Con := ((275, [(2, 0, 0, [150])], []), [(150, 0, 0)], [(some (0, iLo, iHi, []), [], [])])
set_option maxRecDepth 20000 in
theorem vc521 {l : Launch} {X : Nat × (Nat → Int32)} {e : Int} (d : Nat) : Vc l X U0 Pt1 e d Kc521 :=
  ck (d := d) (Ks := []) (cy := 152) (cd := cdX7_trouble) (nl := 1) (fuel := 1000) (Hs := []) (by decide) rfl (fun na b => by rw [← ceX7_trouble]; exact tkX7_trouble) (fun _ h => absurd h List.not_mem_nil) (cpyX d) (by decide +kernel)
def Kc522 : Con := ((183, [(2, 0, 0, [150])], []), [(150, 0, 0)], [(some (0, iLo, iHi, []), [], [])])
set_option maxRecDepth 20000 in
theorem vc522 {l : Launch} {X : Nat × (Nat → Int32)} {e : Int} (d : Nat) : Vc l X U0 Pt1 e d Kc522 :=
  ck (d := d) (Ks := []) (cy := 152) (cd := cdX7_fault) (nl := 1) (fuel := 1000) (Hs := []) (by decide) rfl (fun na b => by rw [← ceX7_fault]; exact tkX7_fault) (fun _ h => absurd h List.not_mem_nil) (cpyX d) (by decide +kernel)
def Kc523 : Con := ((184, [(2, 0, 0, [150])], []), [(150, 0, 0)], [(some (0, (-1), (-1), []), [], []), (some (0, iLo, iHi, []), [], [])])
set_option maxRecDepth 20000 in
theorem vc523 {l : Launch} {X : Nat × (Nat → Int32)} {e : Int} (d : Nat) : Vc l X U0 Pt1 e d Kc523 :=
  ck (d := d) (Ks := []) (cy := 152) (cd := cdX7_where) (nl := 1) (fuel := 1000) (Hs := []) (by decide) rfl (fun na b => by rw [← ceX7_where]; exact tkX7_where) (fun _ h => absurd h List.not_mem_nil) (cpyX d) (by decide +kernel)
