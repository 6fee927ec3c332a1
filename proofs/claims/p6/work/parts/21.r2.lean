def Kc524 : Con := ((146, [(2, 0, 0, [150])], []), [(150, 0, 0), (150, 11, 11)], [(none, [], [])])
set_option maxRecDepth 20000 in
theorem vc524 {l : Launch} {X : Nat × (Nat → Int32)} {e : Int} (d : Nat) : Vc l X U0 Pt2 e d Kc524 :=
  ck (d := d) (Ks := []) (cy := 152) (cd := cdX7_good) (nl := 1) (fuel := 1000) (Hs := []) (by decide) rfl (fun na b => by rw [← ceX7_good]; exact tkX7_good) (fun _ h => absurd h List.not_mem_nil) (cpyX d) (by decide +kernel)
def Kc525 : Con := ((149, [(0, iLo, iHi, []), (0, 0, 0, []), (0, (-1), 5, [])], []), [], [(some (0, 0, 0, []), [], []), (some (0, 1, 1, []), [(0, 0, 5), (2, 0, 5)], [])])
set_option maxRecDepth 20000 in
theorem vc525 {l : Launch} {X : Nat × (Nat → Int32)} {e : Int} (d : Nat) : Vc l X U0 Pt2 e d Kc525 :=
  ck (d := d) (Ks := []) (cy := 152) (cd := cdX7_in) (nl := 3) (fuel := 1000) (Hs := []) (by decide) rfl (fun na b => by rw [← ceX7_in]; exact tkX7_in) (fun _ h => absurd h List.not_mem_nil) (cpyX d) (by decide +kernel)
def Kc526 : Con := ((185, [(2, 0, 0, [150]), (0, iLo, iHi, [])], []), [], [(some (0, 0, 0, []), [], []), (some (0, 1, 1, []), [(1, 0, 5)], [])])
set_option maxRecDepth 20000 in
theorem vc526 {l : Launch} {X : Nat × (Nat → Int32)} {e : Int} (d : Nat) : Vc l X U0 Pt2 e (d + 1) Kc526 :=
  ck (d := d) (Ks := [Kc525]) (cy := 152) (cd := cdX7_isFace) (nl := 2) (fuel := 1000) (Hs := []) (by decide) rfl (fun na b => by rw [← ceX7_isFace]; exact tkX7_isFace) (List.forall_mem_cons.mpr ⟨vc525 d, fun _ h => absurd h List.not_mem_nil⟩) (cpyX d) (by decide +kernel)
def Kc527 : Con := ((147, [(2, 0, 0, [150]), (0, iLo, iHi, [])], []), [(150, 11, 11)], [(some (0, (-1), (-1), []), [], [])])
set_option maxRecDepth 20000 in
theorem vc527 {l : Launch} {X : Nat × (Nat → Int32)} {e : Int} (d : Nat) : Vc l X U0 Pt2 e d Kc527 :=
  ck (d := d) (Ks := []) (cy := 152) (cd := cdX7_no) (nl := 2) (fuel := 1000) (Hs := []) (by decide) rfl (fun na b => by rw [← ceX7_no]; exact tkX7_no) (fun _ h => absurd h List.not_mem_nil) (cpyX d) (by decide +kernel)
def Kc528 : Con := ((149, [(0, iLo, iHi, []), (0, 0, 0, []), (0, 6, 6, [])], []), [], [(some (0, 0, 0, []), [], []), (some (0, 1, 1, []), [(0, 0, 6)], [])])
set_option maxRecDepth 20000 in
theorem vc528 {l : Launch} {X : Nat × (Nat → Int32)} {e : Int} (d : Nat) : Vc l X U0 Pt2 e d Kc528 :=
  ck (d := d) (Ks := []) (cy := 152) (cd := cdX7_in) (nl := 3) (fuel := 1000) (Hs := []) (by decide) rfl (fun na b => by rw [← ceX7_in]; exact tkX7_in) (fun _ h => absurd h List.not_mem_nil) (cpyX d) (by decide +kernel)
def Kc529 : Con := ((197, [(2, 0, 0, [150]), (0, iLo, iHi, [])], []), [], [(some (0, (-2), (-2), []), [], []), (some (0, 0, 1, []), [], [])])
set_option maxRecDepth 20000 in
theorem vc529 {l : Launch} {X : Nat × (Nat → Int32)} {e : Int} (d : Nat) : Vc l X U0 Pt2 e d Kc529 :=
  ck (d := d) (Ks := []) (cy := 152) (cd := cdX7_canonOf) (nl := 3) (fuel := 1000) (Hs := [((2, 0), ([(0, (2, 0, 0, [150])), (1, (0, 1, 0, [])), (2, (0, 2, 0, []))], [], [(0, 0), (iLo, iHi), (0, 2)], []), [(0, 1, 0), (0, 2, 0)], (4, [(2, (-2))]), [])]) (by decide) rfl (fun na b => by rw [← ceX7_canonOf]; exact tkX7_canonOf) (fun _ h => absurd h List.not_mem_nil) (cpyX d) (by decide +kernel)
def Kc530 : Con := ((198, [(2, 0, 0, [150]), (0, iLo, iHi, []), (0, iLo, iHi, [])], []), [(150, 0, 0), (150, 11, 11)], [(some (0, (-1), (-1), []), [], []), (some (0, iLo, iHi, []), [(1, 0, 5), (2, 0, 6)], []), (some (0, (-2), (-2), []), [(1, 0, 5), (2, 5, 5)], [])])
set_option maxRecDepth 20000 in
theorem vc530 {l : Launch} {X : Nat × (Nat → Int32)} {e : Int} (d : Nat) : Vc l X U0 Pt2 e (d + 2) Kc530 :=
  ck (d := (d + 1)) (Ks := [Kc524, Kc526, Kc527, Kc528, Kc529]) (cy := 152) (cd := cdX7_face) (nl := 3) (fuel := 1000) (Hs := []) (by decide) rfl (fun na b => by rw [← ceX7_face]; exact tkX7_face) (List.forall_mem_cons.mpr ⟨vc524 (d + 1), List.forall_mem_cons.mpr ⟨vc526 d, List.forall_mem_cons.mpr ⟨vc527 (d + 1), List.forall_mem_cons.mpr ⟨vc528 (d + 1), List.forall_mem_cons.mpr ⟨vc529 (d + 1), fun _ h => absurd h List.not_mem_nil⟩⟩⟩⟩⟩) (cpyX (d + 1)) (by decide +kernel)
def Kc531 : Con := ((149, [(0, iLo, iHi, []), (0, 0, 0, []), (0, 1, 1, [])], []), [], [(some (0, 0, 0, []), [], []), (some (0, 1, 1, []), [(0, 0, 1)], [])])
set_option maxRecDepth 20000 in
theorem vc531 {l : Launch} {X : Nat × (Nat → Int32)} {e : Int} (d : Nat) : Vc l X U0 Pt2 e d Kc531 :=
  ck (d := d) (Ks := []) (cy := 152) (cd := cdX7_in) (nl := 3) (fuel := 1000) (Hs := []) (by decide) rfl (fun na b => by rw [← ceX7_in]; exact tkX7_in) (fun _ h => absurd h List.not_mem_nil) (cpyX d) (by decide +kernel)
def Kc532 : Con := ((186, [(2, 0, 0, [150]), (0, iLo, iHi, [])], []), [], [(some (0, 0, 0, []), [], []), (some (0, 1, 1, []), [(1, 0, 1)], [])])
set_option maxRecDepth 20000 in
theorem vc532 {l : Launch} {X : Nat × (Nat → Int32)} {e : Int} (d : Nat) : Vc l X U0 Pt2 e (d + 1) Kc532 :=
  ck (d := d) (Ks := [Kc531]) (cy := 152) (cd := cdX7_isCanon) (nl := 2) (fuel := 1000) (Hs := []) (by decide) rfl (fun na b => by rw [← ceX7_isCanon]; exact tkX7_isCanon) (List.forall_mem_cons.mpr ⟨vc531 d, fun _ h => absurd h List.not_mem_nil⟩) (cpyX d) (by decide +kernel)
def Kc533 : Con := ((149, [(0, iLo, iHi, []), (0, 0, 0, []), (0, 2, 2, [])], []), [], [(some (0, 0, 0, []), [], []), (some (0, 1, 1, []), [(0, 0, 2)], [])])
set_option maxRecDepth 20000 in
theorem vc533 {l : Launch} {X : Nat × (Nat → Int32)} {e : Int} (d : Nat) : Vc l X U0 Pt2 e d Kc533 :=
  ck (d := d) (Ks := []) (cy := 152) (cd := cdX7_in) (nl := 3) (fuel := 1000) (Hs := []) (by decide) rfl (fun na b => by rw [← ceX7_in]; exact tkX7_in) (fun _ h => absurd h List.not_mem_nil) (cpyX d) (by decide +kernel)
def Kc534 : Con := ((199, [(2, 0, 0, [150]), (0, iLo, iHi, []), (0, iLo, iHi, [])], []), [(150, 0, 0), (150, 11, 11)], [(some (0, (-1), (-1), []), [], []), (some (0, 0, 30, []), [(1, 0, 1), (2, 0, 2)], [])])
set_option maxRecDepth 20000 in
theorem vc534 {l : Launch} {X : Nat × (Nat → Int32)} {e : Int} (d : Nat) : Vc l X U0 Pt2 e (d + 2) Kc534 :=
  ck (d := (d + 1)) (Ks := [Kc524, Kc532, Kc527, Kc533]) (cy := 152) (cd := cdX7_canon) (nl := 3) (fuel := 1000) (Hs := []) (by decide) rfl (fun na b => by rw [← ceX7_canon]; exact tkX7_canon) (List.forall_mem_cons.mpr ⟨vc524 (d + 1), List.forall_mem_cons.mpr ⟨vc532 d, List.forall_mem_cons.mpr ⟨vc527 (d + 1), List.forall_mem_cons.mpr ⟨vc533 (d + 1), fun _ h => absurd h List.not_mem_nil⟩⟩⟩⟩) (cpyX (d + 1)) (by decide +kernel)
def Kc535 : Con := ((187, [(2, 0, 0, [150])], []), [], [(some (0, 0, 20, []), [], [])])
set_option maxRecDepth 20000 in
theorem vc535 {l : Launch} {X : Nat × (Nat → Int32)} {e : Int} (d : Nat) : Vc l X U0 Pt2 e d Kc535 :=
  ck (d := d) (Ks := []) (cy := 152) (cd := cdX7_cells) (nl := 1) (fuel := 1000) (Hs := []) (by decide) rfl (fun na b => by rw [← ceX7_cells]; exact tkX7_cells) (fun _ h => absurd h List.not_mem_nil) (cpyX d) (by decide +kernel)
def Kc536 : Con := ((149, [(0, iLo, iHi, []), (0, 0, 0, []), (0, (-1), 19, [])], []), [], [(some (0, 0, 0, []), [], []), (some (0, 1, 1, []), [(0, 0, 19), (2, 0, 19)], [])])
set_option maxRecDepth 20000 in
theorem vc536 {l : Launch} {X : Nat × (Nat → Int32)} {e : Int} (d : Nat) : Vc l X U0 Pt2 e d Kc536 :=
  ck (d := d) (Ks := []) (cy := 152) (cd := cdX7_in) (nl := 3) (fuel := 1000) (Hs := []) (by decide) rfl (fun na b => by rw [← ceX7_in]; exact tkX7_in) (fun _ h => absurd h List.not_mem_nil) (cpyX d) (by decide +kernel)
def Kc537 : Con := ((188, [(2, 0, 0, [150]), (0, iLo, iHi, [])], []), [], [(some (0, 0, 0, []), [], []), (some (0, 1, 1, []), [(1, 0, 19)], [])])
set_option maxRecDepth 20000 in
theorem vc537 {l : Launch} {X : Nat × (Nat → Int32)} {e : Int} (d : Nat) : Vc l X U0 Pt2 e (d + 1) Kc537 :=
  ck (d := d) (Ks := [Kc535, Kc536]) (cy := 152) (cd := cdX7_isCell) (nl := 2) (fuel := 1000) (Hs := []) (by decide) rfl (fun na b => by rw [← ceX7_isCell]; exact tkX7_isCell) (List.forall_mem_cons.mpr ⟨vc535 d, List.forall_mem_cons.mpr ⟨vc536 d, fun _ h => absurd h List.not_mem_nil⟩⟩) (cpyX d) (by decide +kernel)
def Kc538 : Con := ((149, [(0, iLo, iHi, []), (0, 0, 0, []), (0, 3, 3, [])], []), [], [(some (0, 0, 0, []), [], []), (some (0, 1, 1, []), [(0, 0, 3)], [])])
set_option maxRecDepth 20000 in
theorem vc538 {l : Launch} {X : Nat × (Nat → Int32)} {e : Int} (d : Nat) : Vc l X U0 Pt2 e d Kc538 :=
  ck (d := d) (Ks := []) (cy := 152) (cd := cdX7_in) (nl := 3) (fuel := 1000) (Hs := []) (by decide) rfl (fun na b => by rw [← ceX7_in]; exact tkX7_in) (fun _ h => absurd h List.not_mem_nil) (cpyX d) (by decide +kernel)
def Kc539 : Con := ((200, [(2, 0, 0, [150]), (0, iLo, iHi, [])], []), [], [(some (0, (-2), (-2), []), [], []), (some (0, 0, 5, []), [], [])])
set_option maxRecDepth 20000 in
theorem vc539 {l : Launch} {X : Nat × (Nat → Int32)} {e : Int} (d : Nat) : Vc l X U0 Pt2 e d Kc539 :=
  ck (d := d) (Ks := []) (cy := 152) (cd := cdX7_faceOver) (nl := 3) (fuel := 1000) (Hs := [((2, 0), ([(0, (2, 0, 0, [150])), (1, (0, 1, 0, [])), (2, (0, 2, 0, []))], [], [(0, 0), (iLo, iHi), (0, 6)], []), [(0, 1, 0), (0, 2, 0)], (12, [(2, (-2))]), [])]) (by decide) rfl (fun na b => by rw [← ceX7_faceOver]; exact tkX7_faceOver) (fun _ h => absurd h List.not_mem_nil) (cpyX d) (by decide +kernel)
def Kc540 : Con := ((149, [(0, iLo, iHi, []), (0, 0, 0, []), (0, 1, 4, [])], []), [], [(some (0, 0, 0, []), [], []), (some (0, 1, 1, []), [(0, 0, 4)], [])])
set_option maxRecDepth 20000 in
theorem vc540 {l : Launch} {X : Nat × (Nat → Int32)} {e : Int} (d : Nat) : Vc l X U0 Pt2 e d Kc540 :=
  ck (d := d) (Ks := []) (cy := 152) (cd := cdX7_in) (nl := 3) (fuel := 1000) (Hs := []) (by decide) rfl (fun na b => by rw [← ceX7_in]; exact tkX7_in) (fun _ h => absurd h List.not_mem_nil) (cpyX d) (by decide +kernel)
def Kc541 : Con := ((149, [(0, iLo, iHi, []), (0, 0, 0, []), (0, (-1), 3, [])], []), [], [(some (0, 0, 0, []), [], []), (some (0, 1, 1, []), [(0, 0, 3), (2, 0, 3)], [])])
set_option maxRecDepth 20000 in
theorem vc541 {l : Launch} {X : Nat × (Nat → Int32)} {e : Int} (d : Nat) : Vc l X U0 Pt2 e d Kc541 :=
  ck (d := d) (Ks := []) (cy := 152) (cd := cdX7_in) (nl := 3) (fuel := 1000) (Hs := []) (by decide) rfl (fun na b => by rw [← ceX7_in]; exact tkX7_in) (fun _ h => absurd h List.not_mem_nil) (cpyX d) (by decide +kernel)
def Kc542 : Con := ((150, [(0, iLo, iHi, []), (0, iLo, iHi, [])], []), [], [(some (0, 0, 0, []), [], []), (some (0, 1, 1, []), [], [])])
set_option maxRecDepth 20000 in
theorem vc542 {l : Launch} {X : Nat × (Nat → Int32)} {e : Int} (d : Nat) : Vc l X U0 Pt2 e d Kc542 :=
  ck (d := d) (Ks := []) (cy := 152) (cd := cdX7_hasBit) (nl := 2) (fuel := 1000) (Hs := []) (by decide) rfl (fun na b => by rw [← ceX7_hasBit]; exact tkX7_hasBit) (fun _ h => absurd h List.not_mem_nil) (cpyX d) (by decide +kernel)
def Kc543 : Con := ((201, [(2, 0, 0, [150]), (0, iLo, iHi, [])], []), [], [(some (0, 0, 0, []), [], []), (some (0, 1, 1, []), [], [])])
set_option maxRecDepth 20000 in
theorem vc543 {l : Launch} {X : Nat × (Nat → Int32)} {e : Int} (d : Nat) : Vc l X U0 Pt2 e (d + 1) Kc543 :=
  ck (d := d) (Ks := [Kc542]) (cy := 152) (cd := cdX7_isWall) (nl := 2) (fuel := 1000) (Hs := []) (by decide) rfl (fun na b => by rw [← ceX7_isWall]; exact tkX7_isWall) (List.forall_mem_cons.mpr ⟨vc542 d, fun _ h => absurd h List.not_mem_nil⟩) (cpyX d) (by decide +kernel)
def Kc544 : Con := ((202, [(2, 0, 0, [150]), (0, iLo, iHi, []), (0, iLo, iHi, [])], []), [], [(some (0, (-2), (-2), []), [], []), (some (0, 0, 19, []), [], [])])
set_option maxRecDepth 20000 in
theorem vc544 {l : Launch} {X : Nat × (Nat → Int32)} {e : Int} (d : Nat) : Vc l X U0 Pt2 e (d + 2) Kc544 :=
  ck (d := (d + 1)) (Ks := [Kc540, Kc541, Kc543]) (cy := 152) (cd := cdX7_stepFrom) (nl := 5) (fuel := 1000) (Hs := []) (by decide) rfl (fun na b => by rw [← ceX7_stepFrom]; exact tkX7_stepFrom) (List.forall_mem_cons.mpr ⟨vc540 (d + 1), List.forall_mem_cons.mpr ⟨vc541 (d + 1), List.forall_mem_cons.mpr ⟨vc543 d, fun _ h => absurd h List.not_mem_nil⟩⟩⟩) (cpyX (d + 1)) (by decide +kernel)
def Kc545 : Con := ((203, [(2, 0, 0, [150]), (0, iLo, iHi, [])], []), [], [(some (0, iLo, iHi, []), [], [])])
set_option maxRecDepth 20000 in
theorem vc545 {l : Launch} {X : Nat × (Nat → Int32)} {e : Int} (d : Nat) : Vc l X U0 Pt2 e (d + 3) Kc545 :=
  ck (d := (d + 2)) (Ks := [Kc544]) (cy := 152) (cd := cdX7_beside) (nl := 4) (fuel := 1000) (Hs := [((4, 0), ([(0, (2, 0, 0, [150])), (1, (0, 1, 0, [])), (2, (0, 2, 0, [])), (3, (0, 3, 0, []))], [], [(0, 0), (iLo, iHi), (iLo, iHi), (0, 4)], []), [(0, 1, 0), (0, 2, 0), (0, 3, 0)], (8, [(3, (-2))]), [])]) (by decide) rfl (fun na b => by rw [← ceX7_beside]; exact tkX7_beside) (List.forall_mem_cons.mpr ⟨vc544 d, fun _ h => absurd h List.not_mem_nil⟩) (cpyX (d + 2)) (by decide +kernel)
def Kc546 : Con := ((204, [(2, 0, 0, [150]), (0, iLo, iHi, []), (0, iLo, iHi, [])], []), [(150, 0, 0), (150, 11, 11), (150, 26, 26)], [(some (0, (-1), (-1), []), [], []), (some (0, iLo, iHi, []), [(1, 0, 19), (2, 0, 3)], []), (some (0, (-2), (-2), []), [(1, 0, 19), (2, 1, 1)], [])])
set_option maxRecDepth 20000 in
theorem vc546 {l : Launch} {X : Nat × (Nat → Int32)} {e : Int} (d : Nat) : Vc l X U0 Pt2 e (d + 4) Kc546 :=
  ck (d := (d + 3)) (Ks := [Kc524, Kc537, Kc527, Kc538, Kc539, Kc545]) (cy := 152) (cd := cdX7_cell) (nl := 3) (fuel := 1000) (Hs := []) (by decide) rfl (fun na b => by rw [← ceX7_cell]; exact tkX7_cell) (List.forall_mem_cons.mpr ⟨vc524 (d + 3), List.forall_mem_cons.mpr ⟨vc537 (d + 2), List.forall_mem_cons.mpr ⟨vc527 (d + 3), List.forall_mem_cons.mpr ⟨vc538 (d + 3), List.forall_mem_cons.mpr ⟨vc539 (d + 3), List.forall_mem_cons.mpr ⟨vc545 d, fun _ h => absurd h List.not_mem_nil⟩⟩⟩⟩⟩⟩) (cpyX (d + 3)) (by decide +kernel)
def Kc547 : Con := ((205, [(2, 0, 0, [150])], []), [(150, 0, 0), (150, 11, 11)], [(some (0, iLo, iHi, []), [], [])])
set_option maxRecDepth 20000 in
theorem vc547 {l : Launch} {X : Nat × (Nat → Int32)} {e : Int} (d : Nat) : Vc l X U0 Pt2 e (d + 1) Kc547 :=
  ck (d := d) (Ks := [Kc524]) (cy := 152) (cd := cdX7_burden) (nl := 3) (fuel := 1000) (Hs := [((21, 0), ([(0, (2, 0, 0, [150])), (1, (0, 1, 0, [])), (2, (0, 2, 0, []))], [], [(0, 0), (iLo, iHi), (0, 6)], []), [(0, 1, 0), (0, 2, 0)], (12, [(2, (-2))]), [])]) (by decide) rfl (fun na b => by rw [← ceX7_burden]; exact tkX7_burden) (List.forall_mem_cons.mpr ⟨vc524 d, fun _ h => absurd h List.not_mem_nil⟩) (cpyX d) (by decide +kernel)
def Kc548 : Con := ((149, [(0, iLo, iHi, []), (0, 0, 0, []), (0, 60, 60, [])], []), [], [(some (0, 0, 0, []), [], []), (some (0, 1, 1, []), [(0, 0, 60)], [])])
set_option maxRecDepth 20000 in
theorem vc548 {l : Launch} {X : Nat × (Nat → Int32)} {e : Int} (d : Nat) : Vc l X U0 Pt2 e d Kc548 :=
  ck (d := d) (Ks := []) (cy := 152) (cd := cdX7_in) (nl := 3) (fuel := 1000) (Hs := []) (by decide) rfl (fun na b => by rw [← ceX7_in]; exact tkX7_in) (fun _ h => absurd h List.not_mem_nil) (cpyX d) (by decide +kernel)
def Kc549 : Con := ((190, [(2, 0, 0, [150]), (0, 0, 0, []), (0, 0, 0, [])], []), [], [(some (0, 1, 1, []), [], [])])
set_option maxRecDepth 20000 in
theorem vc549 {l : Launch} {X : Nat × (Nat → Int32)} {e : Int} (d : Nat) : Vc l X U0 Pt2 e d Kc549 :=
  ck (d := d) (Ks := []) (cy := 152) (cd := cdX7_why) (nl := 3) (fuel := 1000) (Hs := []) (by decide) rfl (fun na b => by rw [← ceX7_why]; exact tkX7_why) (fun _ h => absurd h List.not_mem_nil) (cpyX d) (by decide +kernel)
def Kc550 : Con := ((190, [(2, 0, 0, [150]), (0, 0, 0, []), (0, 1, 1, [])], []), [], [(some (0, 1, 1, []), [], [])])
set_option maxRecDepth 20000 in
theorem vc550 {l : Launch} {X : Nat × (Nat → Int32)} {e : Int} (d : Nat) : Vc l X U0 Pt2 e d Kc550 :=
  ck (d := d) (Ks := []) (cy := 152) (cd := cdX7_why) (nl := 3) (fuel := 1000) (Hs := []) (by decide) rfl (fun na b => by rw [← ceX7_why]; exact tkX7_why) (fun _ h => absurd h List.not_mem_nil) (cpyX d) (by decide +kernel)
def Kc551 : Con := ((206, [(2, 0, 0, [150]), (0, 0, 0, []), (0, 0, 0, []), (0, iLo, iHi, [])], []), [], [(some (0, 1, 1, []), [], [])])
set_option maxRecDepth 20000 in
theorem vc551 {l : Launch} {X : Nat × (Nat → Int32)} {e : Int} (d : Nat) : Vc l X U0 Pt2 e (d + 1) Kc551 :=
  ck (d := d) (Ks := [Kc548, Kc549, Kc550]) (cy := 152) (cd := cdX7_aheadWhy) (nl := 4) (fuel := 1000) (Hs := []) (by decide) rfl (fun na b => by rw [← ceX7_aheadWhy]; exact tkX7_aheadWhy) (List.forall_mem_cons.mpr ⟨vc548 d, List.forall_mem_cons.mpr ⟨vc549 d, List.forall_mem_cons.mpr ⟨vc550 d, fun _ h => absurd h List.not_mem_nil⟩⟩⟩) (cpyX d) (by decide +kernel)
def Kc552 : Con := ((190, [(2, 0, 0, [150]), (0, 1, 1, []), (0, 0, 0, [])], []), [], [(some (0, 2, 2, []), [], [])])
set_option maxRecDepth 20000 in
theorem vc552 {l : Launch} {X : Nat × (Nat → Int32)} {e : Int} (d : Nat) : Vc l X U0 Pt2 e d Kc552 :=
  ck (d := d) (Ks := []) (cy := 152) (cd := cdX7_why) (nl := 3) (fuel := 1000) (Hs := []) (by decide) rfl (fun na b => by rw [← ceX7_why]; exact tkX7_why) (fun _ h => absurd h List.not_mem_nil) (cpyX d) (by decide +kernel)
def Kc553 : Con := ((190, [(2, 0, 0, [150]), (0, 1, 1, []), (0, 1, 1, [])], []), [], [(some (0, 0, 0, []), [], [])])
set_option maxRecDepth 20000 in
theorem vc553 {l : Launch} {X : Nat × (Nat → Int32)} {e : Int} (d : Nat) : Vc l X U0 Pt2 e d Kc553 :=
  ck (d := d) (Ks := []) (cy := 152) (cd := cdX7_why) (nl := 3) (fuel := 1000) (Hs := []) (by decide) rfl (fun na b => by rw [← ceX7_why]; exact tkX7_why) (fun _ h => absurd h List.not_mem_nil) (cpyX d) (by decide +kernel)
def Kc554 : Con := ((206, [(2, 0, 0, [150]), (0, 1, 1, []), (0, 0, 0, []), (0, iLo, iHi, [])], []), [], [(some (0, 2, 2, []), [], []), (some (0, 0, 0, []), [(3, 0, 60)], [])])
set_option maxRecDepth 20000 in
theorem vc554 {l : Launch} {X : Nat × (Nat → Int32)} {e : Int} (d : Nat) : Vc l X U0 Pt2 e (d + 1) Kc554 :=
  ck (d := d) (Ks := [Kc548, Kc552, Kc553]) (cy := 152) (cd := cdX7_aheadWhy) (nl := 4) (fuel := 1000) (Hs := []) (by decide) rfl (fun na b => by rw [← ceX7_aheadWhy]; exact tkX7_aheadWhy) (List.forall_mem_cons.mpr ⟨vc548 d, List.forall_mem_cons.mpr ⟨vc552 d, List.forall_mem_cons.mpr ⟨vc553 d, fun _ h => absurd h List.not_mem_nil⟩⟩⟩) (cpyX d) (by decide +kernel)
def Kc555 : Con := ((191, [(2, 0, 0, [150]), (0, iLo, iHi, [])], []), [(160, 0, 4)], [(none, [], [])])
set_option maxRecDepth 20000 in
theorem vc555 {l : Launch} {X : Nat × (Nat → Int32)} {e : Int} (d : Nat) : Vc l X U0 Pt2 e (d + 1) Kc555 :=
  ck (d := d) (Ks := [Kc542]) (cy := 152) (cd := cdX7_vexedBy) (nl := 3) (fuel := 1000) (Hs := [((2, 0), ([(0, (2, 0, 0, [150])), (1, (0, 1, 0, [])), (2, (0, 2, 0, []))], [], [(0, 0), (iLo, iHi), (0, 2)], []), [(0, 1, 0), (0, 2, 0)], (22, [(2, (-3))]), []), ((37, 2), ([(0, (2, 0, 0, [150])), (1, (0, 1, 0, [])), (2, (0, 2, 0, []))], [], [(0, 0), (iLo, iHi), (0, 4)], []), [(0, 1, 0), (0, 2, 0)], (12, [(2, (-3))]), [])]) (by decide) rfl (fun na b => by rw [← ceX7_vexedBy]; exact tkX7_vexedBy) (List.forall_mem_cons.mpr ⟨vc542 d, fun _ h => absurd h List.not_mem_nil⟩) (cpyX d) (by decide +kernel)
def Kc556 : Con := ((192, [(2, 0, 0, [150]), (2, 0, 0, [161]), (0, 0, 5, [])], []), [], [(some (0, iLo, iHi, []), [], [])])
set_option maxRecDepth 20000 in
theorem vc556 {l : Launch} {X : Nat × (Nat → Int32)} {e : Int} (d : Nat) : Vc l X U0 Pt2 e d Kc556 :=
  ck (d := d) (Ks := []) (cy := 152) (cd := cdX7_letsGo) (nl := 6) (fuel := 1000) (Hs := []) (by decide) rfl (fun na b => by rw [← ceX7_letsGo]; exact tkX7_letsGo) (fun _ h => absurd h List.not_mem_nil) (cpyX d) (by decide +kernel)
def Kc557 : Con := ((193, [(2, 0, 0, [150]), (2, 0, 0, [161]), (0, iLo, iHi, [])], []), [(161, 0, 17), (161, 23, 24)], [(none, [], [])])
set_option maxRecDepth 20000 in
theorem vc557 {l : Launch} {X : Nat × (Nat → Int32)} {e : Int} (d : Nat) : Vc l X U0 Pt2 e (d + 1) Kc557 :=
  ck (d := d) (Ks := [Kc556]) (cy := 152) (cd := cdX7_dayOn) (nl := 5) (fuel := 1000) (Hs := [((15, 0), ([(0, (2, 0, 0, [150])), (1, (2, 0, 0, [161])), (2, (0, 1, 0, [])), (3, (0, 2, 0, []))], [], [(0, 0), (iLo, iHi), (0, 2)], []), [(0, 2, 0), (0, 3, 0)], (28, [(2, (-3))]), []), ((89, 0), ([(0, (2, 0, 0, [150])), (1, (2, 0, 0, [161])), (3, (0, 1, 0, []))], [], [(0, 0), (0, 6)], []), [(0, 3, 0)], (18, [(1, (-3))]), [])]) (by decide) rfl (fun na b => by rw [← ceX7_dayOn]; exact tkX7_dayOn) (List.forall_mem_cons.mpr ⟨vc556 d, fun _ h => absurd h List.not_mem_nil⟩) (cpyX d) (by decide +kernel)
def Kc558 : Con := ((194, [(2, 0, 0, [150]), (0, iLo, iHi, [])], []), [(160, 0, 4), (161, 0, 24)], [(none, [], [])])
set_option maxRecDepth 20000 in
theorem vc558 {l : Launch} {X : Nat × (Nat → Int32)} {e : Int} (d : Nat) : Vc l X U0 Pt2 e (d + 2) Kc558 :=
  ck (d := (d + 1)) (Ks := [Kc555, Kc557]) (cy := 152) (cd := cdX7_daysOn) (nl := 3) (fuel := 1000) (Hs := [((22, 0), ([(0, (2, 0, 0, [150])), (1, (0, 1, 0, [])), (2, (0, 2, 0, []))], [], [(0, 0), (iLo, iHi), (0, iHi)], []), [(0, 1, 0), (0, 2, 0)], (4294967294, [(2, (-2))]), [])]) (by decide) rfl (fun na b => by rw [← ceX7_daysOn]; exact tkX7_daysOn) (List.forall_mem_cons.mpr ⟨vc555 d, List.forall_mem_cons.mpr ⟨vc557 d, fun _ h => absurd h List.not_mem_nil⟩⟩) (cpyX (d + 1)) (by decide +kernel)
def Kc559 : Con := ((207, [(2, 0, 0, [150]), (0, iLo, iHi, []), (0, iLo, iHi, [])], []), [(150, 0, 0), (150, 11, 11), (160, 0, 4), (161, 0, 24)], [(some (0, (-1), (-1), []), [], []), (some (0, iLo, iHi, []), [(1, 0, 5), (2, 0, 60)], [])])
set_option maxRecDepth 20000 in
theorem vc559 {l : Launch} {X : Nat × (Nat → Int32)} {e : Int} (d : Nat) : Vc l X U0 Pt2 e (d + 3) Kc559 :=
  ck (d := (d + 2)) (Ks := [Kc524, Kc526, Kc551, Kc527, Kc554, Kc558]) (cy := 152) (cd := cdX7_bears) (nl := 4) (fuel := 1000) (Hs := []) (by decide) rfl (fun na b => by rw [← ceX7_bears]; exact tkX7_bears) (List.forall_mem_cons.mpr ⟨vc524 (d + 2), List.forall_mem_cons.mpr ⟨vc526 (d + 1), List.forall_mem_cons.mpr ⟨vc551 (d + 1), List.forall_mem_cons.mpr ⟨vc527 (d + 2), List.forall_mem_cons.mpr ⟨vc554 (d + 1), List.forall_mem_cons.mpr ⟨vc558 d, fun _ h => absurd h List.not_mem_nil⟩⟩⟩⟩⟩⟩) (cpyX (d + 2)) (by decide +kernel)
def Kc560 : Con := ((208, [(2, 0, 0, [150]), (0, iLo, iHi, []), (0, iLo, iHi, [])], []), [(150, 0, 0), (150, 11, 11), (160, 0, 4), (161, 0, 24)], [(some (0, (-1), (-1), []), [], []), (some (0, iLo, iHi, []), [(1, 0, 5), (2, 0, 60)], [])])
set_option maxRecDepth 20000 in
theorem vc560 {l : Launch} {X : Nat × (Nat → Int32)} {e : Int} (d : Nat) : Vc l X U0 Pt2 e (d + 3) Kc560 :=
  ck (d := (d + 2)) (Ks := [Kc524, Kc526, Kc551, Kc527, Kc554, Kc558]) (cy := 152) (cd := cdX7_holds) (nl := 4) (fuel := 1000) (Hs := []) (by decide) rfl (fun na b => by rw [← ceX7_holds]; exact tkX7_holds) (List.forall_mem_cons.mpr ⟨vc524 (d + 2), List.forall_mem_cons.mpr ⟨vc526 (d + 1), List.forall_mem_cons.mpr ⟨vc551 (d + 1), List.forall_mem_cons.mpr ⟨vc527 (d + 2), List.forall_mem_cons.mpr ⟨vc554 (d + 1), List.forall_mem_cons.mpr ⟨vc558 d, fun _ h => absurd h List.not_mem_nil⟩⟩⟩⟩⟩⟩) (cpyX (d + 2)) (by decide +kernel)
def Kc561 : Con := ((209, [(2, 0, 0, [150]), (0, iLo, iHi, []), (0, iLo, iHi, [])], []), [(150, 0, 0), (150, 11, 11), (160, 0, 4), (161, 0, 24)], [(some (0, (-1), (-1), []), [], []), (some (0, iLo, iHi, []), [(1, 0, 5), (2, 0, 60)], [])])
set_option maxRecDepth 20000 in
theorem vc561 {l : Launch} {X : Nat × (Nat → Int32)} {e : Int} (d : Nat) : Vc l X U0 Pt2 e (d + 3) Kc561 :=
  ck (d := (d + 2)) (Ks := [Kc524, Kc526, Kc551, Kc527, Kc554, Kc558]) (cy := 152) (cd := cdX7_drops) (nl := 4) (fuel := 1000) (Hs := []) (by decide) rfl (fun na b => by rw [← ceX7_drops]; exact tkX7_drops) (List.forall_mem_cons.mpr ⟨vc524 (d + 2), List.forall_mem_cons.mpr ⟨vc526 (d + 1), List.forall_mem_cons.mpr ⟨vc551 (d + 1), List.forall_mem_cons.mpr ⟨vc527 (d + 2), List.forall_mem_cons.mpr ⟨vc554 (d + 1), List.forall_mem_cons.mpr ⟨vc558 d, fun _ h => absurd h List.not_mem_nil⟩⟩⟩⟩⟩⟩) (cpyX (d + 2)) (by decide +kernel)
def Kc562 : Con := ((210, [(2, 0, 0, [150]), (0, iLo, iHi, [])], []), [(150, 0, 0), (150, 11, 11), (160, 0, 4), (161, 0, 24)], [(some (0, (-1), (-1), []), [], []), (some (0, (-2), (-2), []), [], []), (some (0, 1, 60, []), [], [])])
set_option maxRecDepth 20000 in
theorem vc562 {l : Launch} {X : Nat × (Nat → Int32)} {e : Int} (d : Nat) : Vc l X U0 Pt2 e (d + 3) Kc562 :=
  ck (d := (d + 2)) (Ks := [Kc524, Kc526, Kc527, Kc558, Kc557]) (cy := 152) (cd := cdX7_dropsIn) (nl := 3) (fuel := 1000) (Hs := [((25, 0), ([(0, (2, 0, 0, [150])), (1, (0, 1, 0, [])), (2, (0, 2, 0, []))], [], [(0, 0), (0, 5), (1, 61)], []), [(0, 1, 0), (0, 2, 0)], (122, [(2, (-2))]), [])]) (by decide) rfl (fun na b => by rw [← ceX7_dropsIn]; exact tkX7_dropsIn) (List.forall_mem_cons.mpr ⟨vc524 (d + 2), List.forall_mem_cons.mpr ⟨vc526 (d + 1), List.forall_mem_cons.mpr ⟨vc527 (d + 2), List.forall_mem_cons.mpr ⟨vc558 d, List.forall_mem_cons.mpr ⟨vc557 (d + 1), fun _ h => absurd h List.not_mem_nil⟩⟩⟩⟩⟩) (cpyX (d + 2)) (by decide +kernel)
def Kc563 : Con := ((211, [(2, 0, 0, [150]), (0, iLo, iHi, [])], []), [(150, 0, 0), (150, 11, 11), (160, 0, 4), (161, 0, 24)], [(some (0, (-1), (-1), []), [], []), (some (0, (-2), (-2), []), [], []), (some (0, 0, 60, []), [], [])])
set_option maxRecDepth 20000 in
theorem vc563 {l : Launch} {X : Nat × (Nat → Int32)} {e : Int} (d : Nat) : Vc l X U0 Pt2 e (d + 3) Kc563 :=
  ck (d := (d + 2)) (Ks := [Kc524, Kc526, Kc527, Kc558, Kc557]) (cy := 152) (cd := cdX7_fallsIn) (nl := 3) (fuel := 1000) (Hs := [((25, 0), ([(0, (2, 0, 0, [150])), (1, (0, 1, 0, [])), (2, (0, 2, 0, []))], [], [(0, 0), (0, 5), (0, 61)], []), [(0, 1, 0), (0, 2, 0)], (122, [(2, (-2))]), [])]) (by decide) rfl (fun na b => by rw [← ceX7_fallsIn]; exact tkX7_fallsIn) (List.forall_mem_cons.mpr ⟨vc524 (d + 2), List.forall_mem_cons.mpr ⟨vc526 (d + 1), List.forall_mem_cons.mpr ⟨vc527 (d + 2), List.forall_mem_cons.mpr ⟨vc558 d, List.forall_mem_cons.mpr ⟨vc557 (d + 1), fun _ h => absurd h List.not_mem_nil⟩⟩⟩⟩⟩) (cpyX (d + 2)) (by decide +kernel)
def Kc564 : Con := ((149, [(0, iLo, iHi, []), (0, 1, 1, []), (0, 60, 60, [])], []), [], [(some (0, 0, 0, []), [], []), (some (0, 1, 1, []), [(0, 1, 60)], [])])
set_option maxRecDepth 20000 in
theorem vc564 {l : Launch} {X : Nat × (Nat → Int32)} {e : Int} (d : Nat) : Vc l X U0 Pt2 e d Kc564 :=
  ck (d := d) (Ks := []) (cy := 152) (cd := cdX7_in) (nl := 3) (fuel := 1000) (Hs := []) (by decide) rfl (fun na b => by rw [← ceX7_in]; exact tkX7_in) (fun _ h => absurd h List.not_mem_nil) (cpyX d) (by decide +kernel)
def Kc565 : Con := ((206, [(2, 0, 0, [150]), (0, 1, 1, []), (0, 1, 1, []), (0, iLo, iHi, [])], []), [], [(some (0, 2, 2, []), [], []), (some (0, 0, 0, []), [(3, 1, 60)], [])])
set_option maxRecDepth 20000 in
theorem vc565 {l : Launch} {X : Nat × (Nat → Int32)} {e : Int} (d : Nat) : Vc l X U0 Pt2 e (d + 1) Kc565 :=
  ck (d := d) (Ks := [Kc564, Kc552, Kc553]) (cy := 152) (cd := cdX7_aheadWhy) (nl := 4) (fuel := 1000) (Hs := []) (by decide) rfl (fun na b => by rw [← ceX7_aheadWhy]; exact tkX7_aheadWhy) (List.forall_mem_cons.mpr ⟨vc564 d, List.forall_mem_cons.mpr ⟨vc552 d, List.forall_mem_cons.mpr ⟨vc553 d, fun _ h => absurd h List.not_mem_nil⟩⟩⟩) (cpyX d) (by decide +kernel)
def Kc566 : Con := ((212, [(2, 0, 0, [150]), (0, iLo, iHi, [])], []), [(150, 0, 0), (150, 11, 11), (160, 0, 4), (161, 0, 24)], [(some (0, (-1), (-1), []), [], []), (some (0, iLo, iHi, []), [(1, 1, 60)], [])])
set_option maxRecDepth 20000 in
theorem vc566 {l : Launch} {X : Nat × (Nat → Int32)} {e : Int} (d : Nat) : Vc l X U0 Pt2 e (d + 3) Kc566 :=
  ck (d := (d + 2)) (Ks := [Kc524, Kc565, Kc527, Kc558]) (cy := 152) (cd := cdX7_wet) (nl := 3) (fuel := 1000) (Hs := []) (by decide) rfl (fun na b => by rw [← ceX7_wet]; exact tkX7_wet) (List.forall_mem_cons.mpr ⟨vc524 (d + 2), List.forall_mem_cons.mpr ⟨vc565 (d + 1), List.forall_mem_cons.mpr ⟨vc527 (d + 2), List.forall_mem_cons.mpr ⟨vc558 d, fun _ h => absurd h List.not_mem_nil⟩⟩⟩⟩) (cpyX (d + 2)) (by decide +kernel)
def Kc567 : Con := ((213, [(2, 0, 0, [150]), (0, 0, 19, []), (0, 0, 60, [])], []), [(160, 0, 4), (161, 0, 24)], [(some (0, iLo, iHi, []), [], [])])
set_option maxRecDepth 20000 in
theorem vc567 {l : Launch} {X : Nat × (Nat → Int32)} {e : Int} (d : Nat) : Vc l X U0 Pt2 e (d + 3) Kc567 :=
  ck (d := (d + 2)) (Ks := [Kc558, Kc557]) (cy := 152) (cd := cdX7_wetOften) (nl := 5) (fuel := 1000) (Hs := [((10, 0), ([(0, (2, 0, 0, [150])), (1, (0, 1, 0, [])), (2, (0, 2, 0, [])), (3, (0, 3, 0, [])), (4, (0, 4, 0, []))], [], [(0, 0), (0, 19), (0, 60), (iLo, iHi), (1, 61)], []), [(0, 1, 0), (0, 2, 0), (0, 3, 0), (0, 4, 0)], (122, [(4, (-2))]), [])]) (by decide) rfl (fun na b => by rw [← ceX7_wetOften]; exact tkX7_wetOften) (List.forall_mem_cons.mpr ⟨vc558 d, List.forall_mem_cons.mpr ⟨vc557 (d + 1), fun _ h => absurd h List.not_mem_nil⟩⟩) (cpyX (d + 2)) (by decide +kernel)
def Kc568 : Con := ((214, [(2, 0, 0, [150]), (0, iLo, iHi, []), (0, iLo, iHi, [])], []), [(150, 0, 0), (150, 11, 11), (160, 0, 4), (161, 0, 24)], [(some (0, (-1), (-1), []), [], []), (some (0, iLo, iHi, []), [(1, 0, 19), (2, 0, 60)], [])])
set_option maxRecDepth 20000 in
theorem vc568 {l : Launch} {X : Nat × (Nat → Int32)} {e : Int} (d : Nat) : Vc l X U0 Pt2 e (d + 4) Kc568 :=
  ck (d := (d + 3)) (Ks := [Kc524, Kc537, Kc551, Kc527, Kc554, Kc567]) (cy := 152) (cd := cdX7_wetDays) (nl := 4) (fuel := 1000) (Hs := []) (by decide) rfl (fun na b => by rw [← ceX7_wetDays]; exact tkX7_wetDays) (List.forall_mem_cons.mpr ⟨vc524 (d + 3), List.forall_mem_cons.mpr ⟨vc537 (d + 2), List.forall_mem_cons.mpr ⟨vc551 (d + 2), List.forall_mem_cons.mpr ⟨vc527 (d + 3), List.forall_mem_cons.mpr ⟨vc554 (d + 2), List.forall_mem_cons.mpr ⟨vc567 d, fun _ h => absurd h List.not_mem_nil⟩⟩⟩⟩⟩⟩) (cpyX (d + 3)) (by decide +kernel)
def Kc569 : Con := ((213, [(2, 0, 0, [150]), (0, 0, 0, []), (0, 60, 60, [])], []), [(160, 0, 4), (161, 0, 24)], [(some (0, iLo, iHi, []), [], [])])
set_option maxRecDepth 20000 in
theorem vc569 {l : Launch} {X : Nat × (Nat → Int32)} {e : Int} (d : Nat) : Vc l X U0 Pt2 e (d + 3) Kc569 :=
  ck (d := (d + 2)) (Ks := [Kc558, Kc557]) (cy := 152) (cd := cdX7_wetOften) (nl := 5) (fuel := 1000) (Hs := [((10, 0), ([(0, (2, 0, 0, [150])), (1, (0, 1, 0, [])), (2, (0, 2, 0, [])), (3, (0, 3, 0, [])), (4, (0, 4, 0, []))], [], [(0, 0), (0, 0), (60, 60), (iLo, iHi), (1, 61)], []), [(0, 1, 0), (0, 2, 0), (0, 3, 0), (0, 4, 0)], (122, [(4, (-2))]), [])]) (by decide) rfl (fun na b => by rw [← ceX7_wetOften]; exact tkX7_wetOften) (List.forall_mem_cons.mpr ⟨vc558 d, List.forall_mem_cons.mpr ⟨vc557 (d + 1), fun _ h => absurd h List.not_mem_nil⟩⟩) (cpyX (d + 2)) (by decide +kernel)
def Kc570 : Con := ((213, [(2, 0, 0, [150]), (0, 1, 19, []), (0, 60, 60, [])], []), [(160, 0, 4), (161, 0, 24)], [(some (0, iLo, iHi, []), [], [])])
set_option maxRecDepth 20000 in
theorem vc570 {l : Launch} {X : Nat × (Nat → Int32)} {e : Int} (d : Nat) : Vc l X U0 Pt2 e (d + 3) Kc570 :=
  ck (d := (d + 2)) (Ks := [Kc558, Kc557]) (cy := 152) (cd := cdX7_wetOften) (nl := 5) (fuel := 1000) (Hs := [((10, 0), ([(0, (2, 0, 0, [150])), (1, (0, 1, 0, [])), (2, (0, 2, 0, [])), (3, (0, 3, 0, [])), (4, (0, 4, 0, []))], [], [(0, 0), (1, 19), (60, 60), (iLo, iHi), (1, 61)], []), [(0, 1, 0), (0, 2, 0), (0, 3, 0), (0, 4, 0)], (122, [(4, (-2))]), [])]) (by decide) rfl (fun na b => by rw [← ceX7_wetOften]; exact tkX7_wetOften) (List.forall_mem_cons.mpr ⟨vc558 d, List.forall_mem_cons.mpr ⟨vc557 (d + 1), fun _ h => absurd h List.not_mem_nil⟩⟩) (cpyX (d + 2)) (by decide +kernel)
def Kc571 : Con := ((215, [(2, 0, 0, [150])], []), [(150, 0, 0), (150, 11, 11), (160, 0, 4), (161, 0, 24)], [(some (0, 0, 19, []), [], [])])
set_option maxRecDepth 20000 in
theorem vc571 {l : Launch} {X : Nat × (Nat → Int32)} {e : Int} (d : Nat) : Vc l X U0 Pt2 e (d + 4) Kc571 :=
  ck (d := (d + 3)) (Ks := [Kc524, Kc569, Kc535, Kc570]) (cy := 152) (cd := cdX7_wettest) (nl := 5) (fuel := 1000) (Hs := [((29, 0), ([(0, (2, 0, 0, [150])), (1, (0, 1, 0, [])), (2, (0, 2, 0, [])), (3, (0, 3, 0, []))], [], [(0, 0), (0, 19), (iLo, iHi), (1, 20)], []), [(0, 1, 0), (0, 2, 0), (0, 3, 0)], (40, [(3, (-2))]), [])]) (by decide) rfl (fun na b => by rw [← ceX7_wettest]; exact tkX7_wettest) (List.forall_mem_cons.mpr ⟨vc524 (d + 3), List.forall_mem_cons.mpr ⟨vc569 d, List.forall_mem_cons.mpr ⟨vc535 (d + 3), List.forall_mem_cons.mpr ⟨vc570 d, fun _ h => absurd h List.not_mem_nil⟩⟩⟩⟩) (cpyX (d + 3)) (by decide +kernel)
def Kc572 : Con := ((216, [(2, 0, 0, [150])], []), [(150, 0, 0), (150, 11, 11), (160, 0, 4), (161, 0, 24)], [(some (0, (-2), (-2), []), [], []), (some (0, 1, 60, []), [], [])])
set_option maxRecDepth 20000 in
theorem vc572 {l : Launch} {X : Nat × (Nat → Int32)} {e : Int} (d : Nat) : Vc l X U0 Pt2 e (d + 3) Kc572 :=
  ck (d := (d + 2)) (Ks := [Kc524, Kc558, Kc557]) (cy := 152) (cd := cdX7_sunny) (nl := 2) (fuel := 1000) (Hs := [((24, 0), ([(0, (2, 0, 0, [150])), (1, (0, 1, 0, []))], [], [(0, 0), (1, 61)], []), [(0, 1, 0)], (122, [(1, (-2))]), [])]) (by decide) rfl (fun na b => by rw [← ceX7_sunny]; exact tkX7_sunny) (List.forall_mem_cons.mpr ⟨vc524 (d + 2), List.forall_mem_cons.mpr ⟨vc558 d, List.forall_mem_cons.mpr ⟨vc557 (d + 1), fun _ h => absurd h List.not_mem_nil⟩⟩⟩) (cpyX (d + 2)) (by decide +kernel)
def Kc573 : Con := ((217, [(2, 0, 0, [150])], []), [(150, 0, 0), (150, 11, 11), (160, 0, 4), (161, 0, 24)], [(some (0, iLo, iHi, []), [], [])])
set_option maxRecDepth 20000 in
theorem vc573 {l : Launch} {X : Nat × (Nat → Int32)} {e : Int} (d : Nat) : Vc l X U0 Pt2 e (d + 3) Kc573 :=
  ck (d := (d + 2)) (Ks := [Kc524, Kc558, Kc557]) (cy := 152) (cd := cdX7_heaviest) (nl := 4) (fuel := 1000) (Hs := [((26, 0), ([(0, (2, 0, 0, [150])), (1, (0, 1, 0, [])), (2, (0, 2, 0, []))], [], [(0, 0), (iLo, iHi), (1, 61)], []), [(0, 1, 0), (0, 2, 0)], (1486, [(2, (-24))]), []), ((43, 0), ([(0, (2, 0, 0, [150])), (1, (0, 1, 0, [])), (2, (0, 2, 0, [])), (3, (0, 3, 0, []))], [], [(0, 0), (iLo, iHi), (1, 60), (0, 6)], []), [(0, 1, 0), (0, 2, 0), (0, 3, 0)], (1482, [(2, (-24)), (3, (-3))]), [])]) (by decide) rfl (fun na b => by rw [← ceX7_heaviest]; exact tkX7_heaviest) (List.forall_mem_cons.mpr ⟨vc524 (d + 2), List.forall_mem_cons.mpr ⟨vc558 d, List.forall_mem_cons.mpr ⟨vc557 (d + 1), fun _ h => absurd h List.not_mem_nil⟩⟩⟩) (cpyX (d + 2)) (by decide +kernel)
def Kc574 : Con := ((196, [(2, 0, 0, [150]), (2, 0, 0, [161])], []), [], [(some (0, iLo, iHi, []), [], [])])
set_option maxRecDepth 20000 in
theorem vc574 {l : Launch} {X : Nat × (Nat → Int32)} {e : Int} (d : Nat) : Vc l X U0 Pt2 e d Kc574 :=
  ck (d := d) (Ks := []) (cy := 152) (cd := cdX7_fallenOn) (nl := 4) (fuel := 1000) (Hs := [((4, 0), ([(0, (2, 0, 0, [150])), (1, (2, 0, 0, [161])), (2, (0, 1, 0, [])), (3, (0, 2, 0, []))], [], [(0, 0), (iLo, iHi), (0, 6)], []), [(0, 2, 0), (0, 3, 0)], (12, [(2, (-2))]), [])]) (by decide) rfl (fun na b => by rw [← ceX7_fallenOn]; exact tkX7_fallenOn) (fun _ h => absurd h List.not_mem_nil) (cpyX d) (by decide +kernel)
def Kc575 : Con := ((218, [(2, 0, 0, [150]), (0, iLo, iHi, [])], []), [(150, 0, 0), (150, 11, 11), (160, 0, 4), (161, 0, 24)], [(some (0, (-1), (-1), []), [], []), (some (0, iLo, iHi, []), [(1, 0, 60)], [])])
set_option maxRecDepth 20000 in
theorem vc575 {l : Launch} {X : Nat × (Nat → Int32)} {e : Int} (d : Nat) : Vc l X U0 Pt2 e (d + 3) Kc575 :=
  ck (d := (d + 2)) (Ks := [Kc524, Kc554, Kc527, Kc558, Kc574]) (cy := 152) (cd := cdX7_fallen) (nl := 3) (fuel := 1000) (Hs := []) (by decide) rfl (fun na b => by rw [← ceX7_fallen]; exact tkX7_fallen) (List.forall_mem_cons.mpr ⟨vc524 (d + 2), List.forall_mem_cons.mpr ⟨vc554 (d + 1), List.forall_mem_cons.mpr ⟨vc527 (d + 2), List.forall_mem_cons.mpr ⟨vc558 d, List.forall_mem_cons.mpr ⟨vc574 (d + 2), fun _ h => absurd h List.not_mem_nil⟩⟩⟩⟩⟩) (cpyX (d + 2)) (by decide +kernel)
def Kc576 : Con := ((149, [(0, iLo, iHi, []), (0, 1, 1, []), (0, 30, 30, [])], []), [], [(some (0, 0, 0, []), [], []), (some (0, 1, 1, []), [(0, 1, 30)], [])])
set_option maxRecDepth 20000 in
theorem vc576 {l : Launch} {X : Nat × (Nat → Int32)} {e : Int} (d : Nat) : Vc l X U0 Pt2 e d Kc576 :=
  ck (d := d) (Ks := []) (cy := 152) (cd := cdX7_in) (nl := 3) (fuel := 1000) (Hs := []) (by decide) rfl (fun na b => by rw [← ceX7_in]; exact tkX7_in) (fun _ h => absurd h List.not_mem_nil) (cpyX d) (by decide +kernel)
def Kc577 : Con := ((222, [(2, 0, 0, [150]), (0, 0, 0, []), (0, iLo, iHi, [])], []), [], [(some (0, 1, 1, []), [], [])])
set_option maxRecDepth 20000 in
theorem vc577 {l : Launch} {X : Nat × (Nat → Int32)} {e : Int} (d : Nat) : Vc l X U0 Pt2 e (d + 1) Kc577 :=
  ck (d := d) (Ks := [Kc576, Kc549, Kc550]) (cy := 152) (cd := cdX7_planWhy) (nl := 3) (fuel := 1000) (Hs := []) (by decide) rfl (fun na b => by rw [← ceX7_planWhy]; exact tkX7_planWhy) (List.forall_mem_cons.mpr ⟨vc576 d, List.forall_mem_cons.mpr ⟨vc549 d, List.forall_mem_cons.mpr ⟨vc550 d, fun _ h => absurd h List.not_mem_nil⟩⟩⟩) (cpyX d) (by decide +kernel)
def Kc578 : Con := ((222, [(2, 0, 0, [150]), (0, 1, 1, []), (0, iLo, iHi, [])], []), [], [(some (0, 2, 2, []), [], []), (some (0, 0, 0, []), [(2, 1, 30)], [])])
set_option maxRecDepth 20000 in
theorem vc578 {l : Launch} {X : Nat × (Nat → Int32)} {e : Int} (d : Nat) : Vc l X U0 Pt2 e (d + 1) Kc578 :=
  ck (d := d) (Ks := [Kc576, Kc552, Kc553]) (cy := 152) (cd := cdX7_planWhy) (nl := 3) (fuel := 1000) (Hs := []) (by decide) rfl (fun na b => by rw [← ceX7_planWhy]; exact tkX7_planWhy) (List.forall_mem_cons.mpr ⟨vc576 d, List.forall_mem_cons.mpr ⟨vc552 d, List.forall_mem_cons.mpr ⟨vc553 d, fun _ h => absurd h List.not_mem_nil⟩⟩⟩) (cpyX d) (by decide +kernel)
def Kc579 : Con := ((221, [(2, 0, 0, [150]), (0, 0, 1, []), (0, 0, 5, [])], []), [], [(some (0, 0, 0, []), [], []), (some (0, 1, 1, []), [], [])])
set_option maxRecDepth 20000 in
theorem vc579 {l : Launch} {X : Nat × (Nat → Int32)} {e : Int} (d : Nat) : Vc l X U0 Pt2 e (d + 1) Kc579 :=
  ck (d := d) (Ks := [Kc529]) (cy := 152) (cd := cdX7_mayHave) (nl := 3) (fuel := 1000) (Hs := []) (by decide) rfl (fun na b => by rw [← ceX7_mayHave]; exact tkX7_mayHave) (List.forall_mem_cons.mpr ⟨vc529 d, fun _ h => absurd h List.not_mem_nil⟩) (cpyX d) (by decide +kernel)
def Kc580 : Con := ((219, [(2, 0, 0, [150])], []), [(162, 0, 1)], [(none, [], [])])
set_option maxRecDepth 20000 in
theorem vc580 {l : Launch} {X : Nat × (Nat → Int32)} {e : Int} (d : Nat) : Vc l X U0 Pt2 e d Kc580 :=
  ck (d := d) (Ks := []) (cy := 152) (cd := cdX7_planAsNow) (nl := 2) (fuel := 1000) (Hs := [((2, 0), ([(0, (2, 0, 0, [150])), (1, (0, 1, 0, []))], [], [(0, 0), (0, 2)], []), [(0, 1, 0)], (4, [(1, (-2))]), [])]) (by decide) rfl (fun na b => by rw [← ceX7_planAsNow]; exact tkX7_planAsNow) (fun _ h => absurd h List.not_mem_nil) (cpyX d) (by decide +kernel)
def Kc581 : Con := ((151, [(0, iLo, iHi, [])], []), [], [(some (0, iLo, iHi, []), [], [])])
set_option maxRecDepth 20000 in
theorem vc581 {l : Launch} {X : Nat × (Nat → Int32)} {e : Int} (d : Nat) : Vc l X U0 Pt2 e d Kc581 :=
  ck (d := d) (Ks := []) (cy := 152) (cd := cdX7_ones) (nl := 3) (fuel := 1000) (Hs := [((4, 0), ([(0, (0, 1, 0, [])), (1, (0, 2, 0, [])), (2, (0, 3, 0, []))], [], [(0, 0), (iLo, iHi), (iLo, iHi), (0, 8)], []), [(0, 0, 0), (0, 1, 0), (0, 2, 0)], (16, [(3, (-2))]), [])]) (by decide) rfl (fun na b => by rw [← ceX7_ones]; exact tkX7_ones) (fun _ h => absurd h List.not_mem_nil) (cpyX d) (by decide +kernel)
def Kc582 : Con := ((196, [(2, 0, 0, [150]), (2, 0, 0, [157])], []), [], [(some (0, iLo, iHi, []), [], [])])
set_option maxRecDepth 20000 in
theorem vc582 {l : Launch} {X : Nat × (Nat → Int32)} {e : Int} (d : Nat) : Vc l X U0 Pt2 e d Kc582 :=
  ck (d := d) (Ks := []) (cy := 152) (cd := cdX7_fallenOn) (nl := 4) (fuel := 1000) (Hs := [((4, 0), ([(0, (2, 0, 0, [150])), (1, (2, 0, 0, [157])), (2, (0, 1, 0, [])), (3, (0, 2, 0, []))], [], [(0, 0), (iLo, iHi), (0, 6)], []), [(0, 2, 0), (0, 3, 0)], (12, [(2, (-2))]), [])]) (by decide) rfl (fun na b => by rw [← ceX7_fallenOn]; exact tkX7_fallenOn) (fun _ h => absurd h List.not_mem_nil) (cpyX d) (by decide +kernel)
def Kc583 : Con := ((195, [(2, 0, 0, [150]), (2, 0, 0, [161])], []), [], [(some (0, iLo, iHi, []), [], [])])
set_option maxRecDepth 20000 in
theorem vc583 {l : Launch} {X : Nat × (Nat → Int32)} {e : Int} (d : Nat) : Vc l X U0 Pt2 e d Kc583 :=
  ck (d := d) (Ks := []) (cy := 152) (cd := cdX7_letsOf) (nl := 4) (fuel := 1000) (Hs := [((4, 0), ([(0, (2, 0, 0, [150])), (1, (2, 0, 0, [161])), (2, (0, 1, 0, [])), (3, (0, 2, 0, []))], [], [(0, 0), (iLo, iHi), (0, 6)], []), [(0, 2, 0), (0, 3, 0)], (12, [(2, (-2))]), [])]) (by decide) rfl (fun na b => by rw [← ceX7_letsOf]; exact tkX7_letsOf) (fun _ h => absurd h List.not_mem_nil) (cpyX d) (by decide +kernel)
def Kc584 : Con := ((195, [(2, 0, 0, [150]), (2, 0, 0, [157])], []), [], [(some (0, iLo, iHi, []), [], [])])
set_option maxRecDepth 20000 in
theorem vc584 {l : Launch} {X : Nat × (Nat → Int32)} {e : Int} (d : Nat) : Vc l X U0 Pt2 e d Kc584 :=
  ck (d := d) (Ks := []) (cy := 152) (cd := cdX7_letsOf) (nl := 4) (fuel := 1000) (Hs := [((4, 0), ([(0, (2, 0, 0, [150])), (1, (2, 0, 0, [157])), (2, (0, 1, 0, [])), (3, (0, 2, 0, []))], [], [(0, 0), (iLo, iHi), (0, 6)], []), [(0, 2, 0), (0, 3, 0)], (12, [(2, (-2))]), [])]) (by decide) rfl (fun na b => by rw [← ceX7_letsOf]; exact tkX7_letsOf) (fun _ h => absurd h List.not_mem_nil) (cpyX d) (by decide +kernel)
def Kc585 : Con := ((220, [(2, 0, 0, [150]), (0, iLo, iHi, [])], []), [(150, 29, 30), (160, 0, 4), (161, 0, 24)], [(none, [], [])])
set_option maxRecDepth 20000 in
theorem vc585 {l : Launch} {X : Nat × (Nat → Int32)} {e : Int} (d : Nat) : Vc l X U0 Pt2 e (d + 2) Kc585 :=
  ck (d := (d + 1)) (Ks := [Kc555, Kc574, Kc581, Kc582, Kc583, Kc584, Kc557]) (cy := 152) (cd := cdX7_goByPlan) (nl := 3) (fuel := 1000) (Hs := [((22, 0), ([(0, (2, 0, 0, [150])), (1, (0, 1, 0, [])), (2, (0, 2, 0, []))], [], [(0, 0), (iLo, iHi), (0, 2)], []), [(0, 1, 0), (0, 2, 0)], (6442450951, [(2, (-3))]), []), ((55, 0), ([(0, (2, 0, 0, [150])), (1, (0, 1, 0, [])), (2, (0, 2, 0, []))], [], [(0, 0), (iLo, iHi), (0, iHi)], []), [(0, 1, 0), (0, 2, 0)], (6442450941, [(2, (-3))]), [])]) (by decide) rfl (fun na b => by rw [← ceX7_goByPlan]; exact tkX7_goByPlan) (List.forall_mem_cons.mpr ⟨vc555 d, List.forall_mem_cons.mpr ⟨vc574 (d + 1), List.forall_mem_cons.mpr ⟨vc581 (d + 1), List.forall_mem_cons.mpr ⟨vc582 (d + 1), List.forall_mem_cons.mpr ⟨vc583 (d + 1), List.forall_mem_cons.mpr ⟨vc584 (d + 1), List.forall_mem_cons.mpr ⟨vc557 d, fun _ h => absurd h List.not_mem_nil⟩⟩⟩⟩⟩⟩⟩) (cpyX (d + 1)) (by decide +kernel)
def Kc586 : Con := ((223, [(2, 0, 0, [150]), (0, iLo, iHi, []), (0, iLo, iHi, []), (0, iLo, iHi, [])], []), [(150, 0, 0), (150, 11, 11), (150, 29, 30), (160, 0, 4), (161, 0, 24), (162, 0, 1)], [(some (0, (-1), (-1), []), [], []), (some (0, iLo, iHi, []), [(1, 0, 1), (2, 0, 5), (3, 1, 30)], [])])
set_option maxRecDepth 20000 in
theorem vc586 {l : Launch} {X : Nat × (Nat → Int32)} {e : Int} (d : Nat) : Vc l X U0 Pt2 e (d + 3) Kc586 :=
  ck (d := (d + 2)) (Ks := [Kc524, Kc532, Kc577, Kc527, Kc526, Kc578, Kc579, Kc580, Kc585]) (cy := 152) (cd := cdX7_dropsIf) (nl := 5) (fuel := 1000) (Hs := []) (by decide) rfl (fun na b => by rw [← ceX7_dropsIf]; exact tkX7_dropsIf) (List.forall_mem_cons.mpr ⟨vc524 (d + 2), List.forall_mem_cons.mpr ⟨vc532 (d + 1), List.forall_mem_cons.mpr ⟨vc577 (d + 1), List.forall_mem_cons.mpr ⟨vc527 (d + 2), List.forall_mem_cons.mpr ⟨vc526 (d + 1), List.forall_mem_cons.mpr ⟨vc578 (d + 1), List.forall_mem_cons.mpr ⟨vc579 (d + 1), List.forall_mem_cons.mpr ⟨vc580 (d + 2), List.forall_mem_cons.mpr ⟨vc585 d, fun _ h => absurd h List.not_mem_nil⟩⟩⟩⟩⟩⟩⟩⟩⟩) (cpyX (d + 2)) (by decide +kernel)
def Kc587 : Con := ((224, [(2, 0, 0, [150]), (0, iLo, iHi, [])], []), [(150, 29, 32), (160, 0, 4), (161, 0, 24), (163, 0, 4)], [(some (0, 1, 1, []), [], []), (some (0, 0, 0, []), [], [])])
set_option maxRecDepth 20000 in
theorem vc587 {l : Launch} {X : Nat × (Nat → Int32)} {e : Int} (d : Nat) : Vc l X U0 Pt2 e (d + 3) Kc587 :=
  ck (d := (d + 2)) (Ks := [Kc585]) (cy := 152) (cd := cdX7_isBest) (nl := 2) (fuel := 1000) (Hs := []) (by decide) rfl (fun na b => by rw [← ceX7_isBest]; exact tkX7_isBest) (List.forall_mem_cons.mpr ⟨vc585 d, fun _ h => absurd h List.not_mem_nil⟩) (cpyX (d + 2)) (by decide +kernel)
def Kc588 : Con := ((225, [(2, 0, 0, [150]), (0, iLo, iHi, []), (0, iLo, iHi, [])], []), [(150, 0, 0), (150, 11, 11), (150, 29, 32), (160, 0, 4), (161, 0, 24), (162, 0, 1), (163, 0, 4)], [(some (0, (-1), (-1), []), [], []), (some (0, (-2), 5, []), [], [])])
set_option maxRecDepth 20000 in
theorem vc588 {l : Launch} {X : Nat × (Nat → Int32)} {e : Int} (d : Nat) : Vc l X U0 Pt2 e (d + 4) Kc588 :=
  ck (d := (d + 3)) (Ks := [Kc524, Kc532, Kc577, Kc527, Kc578, Kc580, Kc579, Kc587]) (cy := 152) (cd := cdX7_faceFor) (nl := 6) (fuel := 1000) (Hs := [((42, 0), ([(0, (2, 0, 0, [150])), (1, (0, 1, 0, [])), (2, (0, 2, 0, [])), (4, (0, 3, 0, [])), (5, (0, 4, 0, []))], [], [(0, 0), (0, 1), (1, 30), ((-2), 5), (0, 6)], []), [(0, 1, 0), (0, 2, 0), (0, 4, 0), (0, 5, 0)], (12, [(4, (-2))]), [])]) (by decide) rfl (fun na b => by rw [← ceX7_faceFor]; exact tkX7_faceFor) (List.forall_mem_cons.mpr ⟨vc524 (d + 3), List.forall_mem_cons.mpr ⟨vc532 (d + 2), List.forall_mem_cons.mpr ⟨vc577 (d + 2), List.forall_mem_cons.mpr ⟨vc527 (d + 3), List.forall_mem_cons.mpr ⟨vc578 (d + 2), List.forall_mem_cons.mpr ⟨vc580 (d + 3), List.forall_mem_cons.mpr ⟨vc579 (d + 2), List.forall_mem_cons.mpr ⟨vc587 d, fun _ h => absurd h List.not_mem_nil⟩⟩⟩⟩⟩⟩⟩⟩) (cpyX (d + 3)) (by decide +kernel)
def Kc589 : Con := ((226, [(2, 0, 0, [150]), (0, 2, 2, []), (0, iLo, iHi, []), (0, iLo, iHi, [])], []), [(150, 29, 32), (160, 0, 4), (161, 0, 24), (163, 0, 4)], [(none, [], [])])
set_option maxRecDepth 20000 in
theorem vc589 {l : Launch} {X : Nat × (Nat → Int32)} {e : Int} (d : Nat) : Vc l X U0 Pt2 e (d + 4) Kc589 :=
  ck (d := (d + 3)) (Ks := [Kc587]) (cy := 152) (cd := cdX7_tryPlans) (nl := 5) (fuel := 1000) (Hs := []) (by decide) rfl (fun na b => by rw [← ceX7_tryPlans]; exact tkX7_tryPlans) (List.forall_mem_cons.mpr ⟨vc587 d, fun _ h => absurd h List.not_mem_nil⟩) (cpyX (d + 3)) (by decide +kernel)
def Kc590 : Con := ((226, [(2, 0, 0, [150]), (0, 1, 1, []), (0, iLo, iHi, []), (0, iLo, iHi, [])], []), [(150, 29, 32), (160, 0, 4), (161, 0, 24), (162, 1, 1), (163, 0, 4)], [(none, [], [])])
set_option maxRecDepth 20000 in
theorem vc590 {l : Launch} {X : Nat × (Nat → Int32)} {e : Int} (d : Nat) : Vc l X U0 Pt2 e (d + 5) Kc590 :=
  ck (d := (d + 4)) (Ks := [Kc542, Kc589]) (cy := 152) (cd := cdX7_tryPlans) (nl := 5) (fuel := 1000) (Hs := [((20, 0), ([(0, (2, 0, 0, [150])), (1, (0, 1, 0, [])), (2, (0, 2, 0, [])), (3, (0, 3, 0, [])), (4, (0, 4, 0, []))], [], [(0, 0), (1, 1), (iLo, iHi), (iLo, iHi), (0, 6)], []), [(0, 1, 0), (0, 2, 0), (0, 3, 0), (0, 4, 0)], (12, [(4, (-2))]), [])]) (by decide) rfl (fun na b => by rw [← ceX7_tryPlans]; exact tkX7_tryPlans) (List.forall_mem_cons.mpr ⟨vc542 (d + 4), List.forall_mem_cons.mpr ⟨vc589 d, fun _ h => absurd h List.not_mem_nil⟩⟩) (cpyX (d + 4)) (by decide +kernel)
def Kc591 : Con := ((226, [(2, 0, 0, [150]), (0, 0, 0, []), (0, iLo, iHi, []), (0, iLo, iHi, [])], []), [(150, 29, 32), (160, 0, 4), (161, 0, 24), (162, 0, 1), (163, 0, 4)], [(none, [], [])])
set_option maxRecDepth 20000 in
theorem vc591 {l : Launch} {X : Nat × (Nat → Int32)} {e : Int} (d : Nat) : Vc l X U0 Pt2 e (d + 6) Kc591 :=
  ck (d := (d + 5)) (Ks := [Kc542, Kc590]) (cy := 152) (cd := cdX7_tryPlans) (nl := 5) (fuel := 1000) (Hs := [((20, 0), ([(0, (2, 0, 0, [150])), (1, (0, 1, 0, [])), (2, (0, 2, 0, [])), (3, (0, 3, 0, [])), (4, (0, 4, 0, []))], [], [(0, 0), (0, 0), (iLo, iHi), (iLo, iHi), (0, 6)], []), [(0, 1, 0), (0, 2, 0), (0, 3, 0), (0, 4, 0)], (12, [(4, (-2))]), [])]) (by decide) rfl (fun na b => by rw [← ceX7_tryPlans]; exact tkX7_tryPlans) (List.forall_mem_cons.mpr ⟨vc542 (d + 5), List.forall_mem_cons.mpr ⟨vc590 d, fun _ h => absurd h List.not_mem_nil⟩⟩) (cpyX (d + 5)) (by decide +kernel)
def Kc592 : Con := ((227, [(2, 0, 0, [150]), (0, iLo, iHi, [])], []), [(150, 29, 32), (160, 0, 4), (161, 0, 24), (162, 0, 1), (163, 0, 4)], [(none, [], [])])
set_option maxRecDepth 20000 in
theorem vc592 {l : Launch} {X : Nat × (Nat → Int32)} {e : Int} (d : Nat) : Vc l X U0 Pt2 e (d + 7) Kc592 :=
  ck (d := (d + 6)) (Ks := [Kc591]) (cy := 152) (cd := cdX7_seekMatch) (nl := 2) (fuel := 1000) (Hs := []) (by decide) rfl (fun na b => by rw [← ceX7_seekMatch]; exact tkX7_seekMatch) (List.forall_mem_cons.mpr ⟨vc591 d, fun _ h => absurd h List.not_mem_nil⟩) (cpyX (d + 6)) (by decide +kernel)
def Kc593 : Con := ((228, [(2, 0, 0, [150]), (0, iLo, iHi, [])], []), [(150, 0, 0), (150, 11, 11), (150, 29, 32), (160, 0, 4), (161, 0, 24), (162, 0, 1), (163, 0, 4)], [(some (0, (-1), (-1), []), [], []), (some (0, iLo, iHi, []), [(1, 1, 30)], [])])
set_option maxRecDepth 20000 in
theorem vc593 {l : Launch} {X : Nat × (Nat → Int32)} {e : Int} (d : Nat) : Vc l X U0 Pt2 e (d + 8) Kc593 :=
  ck (d := (d + 7)) (Ks := [Kc524, Kc578, Kc527, Kc592]) (cy := 152) (cd := cdX7_match) (nl := 3) (fuel := 1000) (Hs := []) (by decide) rfl (fun na b => by rw [← ceX7_match]; exact tkX7_match) (List.forall_mem_cons.mpr ⟨vc524 (d + 7), List.forall_mem_cons.mpr ⟨vc578 (d + 6), List.forall_mem_cons.mpr ⟨vc527 (d + 7), List.forall_mem_cons.mpr ⟨vc592 d, fun _ h => absurd h List.not_mem_nil⟩⟩⟩⟩) (cpyX (d + 7)) (by decide +kernel)
def Kc594 : Con := ((229, [(2, 0, 0, [150]), (0, iLo, iHi, [])], []), [(150, 0, 0), (150, 11, 11), (150, 29, 32), (160, 0, 4), (161, 0, 24), (162, 0, 1), (163, 0, 4)], [(some (0, (-1), (-1), []), [], []), (some (0, iLo, iHi, []), [(1, 1, 30)], [])])
set_option maxRecDepth 20000 in
theorem vc594 {l : Launch} {X : Nat × (Nat → Int32)} {e : Int} (d : Nat) : Vc l X U0 Pt2 e (d + 8) Kc594 :=
  ck (d := (d + 7)) (Ks := [Kc524, Kc578, Kc527, Kc592]) (cy := 152) (cd := cdX7_matchDrops) (nl := 3) (fuel := 1000) (Hs := []) (by decide) rfl (fun na b => by rw [← ceX7_matchDrops]; exact tkX7_matchDrops) (List.forall_mem_cons.mpr ⟨vc524 (d + 7), List.forall_mem_cons.mpr ⟨vc578 (d + 6), List.forall_mem_cons.mpr ⟨vc527 (d + 7), List.forall_mem_cons.mpr ⟨vc592 d, fun _ h => absurd h List.not_mem_nil⟩⟩⟩⟩) (cpyX (d + 7)) (by decide +kernel)
def Kc595 : Con := ((230, [(2, 0, 0, [150]), (0, iLo, iHi, []), (0, iLo, iHi, [])], []), [(150, 0, 0), (150, 11, 11), (150, 29, 32), (160, 0, 4), (161, 0, 24), (162, 0, 1), (163, 0, 4)], [(some (0, (-1), (-1), []), [], []), (some (0, 0, 5, []), [(1, 0, 1), (2, 1, 30)], [])])
set_option maxRecDepth 20000 in
theorem vc595 {l : Launch} {X : Nat × (Nat → Int32)} {e : Int} (d : Nat) : Vc l X U0 Pt2 e (d + 8) Kc595 :=
  ck (d := (d + 7)) (Ks := [Kc524, Kc532, Kc577, Kc527, Kc578, Kc592]) (cy := 152) (cd := cdX7_matchAt) (nl := 4) (fuel := 1000) (Hs := []) (by decide) rfl (fun na b => by rw [← ceX7_matchAt]; exact tkX7_matchAt) (List.forall_mem_cons.mpr ⟨vc524 (d + 7), List.forall_mem_cons.mpr ⟨vc532 (d + 6), List.forall_mem_cons.mpr ⟨vc577 (d + 6), List.forall_mem_cons.mpr ⟨vc527 (d + 7), List.forall_mem_cons.mpr ⟨vc578 (d + 6), List.forall_mem_cons.mpr ⟨vc592 d, fun _ h => absurd h List.not_mem_nil⟩⟩⟩⟩⟩⟩) (cpyX (d + 7)) (by decide +kernel)
def Kc596 : Con := ((232, [(2, 0, 0, [150]), (0, 0, 19, []), (0, iLo, iHi, [])], []), [(164, 0, 19)], [(none, [], [])])
set_option maxRecDepth 20000 in
theorem vc596 {l : Launch} {X : Nat × (Nat → Int32)} {e : Int} (d : Nat) : Vc l X U0 Pt2 e (d + 4) Kc596 := vh_lay (R := rwt2) rfl rfl rfl d
def Kc597 : Con := ((233, [(2, 0, 0, [150]), (0, 0, 19, []), (0, 0, 19, [])], []), [(164, 0, 19)], [(some (0, iLo, iHi, []), [], []), (some (0, (-2), (-2), []), [], [])])
set_option maxRecDepth 20000 in
theorem vc597 {l : Launch} {X : Nat × (Nat → Int32)} {e : Int} (d : Nat) : Vc l X U0 Pt2 e (d + 5) Kc597 :=
  ck (d := (d + 4)) (Ks := [Kc596]) (cy := 152) (cd := cdX7_stepsOf) (nl := 3) (fuel := 1000) (Hs := []) (by decide) rfl (fun na b => by rw [← ceX7_stepsOf]; exact tkX7_stepsOf) (List.forall_mem_cons.mpr ⟨vc596 d, fun _ h => absurd h List.not_mem_nil⟩) (cpyX (d + 4)) (by decide +kernel)
def Kc598 : Con := ((234, [(2, 0, 0, [150]), (0, iLo, iHi, []), (0, iLo, iHi, [])], []), [(150, 0, 0), (150, 11, 11), (150, 26, 26), (164, 0, 19)], [(some (0, (-1), (-1), []), [], []), (some (0, iLo, iHi, []), [(1, 0, 19), (2, 0, 19)], []), (some (0, (-2), (-2), []), [(1, 0, 19), (2, 0, 19)], [])])
set_option maxRecDepth 20000 in
theorem vc598 {l : Launch} {X : Nat × (Nat → Int32)} {e : Int} (d : Nat) : Vc l X U0 Pt2 e (d + 6) Kc598 :=
  ck (d := (d + 5)) (Ks := [Kc524, Kc537, Kc527, Kc597]) (cy := 152) (cd := cdX7_steps) (nl := 3) (fuel := 1000) (Hs := []) (by decide) rfl (fun na b => by rw [← ceX7_steps]; exact tkX7_steps) (List.forall_mem_cons.mpr ⟨vc524 (d + 5), List.forall_mem_cons.mpr ⟨vc537 (d + 4), List.forall_mem_cons.mpr ⟨vc527 (d + 5), List.forall_mem_cons.mpr ⟨vc597 d, fun _ h => absurd h List.not_mem_nil⟩⟩⟩⟩) (cpyX (d + 5)) (by decide +kernel)
def Kc599 : Con := ((189, [(2, 0, 0, [150]), (0, iLo, iHi, [])], []), [], [(some (0, 0, 0, []), [], []), (some (0, 1, 1, []), [(1, 0, 3)], [])])
set_option maxRecDepth 20000 in
theorem vc599 {l : Launch} {X : Nat × (Nat → Int32)} {e : Int} (d : Nat) : Vc l X U0 Pt2 e (d + 1) Kc599 :=
  ck (d := d) (Ks := [Kc541]) (cy := 152) (cd := cdX7_isWalker) (nl := 2) (fuel := 1000) (Hs := []) (by decide) rfl (fun na b => by rw [← ceX7_isWalker]; exact tkX7_isWalker) (List.forall_mem_cons.mpr ⟨vc541 d, fun _ h => absurd h List.not_mem_nil⟩) (cpyX d) (by decide +kernel)
def Kc600 : Con := ((206, [(2, 0, 0, [150]), (0, 0, 0, []), (0, 1, 1, []), (0, iLo, iHi, [])], []), [], [(some (0, 1, 1, []), [], [])])
set_option maxRecDepth 20000 in
theorem vc600 {l : Launch} {X : Nat × (Nat → Int32)} {e : Int} (d : Nat) : Vc l X U0 Pt2 e (d + 1) Kc600 :=
  ck (d := d) (Ks := [Kc564, Kc549, Kc550]) (cy := 152) (cd := cdX7_aheadWhy) (nl := 4) (fuel := 1000) (Hs := []) (by decide) rfl (fun na b => by rw [← ceX7_aheadWhy]; exact tkX7_aheadWhy) (List.forall_mem_cons.mpr ⟨vc564 d, List.forall_mem_cons.mpr ⟨vc549 d, List.forall_mem_cons.mpr ⟨vc550 d, fun _ h => absurd h List.not_mem_nil⟩⟩⟩) (cpyX d) (by decide +kernel)
def Kc601 : Con := ((235, [(2, 0, 0, [150]), (0, 0, 3, []), (0, 1, 60, [])], []), [(150, 26, 26), (160, 0, 4), (161, 0, 24), (164, 0, 19)], [(some (0, iLo, iHi, []), [], []), (some (0, (-2), (-2), []), [], [])])
set_option maxRecDepth 20000 in
theorem vc601 {l : Launch} {X : Nat × (Nat → Int32)} {e : Int} (d : Nat) : Vc l X U0 Pt2 e (d + 5) Kc601 :=
  ck (d := (d + 4)) (Ks := [Kc558, Kc596]) (cy := 152) (cd := cdX7_wayOf) (nl := 4) (fuel := 1000) (Hs := []) (by decide) rfl (fun na b => by rw [← ceX7_wayOf]; exact tkX7_wayOf) (List.forall_mem_cons.mpr ⟨vc558 (d + 2), List.forall_mem_cons.mpr ⟨vc596 d, fun _ h => absurd h List.not_mem_nil⟩⟩) (cpyX (d + 4)) (by decide +kernel)
def Kc602 : Con := ((236, [(2, 0, 0, [150]), (0, iLo, iHi, []), (0, iLo, iHi, [])], []), [(150, 0, 0), (150, 11, 11), (150, 26, 26), (160, 0, 4), (161, 0, 24), (164, 0, 19)], [(some (0, (-1), (-1), []), [], []), (some (0, 0, iHi, []), [(1, 0, 3), (2, 1, 60)], []), (some (0, (-2), (-2), []), [(1, 0, 3), (2, 1, 60)], [])])
set_option maxRecDepth 20000 in
theorem vc602 {l : Launch} {X : Nat × (Nat → Int32)} {e : Int} (d : Nat) : Vc l X U0 Pt2 e (d + 6) Kc602 :=
  ck (d := (d + 5)) (Ks := [Kc524, Kc599, Kc600, Kc527, Kc565, Kc601]) (cy := 152) (cd := cdX7_wets) (nl := 5) (fuel := 1000) (Hs := []) (by decide) rfl (fun na b => by rw [← ceX7_wets]; exact tkX7_wets) (List.forall_mem_cons.mpr ⟨vc524 (d + 5), List.forall_mem_cons.mpr ⟨vc599 (d + 4), List.forall_mem_cons.mpr ⟨vc600 (d + 4), List.forall_mem_cons.mpr ⟨vc527 (d + 5), List.forall_mem_cons.mpr ⟨vc565 (d + 4), List.forall_mem_cons.mpr ⟨vc601 d, fun _ h => absurd h List.not_mem_nil⟩⟩⟩⟩⟩⟩) (cpyX (d + 5)) (by decide +kernel)
def Kc603 : Con := ((237, [(2, 0, 0, [150]), (0, iLo, iHi, []), (0, iLo, iHi, [])], []), [(150, 0, 0), (150, 11, 11), (150, 26, 26), (160, 0, 4), (161, 0, 24), (164, 0, 19)], [(some (0, (-1), (-1), []), [], []), (some (0, 0, 999, []), [(1, 0, 3), (2, 1, 60)], []), (some (0, (-2), (-2), []), [(1, 0, 3), (2, 1, 60)], [])])
set_option maxRecDepth 20000 in
theorem vc603 {l : Launch} {X : Nat × (Nat → Int32)} {e : Int} (d : Nat) : Vc l X U0 Pt2 e (d + 6) Kc603 :=
  ck (d := (d + 5)) (Ks := [Kc524, Kc599, Kc600, Kc527, Kc565, Kc601]) (cy := 152) (cd := cdX7_way) (nl := 5) (fuel := 1000) (Hs := []) (by decide) rfl (fun na b => by rw [← ceX7_way]; exact tkX7_way) (List.forall_mem_cons.mpr ⟨vc524 (d + 5), List.forall_mem_cons.mpr ⟨vc599 (d + 4), List.forall_mem_cons.mpr ⟨vc600 (d + 4), List.forall_mem_cons.mpr ⟨vc527 (d + 5), List.forall_mem_cons.mpr ⟨vc565 (d + 4), List.forall_mem_cons.mpr ⟨vc601 d, fun _ h => absurd h List.not_mem_nil⟩⟩⟩⟩⟩⟩) (cpyX (d + 5)) (by decide +kernel)
def Kc604 : Con := ((239, [(2, 0, 0, [150]), (0, iLo, iHi, [])], []), [(150, 0, 0), (150, 11, 11), (150, 26, 26), (160, 0, 4), (161, 0, 24), (164, 0, 19)], [(some (0, (-1), (-1), []), [], []), (some (0, (-2), (-2), []), [], []), (some (0, 1, 60, []), [], [])])
set_option maxRecDepth 20000 in
theorem vc604 {l : Launch} {X : Nat × (Nat → Int32)} {e : Int} (d : Nat) : Vc l X U0 Pt2 e (d + 6) Kc604 :=
  ck (d := (d + 5)) (Ks := [Kc524, Kc599, Kc527, Kc601]) (cy := 152) (cd := cdX7_dryDay) (nl := 4) (fuel := 1000) (Hs := [((20, 0), ([(0, (2, 0, 0, [150])), (1, (0, 1, 0, [])), (2, (0, 2, 0, []))], [], [(0, 0), (0, 3), (1, 61)], []), [(0, 1, 0), (0, 2, 0)], (122, [(2, (-2))]), [])]) (by decide) rfl (fun na b => by rw [← ceX7_dryDay]; exact tkX7_dryDay) (List.forall_mem_cons.mpr ⟨vc524 (d + 5), List.forall_mem_cons.mpr ⟨vc599 (d + 4), List.forall_mem_cons.mpr ⟨vc527 (d + 5), List.forall_mem_cons.mpr ⟨vc601 d, fun _ h => absurd h List.not_mem_nil⟩⟩⟩⟩) (cpyX (d + 5)) (by decide +kernel)
def Kc605 : Con := ((240, [(2, 0, 0, [150])], []), [(164, 0, 19)], [(some (0, iLo, iHi, []), [], [])])
set_option maxRecDepth 20000 in
theorem vc605 {l : Launch} {X : Nat × (Nat → Int32)} {e : Int} (d : Nat) : Vc l X U0 Pt2 e (d + 6) Kc605 :=
  ck (d := (d + 5)) (Ks := [Kc597]) (cy := 152) (cd := cdX7_allSteps) (nl := 4) (fuel := 1000) (Hs := [((4, 0), ([(0, (2, 0, 0, [150])), (1, (0, 1, 0, [])), (2, (0, 2, 0, []))], [], [(0, 0), (iLo, iHi), (0, 4)], []), [(0, 1, 0), (0, 2, 0)], (8, [(2, (-2))]), [])]) (by decide) rfl (fun na b => by rw [← ceX7_allSteps]; exact tkX7_allSteps) (List.forall_mem_cons.mpr ⟨vc597 d, fun _ h => absurd h List.not_mem_nil⟩) (cpyX (d + 5)) (by decide +kernel)
def Kc606 : Con := ((241, [(2, 0, 0, [150])], []), [(150, 0, 0), (150, 11, 11), (150, 26, 26), (164, 0, 19)], [(some (0, (-2), 19, []), [], [])])
set_option maxRecDepth 20000 in
theorem vc606 {l : Launch} {X : Nat × (Nat → Int32)} {e : Int} (d : Nat) : Vc l X U0 Pt2 e (d + 7) Kc606 :=
  ck (d := (d + 6)) (Ks := [Kc524, Kc535, Kc542, Kc605]) (cy := 152) (cd := cdX7_gate) (nl := 5) (fuel := 1000) (Hs := [((26, 0), ([(0, (2, 0, 0, [150])), (1, (0, 1, 0, [])), (2, (0, 2, 0, [])), (3, (0, 3, 0, []))], [], [(0, 0), ((-2), 19), (iLo, 100000000), (0, 20)], []), [(0, 1, 0), (0, 2, 0), (0, 3, 0)], (40, [(3, (-2))]), [])]) (by decide) rfl (fun na b => by rw [← ceX7_gate]; exact tkX7_gate) (List.forall_mem_cons.mpr ⟨vc524 (d + 6), List.forall_mem_cons.mpr ⟨vc535 (d + 6), List.forall_mem_cons.mpr ⟨vc542 (d + 6), List.forall_mem_cons.mpr ⟨vc605 d, fun _ h => absurd h List.not_mem_nil⟩⟩⟩⟩) (cpyX (d + 6)) (by decide +kernel)
def Kc607 : Con := ((242, [(2, 0, 0, [150]), (0, iLo, iHi, [])], []), [(160, 0, 4), (161, 0, 24), (165, 0, 5)], [(some (0, (-2), (-2), []), [], []), (some (0, 0, 5, []), [], [])])
set_option maxRecDepth 20000 in
theorem vc607 {l : Launch} {X : Nat × (Nat → Int32)} {e : Int} (d : Nat) : Vc l X U0 Pt2 e (d + 2) Kc607 :=
  ck (d := (d + 1)) (Ks := [Kc555, Kc557]) (cy := 152) (cd := cdX7_wrongBy) (nl := 4) (fuel := 1000) (Hs := [((22, 0), ([(0, (2, 0, 0, [150])), (2, (0, 1, 0, []))], [], [(0, 0), (0, 6)], []), [(0, 2, 0)], (1708, [(1, (-5))]), []), ((43, 0), ([(0, (2, 0, 0, [150])), (2, (0, 1, 0, []))], [], [(0, 0), (1, 41)], []), [(0, 2, 0)], (1712, [(1, (-40))]), []), ((60, 0), ([(0, (2, 0, 0, [150])), (2, (0, 1, 0, [])), (3, (0, 2, 0, []))], [], [(0, 0), (1, 40), (0, 6)], []), [(0, 2, 0), (0, 3, 0)], (1706, [(1, (-40)), (2, (-5))]), []), ((112, 0), ([(0, (2, 0, 0, [150])), (2, (0, 1, 0, []))], [], [(0, 0), (0, 6)], []), [(0, 2, 0)], (30, [(1, (-5))]), [])]) (by decide) rfl (fun na b => by rw [← ceX7_wrongBy]; exact tkX7_wrongBy) (List.forall_mem_cons.mpr ⟨vc555 d, List.forall_mem_cons.mpr ⟨vc557 d, fun _ h => absurd h List.not_mem_nil⟩⟩) (cpyX (d + 1)) (by decide +kernel)
def Kc608 : Con := ((243, [(2, 0, 0, [150]), (0, iLo, iHi, [])], []), [(150, 36, 38), (160, 0, 4), (161, 0, 24), (165, 0, 5), (166, 0, 3)], [(some (0, (-1), 15, []), [], [])])
set_option maxRecDepth 20000 in
theorem vc608 {l : Launch} {X : Nat × (Nat → Int32)} {e : Int} (d : Nat) : Vc l X U0 Pt2 e (d + 3) Kc608 :=
  ck (d := (d + 2)) (Ks := [Kc607]) (cy := 152) (cd := cdX7_seekSets) (nl := 5) (fuel := 1000) (Hs := [((29, 0), ([(0, (2, 0, 0, [150])), (1, (0, 1, 0, [])), (2, (0, 0, (-1), [])), (3, (0, 2, 0, []))], [], [(0, 0), (iLo, iHi), (0, 4), (0, 15)], [(150, 36, (0, 0, 0, [])), (150, 37, (0, 0, 0, [])), (150, 38, (0, 3, 0, []))]), [(0, 1, 0), (0, 3, 0), (2, 150, 38)], (426, [(2, (-4))]), []), ((49, 0), ([(0, (2, 0, 0, [150])), (1, (0, 1, 0, [])), (2, (0, 2, 0, [])), (3, (0, 3, 0, []))], [], [(0, 0), (iLo, iHi), ((-1), 15), (0, 16), (iLo, iHi), (iLo, iHi), (0, 15)], [(150, 36, (0, 4, 0, [])), (150, 37, (0, 5, 0, [])), (150, 38, (0, 6, 0, []))]), [(0, 1, 0), (0, 2, 0), (0, 3, 0), (2, 150, 36), (2, 150, 37), (2, 150, 38)], (405, [(3, (-24))]), []), ((118, 0), ([(0, (2, 0, 0, [150])), (1, (0, 1, 0, [])), (2, (0, 2, 0, [])), (3, (0, 3, 0, [])), (4, (0, 4, 0, []))], [], [(0, 0), (iLo, iHi), ((-1), 15), (0, 15), (0, 4), (iLo, iHi), (iLo, iHi), (0, 15)], [(150, 36, (0, 5, 0, [])), (150, 37, (0, 6, 0, [])), (150, 38, (0, 7, 0, []))]), [(0, 1, 0), (0, 2, 0), (0, 3, 0), (0, 4, 0), (2, 150, 36), (2, 150, 37), (2, 150, 38)], (400, [(3, (-24)), (4, (-4))]), [])]) (by decide) rfl (fun na b => by rw [← ceX7_seekSets]; exact tkX7_seekSets) (List.forall_mem_cons.mpr ⟨vc607 d, fun _ h => absurd h List.not_mem_nil⟩) (cpyX (d + 2)) (by decide +kernel)
def Kc609 : Con := ((244, [(2, 0, 0, [150])], []), [(150, 0, 0), (150, 11, 11), (150, 36, 38), (160, 0, 4), (161, 0, 24), (165, 0, 5), (166, 0, 3)], [(some (0, iLo, iHi, []), [], [])])
set_option maxRecDepth 20000 in
theorem vc609 {l : Launch} {X : Nat × (Nat → Int32)} {e : Int} (d : Nat) : Vc l X U0 Pt2 e (d + 4) Kc609 :=
  ck (d := (d + 3)) (Ks := [Kc524, Kc608]) (cy := 152) (cd := cdX7_fits) (nl := 1) (fuel := 1000) (Hs := []) (by decide) rfl (fun na b => by rw [← ceX7_fits]; exact tkX7_fits) (List.forall_mem_cons.mpr ⟨vc524 (d + 3), List.forall_mem_cons.mpr ⟨vc608 d, fun _ h => absurd h List.not_mem_nil⟩⟩) (cpyX (d + 3)) (by decide +kernel)
def Kc610 : Con := ((245, [(2, 0, 0, [150]), (0, iLo, iHi, [])], []), [(150, 0, 0), (150, 11, 11), (150, 36, 38), (160, 0, 4), (161, 0, 24), (165, 0, 5), (166, 0, 3)], [(some (0, 0, 15, []), [(1, 0, iHi)], []), (some (0, (-1), (-1), []), [], [])])
set_option maxRecDepth 20000 in
theorem vc610 {l : Launch} {X : Nat × (Nat → Int32)} {e : Int} (d : Nat) : Vc l X U0 Pt2 e (d + 4) Kc610 :=
  ck (d := (d + 3)) (Ks := [Kc524, Kc608, Kc527]) (cy := 152) (cd := cdX7_fitAt) (nl := 3) (fuel := 1000) (Hs := []) (by decide) rfl (fun na b => by rw [← ceX7_fitAt]; exact tkX7_fitAt) (List.forall_mem_cons.mpr ⟨vc524 (d + 3), List.forall_mem_cons.mpr ⟨vc608 d, List.forall_mem_cons.mpr ⟨vc527 (d + 3), fun _ h => absurd h List.not_mem_nil⟩⟩⟩) (cpyX (d + 3)) (by decide +kernel)
def Kc611 : Con := ((246, [(2, 0, 0, [150])], []), [(150, 0, 0), (150, 11, 11), (150, 36, 38), (160, 0, 4), (161, 0, 24), (165, 0, 5), (166, 0, 3)], [(some (0, iLo, iHi, []), [], [])])
set_option maxRecDepth 20000 in
theorem vc611 {l : Launch} {X : Nat × (Nat → Int32)} {e : Int} (d : Nat) : Vc l X U0 Pt2 e (d + 4) Kc611 :=
  ck (d := (d + 3)) (Ks := [Kc524, Kc608]) (cy := 152) (cd := cdX7_could) (nl := 1) (fuel := 1000) (Hs := []) (by decide) rfl (fun na b => by rw [← ceX7_could]; exact tkX7_could) (List.forall_mem_cons.mpr ⟨vc524 (d + 3), List.forall_mem_cons.mpr ⟨vc608 d, fun _ h => absurd h List.not_mem_nil⟩⟩) (cpyX (d + 3)) (by decide +kernel)
def Kc612 : Con := ((247, [(2, 0, 0, [150])], []), [(150, 0, 0), (150, 11, 11), (150, 36, 38), (160, 0, 4), (161, 0, 24), (165, 0, 5), (166, 0, 3)], [(some (0, iLo, iHi, []), [], [])])
set_option maxRecDepth 20000 in
theorem vc612 {l : Launch} {X : Nat × (Nat → Int32)} {e : Int} (d : Nat) : Vc l X U0 Pt2 e (d + 4) Kc612 :=
  ck (d := (d + 3)) (Ks := [Kc524, Kc608]) (cy := 152) (cd := cdX7_surely) (nl := 1) (fuel := 1000) (Hs := []) (by decide) rfl (fun na b => by rw [← ceX7_surely]; exact tkX7_surely) (List.forall_mem_cons.mpr ⟨vc524 (d + 3), List.forall_mem_cons.mpr ⟨vc608 d, fun _ h => absurd h List.not_mem_nil⟩⟩) (cpyX (d + 3)) (by decide +kernel)
def Kc613 : Con := ((248, [(2, 0, 0, [150]), (0, 0, 3, [])], []), [], [(some (0, iLo, iHi, []), [], [])])
set_option maxRecDepth 20000 in
theorem vc613 {l : Launch} {X : Nat × (Nat → Int32)} {e : Int} (d : Nat) : Vc l X U0 Pt2 e d Kc613 :=
  ck (d := d) (Ks := []) (cy := 152) (cd := cdX7_leavesOf) (nl := 2) (fuel := 1000) (Hs := []) (by decide) rfl (fun na b => by rw [← ceX7_leavesOf]; exact tkX7_leavesOf) (fun _ h => absurd h List.not_mem_nil) (cpyX d) (by decide +kernel)
def Kc614 : Con := ((249, [(2, 0, 0, [150])], []), [(150, 36, 38), (160, 0, 4), (161, 0, 24), (165, 0, 5), (166, 0, 3)], [(some (0, (-2), 3, []), [], [])])
set_option maxRecDepth 20000 in
theorem vc614 {l : Launch} {X : Nat × (Nat → Int32)} {e : Int} (d : Nat) : Vc l X U0 Pt2 e (d + 4) Kc614 :=
  ck (d := (d + 3)) (Ks := [Kc608, Kc613]) (cy := 152) (cd := cdX7_askOf) (nl := 3) (fuel := 1000) (Hs := [((11, 0), ([(0, (2, 0, 0, [150])), (1, (0, 1, 0, [])), (2, (0, 2, 0, []))], [], [(0, 0), ((-2), 3), (0, 4)], []), [(0, 1, 0), (0, 2, 0)], (8, [(2, (-2))]), [])]) (by decide) rfl (fun na b => by rw [← ceX7_askOf]; exact tkX7_askOf) (List.forall_mem_cons.mpr ⟨vc608 d, List.forall_mem_cons.mpr ⟨vc613 (d + 3), fun _ h => absurd h List.not_mem_nil⟩⟩) (cpyX (d + 3)) (by decide +kernel)
def Kc615 : Con := ((250, [(2, 0, 0, [150])], []), [(150, 0, 0), (150, 11, 11), (150, 36, 38), (160, 0, 4), (161, 0, 24), (165, 0, 5), (166, 0, 3)], [(some (0, (-2), 3, []), [], [])])
set_option maxRecDepth 20000 in
theorem vc615 {l : Launch} {X : Nat × (Nat → Int32)} {e : Int} (d : Nat) : Vc l X U0 Pt2 e (d + 5) Kc615 :=
  ck (d := (d + 4)) (Ks := [Kc524, Kc614]) (cy := 152) (cd := cdX7_ask) (nl := 1) (fuel := 1000) (Hs := []) (by decide) rfl (fun na b => by rw [← ceX7_ask]; exact tkX7_ask) (List.forall_mem_cons.mpr ⟨vc524 (d + 4), List.forall_mem_cons.mpr ⟨vc614 d, fun _ h => absurd h List.not_mem_nil⟩⟩) (cpyX (d + 4)) (by decide +kernel)
def Kc616 : Con := ((251, [(2, 0, 0, [150])], []), [(150, 0, 0), (150, 11, 11), (150, 36, 38), (160, 0, 4), (161, 0, 24), (165, 0, 5), (166, 0, 3)], [(some (0, iLo, iHi, []), [], []), (some (0, (-2), (-2), []), [], [])])
set_option maxRecDepth 20000 in
theorem vc616 {l : Launch} {X : Nat × (Nat → Int32)} {e : Int} (d : Nat) : Vc l X U0 Pt2 e (d + 5) Kc616 :=
  ck (d := (d + 4)) (Ks := [Kc524, Kc614, Kc613]) (cy := 152) (cd := cdX7_askLeaves) (nl := 2) (fuel := 1000) (Hs := []) (by decide) rfl (fun na b => by rw [← ceX7_askLeaves]; exact tkX7_askLeaves) (List.forall_mem_cons.mpr ⟨vc524 (d + 4), List.forall_mem_cons.mpr ⟨vc614 d, List.forall_mem_cons.mpr ⟨vc613 (d + 4), fun _ h => absurd h List.not_mem_nil⟩⟩⟩) (cpyX (d + 4)) (by decide +kernel)
def Kc617 : Con := ((252, [(2, 0, 0, [150])], []), [(150, 0, 0), (150, 11, 11), (160, 0, 4), (161, 0, 24), (165, 0, 5)], [(some (0, (-2), (-2), []), [], []), (some (0, 0, 5, []), [], [])])
set_option maxRecDepth 20000 in
theorem vc617 {l : Launch} {X : Nat × (Nat → Int32)} {e : Int} (d : Nat) : Vc l X U0 Pt2 e (d + 3) Kc617 :=
  ck (d := (d + 2)) (Ks := [Kc524, Kc607]) (cy := 152) (cd := cdX7_judge) (nl := 1) (fuel := 1000) (Hs := []) (by decide) rfl (fun na b => by rw [← ceX7_judge]; exact tkX7_judge) (List.forall_mem_cons.mpr ⟨vc524 (d + 2), List.forall_mem_cons.mpr ⟨vc607 d, fun _ h => absurd h List.not_mem_nil⟩⟩) (cpyX (d + 2)) (by decide +kernel)
def Kc618 : Con := ((149, [(0, iLo, iHi, []), (0, 0, 0, []), (0, 9, 9, [])], []), [], [(some (0, 0, 0, []), [], []), (some (0, 1, 1, []), [(0, 0, 9)], [])])
set_option maxRecDepth 20000 in
theorem vc618 {l : Launch} {X : Nat × (Nat → Int32)} {e : Int} (d : Nat) : Vc l X U0 Pt2 e d Kc618 :=
  ck (d := d) (Ks := []) (cy := 152) (cd := cdX7_in) (nl := 3) (fuel := 1000) (Hs := []) (by decide) rfl (fun na b => by rw [← ceX7_in]; exact tkX7_in) (fun _ h => absurd h List.not_mem_nil) (cpyX d) (by decide +kernel)
def Kc619 : Con := ((253, [(0, iLo, iHi, []), (0, iLo, iHi, []), (0, iLo, iHi, [])], []), [], [(some (0, iLo, iHi, []), [], [])])
set_option maxRecDepth 20000 in
theorem vc619 {l : Launch} {X : Nat × (Nat → Int32)} {e : Int} (d : Nat) : Vc l X U0 Pt2 e d Kc619 :=
  ck (d := d) (Ks := []) (cy := 152) (cd := cdX7_canonHas) (nl := 3) (fuel := 1000) (Hs := []) (by decide) rfl (fun na b => by rw [← ceX7_canonHas]; exact tkX7_canonHas) (fun _ h => absurd h List.not_mem_nil) (cpyX d) (by decide +kernel)
def Kc620 : Con := ((254, [(0, iLo, iHi, []), (0, iLo, iHi, [])], []), [], [(some (0, 0, 3, []), [], [])])
set_option maxRecDepth 20000 in
theorem vc620 {l : Launch} {X : Nat × (Nat → Int32)} {e : Int} (d : Nat) : Vc l X U0 Pt2 e d Kc620 :=
  ck (d := d) (Ks := []) (cy := 152) (cd := cdX7_breadHas) (nl := 2) (fuel := 1000) (Hs := []) (by decide) rfl (fun na b => by rw [← ceX7_breadHas]; exact tkX7_breadHas) (fun _ h => absurd h List.not_mem_nil) (cpyX d) (by decide +kernel)
def Kc621 : Con := ((255, [(2, 0, 0, [150]), (0, iLo, iHi, []), (0, iLo, iHi, []), (0, iLo, iHi, []), (0, iLo, iHi, [])], []), [(150, 0, 0), (150, 11, 11)], [(some (0, (-100), (-100), []), [], []), (some (0, iLo, iHi, []), [(1, 0, 9)], [])])
set_option maxRecDepth 20000 in
theorem vc621 {l : Launch} {X : Nat × (Nat → Int32)} {e : Int} (d : Nat) : Vc l X U0 Pt2 e (d + 1) Kc621 :=
  ck (d := d) (Ks := [Kc524, Kc618, Kc552, Kc553, Kc619, Kc620]) (cy := 152) (cd := cdX7_sulks) (nl := 6) (fuel := 1000) (Hs := []) (by decide) rfl (fun na b => by rw [← ceX7_sulks]; exact tkX7_sulks) (List.forall_mem_cons.mpr ⟨vc524 d, List.forall_mem_cons.mpr ⟨vc618 d, List.forall_mem_cons.mpr ⟨vc552 d, List.forall_mem_cons.mpr ⟨vc553 d, List.forall_mem_cons.mpr ⟨vc619 d, List.forall_mem_cons.mpr ⟨vc620 d, fun _ h => absurd h List.not_mem_nil⟩⟩⟩⟩⟩⟩) (cpyX d) (by decide +kernel)
def Kc622 : Con := ((256, [(2, 0, 0, [150]), (0, iLo, iHi, [])], []), [(150, 39, 39)], [(some (0, iLo, iHi, []), [], [])])
set_option maxRecDepth 20000 in
theorem vc622 {l : Launch} {X : Nat × (Nat → Int32)} {e : Int} (d : Nat) : Vc l X U0 Pt2 e (d + 1) Kc622 :=
  ck (d := d) (Ks := [Kc619, Kc620]) (cy := 152) (cd := cdX7_seekRests) (nl := 6) (fuel := 1000) (Hs := [((10, 0), ([(0, (2, 0, 0, [150])), (1, (0, 1, 0, [])), (2, (0, 2, 0, [])), (3, (0, 3, 0, []))], [], [(0, 0), (iLo, iHi), (iLo, iHi), (0, 4), ((-2), 31)], [(150, 39, (0, 4, 0, []))]), [(0, 1, 0), (0, 2, 0), (0, 3, 0), (2, 150, 39)], (8, [(3, (-2))]), [])]) (by decide) rfl (fun na b => by rw [← ceX7_seekRests]; exact tkX7_seekRests) (List.forall_mem_cons.mpr ⟨vc619 d, List.forall_mem_cons.mpr ⟨vc620 d, fun _ h => absurd h List.not_mem_nil⟩⟩) (cpyX d) (by decide +kernel)
def Kc623 : Con := ((257, [(2, 0, 0, [150]), (0, iLo, iHi, [])], []), [(150, 0, 0), (150, 11, 11), (150, 39, 39)], [(some (0, (-1), (-1), []), [], []), (some (0, iLo, iHi, []), [(1, 0, 9)], [])])
set_option maxRecDepth 20000 in
theorem vc623 {l : Launch} {X : Nat × (Nat → Int32)} {e : Int} (d : Nat) : Vc l X U0 Pt2 e (d + 2) Kc623 :=
  ck (d := (d + 1)) (Ks := [Kc524, Kc618, Kc552, Kc527, Kc553, Kc622]) (cy := 152) (cd := cdX7_rests) (nl := 3) (fuel := 1000) (Hs := []) (by decide) rfl (fun na b => by rw [← ceX7_rests]; exact tkX7_rests) (List.forall_mem_cons.mpr ⟨vc524 (d + 1), List.forall_mem_cons.mpr ⟨vc618 (d + 1), List.forall_mem_cons.mpr ⟨vc552 (d + 1), List.forall_mem_cons.mpr ⟨vc527 (d + 1), List.forall_mem_cons.mpr ⟨vc553 (d + 1), List.forall_mem_cons.mpr ⟨vc622 d, fun _ h => absurd h List.not_mem_nil⟩⟩⟩⟩⟩⟩) (cpyX (d + 1)) (by decide +kernel)
def Kc624 : Con := ((258, [(2, 0, 0, [150]), (0, iLo, iHi, [])], []), [(150, 0, 0), (150, 11, 11), (150, 39, 39)], [(some (0, (-1), (-1), []), [], []), (some (0, iLo, iHi, []), [(1, 0, 9)], [])])
set_option maxRecDepth 20000 in
theorem vc624 {l : Launch} {X : Nat × (Nat → Int32)} {e : Int} (d : Nat) : Vc l X U0 Pt2 e (d + 2) Kc624 :=
  ck (d := (d + 1)) (Ks := [Kc524, Kc618, Kc552, Kc527, Kc553, Kc622]) (cy := 152) (cd := cdX7_rest) (nl := 3) (fuel := 1000) (Hs := []) (by decide) rfl (fun na b => by rw [← ceX7_rest]; exact tkX7_rest) (List.forall_mem_cons.mpr ⟨vc524 (d + 1), List.forall_mem_cons.mpr ⟨vc618 (d + 1), List.forall_mem_cons.mpr ⟨vc552 (d + 1), List.forall_mem_cons.mpr ⟨vc527 (d + 1), List.forall_mem_cons.mpr ⟨vc553 (d + 1), List.forall_mem_cons.mpr ⟨vc622 d, fun _ h => absurd h List.not_mem_nil⟩⟩⟩⟩⟩⟩) (cpyX (d + 1)) (by decide +kernel)
def Kc625 : Con := ((149, [(0, iLo, iHi, []), (0, 0, 0, []), (0, 7, 7, [])], []), [], [(some (0, 0, 0, []), [], []), (some (0, 1, 1, []), [(0, 0, 7)], [])])
set_option maxRecDepth 20000 in
theorem vc625 {l : Launch} {X : Nat × (Nat → Int32)} {e : Int} (d : Nat) : Vc l X U0 Pt2 e d Kc625 :=
  ck (d := d) (Ks := []) (cy := 152) (cd := cdX7_in) (nl := 3) (fuel := 1000) (Hs := []) (by decide) rfl (fun na b => by rw [← ceX7_in]; exact tkX7_in) (fun _ h => absurd h List.not_mem_nil) (cpyX d) (by decide +kernel)
def Kc626 : Con := ((259, [(2, 0, 0, [150]), (0, 0, 5, []), (0, 0, 7, [])], []), [(150, 40, 42), (160, 0, 4), (161, 0, 24)], [(none, [], [(150, 40, (1, 1, lHi, []))])])
set_option maxRecDepth 20000 in
theorem vc626 {l : Launch} {X : Nat × (Nat → Int32)} {e : Int} (d : Nat) : Vc l X U0 Pt2 e (d + 6) Kc626 := vh_tryCalms (R := rwt2) rfl d ⟨fun M kr hI he h => vc558 (d + 3) [.ref 150, .int 0] M kr hI he ⟨⟨rfl, List.mem_singleton.mpr rfl⟩, ⟨rfl, by decide, by decide⟩, trivial⟩ (fun f hf => absurd hf List.not_mem_nil) (fun r M' hJ hp => by
  rw [r_none (by decide) hp]
  exact h M' (Jv_tr (Jv.rf hI he) hJ (by decide))), fun b M kr hb hI he h => vc557 (d + 4) [.ref 150, .ref 161, .int b] M kr hI he ⟨⟨rfl, List.mem_singleton.mpr rfl⟩, ⟨rfl, List.mem_singleton.mpr rfl⟩, ⟨rfl, i32_lo _, i32_hi _⟩, trivial⟩ (fun f hf => absurd hf List.not_mem_nil) (fun r M' hJ hp => by
  rw [r_none (by decide) hp]
  exact h M' (Jv_tr (Jv.rf hI he) hJ (by decide)))⟩
def Kc627 : Con := ((153, [(1, lLo, lHi, []), (1, 1, lHi, []), (0, iLo, iHi, [])], []), [], [(some (1, lLo, lHi, []), [], [])])
set_option maxRecDepth 20000 in
theorem vc627 {l : Launch} {X : Nat × (Nat → Int32)} {e : Int} (d : Nat) : Vc l X U0 Pt2 e (d + 0) Kc627 := vh_lowI d
def Kc628 : Con := ((260, [(2, 0, 0, [150]), (0, iLo, iHi, []), (0, iLo, iHi, []), (0, iLo, iHi, [])], []), [(150, 0, 0), (150, 11, 11), (150, 40, 42), (160, 0, 4), (161, 0, 24)], [(some (1, lLo, lHi, []), [], [])])
set_option maxRecDepth 20000 in
theorem vc628 {l : Launch} {X : Nat × (Nat → Int32)} {e : Int} (d : Nat) : Vc l X U0 Pt2 e (d + 7) Kc628 :=
  ck (d := (d + 6)) (Ks := [Kc524, Kc526, Kc625, Kc549, Kc527, Kc550, Kc552, Kc553, Kc626, Kc627]) (cy := 152) (cd := cdX7_odds) (nl := 5) (fuel := 1000) (Hs := []) (by decide) rfl (fun na b => by rw [← ceX7_odds]; exact tkX7_odds) (List.forall_mem_cons.mpr ⟨vc524 (d + 6), List.forall_mem_cons.mpr ⟨vc526 (d + 5), List.forall_mem_cons.mpr ⟨vc625 (d + 6), List.forall_mem_cons.mpr ⟨vc549 (d + 6), List.forall_mem_cons.mpr ⟨vc527 (d + 6), List.forall_mem_cons.mpr ⟨vc550 (d + 6), List.forall_mem_cons.mpr ⟨vc552 (d + 6), List.forall_mem_cons.mpr ⟨vc553 (d + 6), List.forall_mem_cons.mpr ⟨vc626 d, List.forall_mem_cons.mpr ⟨vc627 (d + 6), fun _ h => absurd h List.not_mem_nil⟩⟩⟩⟩⟩⟩⟩⟩⟩⟩) (cpyX (d + 6)) (by decide +kernel)
def Kc629 : Con := ((261, [(2, 0, 0, [150]), (0, iLo, iHi, []), (0, iLo, iHi, []), (0, iLo, iHi, [])], []), [(150, 0, 0), (150, 11, 11), (150, 40, 42), (160, 0, 4), (161, 0, 24)], [(some (1, lLo, lHi, []), [], [])])
set_option maxRecDepth 20000 in
theorem vc629 {l : Launch} {X : Nat × (Nat → Int32)} {e : Int} (d : Nat) : Vc l X U0 Pt2 e (d + 7) Kc629 :=
  ck (d := (d + 6)) (Ks := [Kc524, Kc526, Kc625, Kc549, Kc527, Kc550, Kc552, Kc553, Kc626, Kc627]) (cy := 152) (cd := cdX7_mean) (nl := 5) (fuel := 1000) (Hs := []) (by decide) rfl (fun na b => by rw [← ceX7_mean]; exact tkX7_mean) (List.forall_mem_cons.mpr ⟨vc524 (d + 6), List.forall_mem_cons.mpr ⟨vc526 (d + 5), List.forall_mem_cons.mpr ⟨vc625 (d + 6), List.forall_mem_cons.mpr ⟨vc549 (d + 6), List.forall_mem_cons.mpr ⟨vc527 (d + 6), List.forall_mem_cons.mpr ⟨vc550 (d + 6), List.forall_mem_cons.mpr ⟨vc552 (d + 6), List.forall_mem_cons.mpr ⟨vc553 (d + 6), List.forall_mem_cons.mpr ⟨vc626 d, List.forall_mem_cons.mpr ⟨vc627 (d + 6), fun _ h => absurd h List.not_mem_nil⟩⟩⟩⟩⟩⟩⟩⟩⟩⟩) (cpyX (d + 6)) (by decide +kernel)
def Kc630 : Con := ((149, [(0, iLo, iHi, []), (0, 0, 0, []), (0, 65536, 65536, [])], []), [], [(some (0, 0, 0, []), [], []), (some (0, 1, 1, []), [(0, 0, 65536)], [])])
set_option maxRecDepth 20000 in
theorem vc630 {l : Launch} {X : Nat × (Nat → Int32)} {e : Int} (d : Nat) : Vc l X U0 Pt2 e d Kc630 :=
  ck (d := d) (Ks := []) (cy := 152) (cd := cdX7_in) (nl := 3) (fuel := 1000) (Hs := []) (by decide) rfl (fun na b => by rw [← ceX7_in]; exact tkX7_in) (fun _ h => absurd h List.not_mem_nil) (cpyX d) (by decide +kernel)
def Kc631 : Con := ((262, [(2, 0, 0, [150]), (0, 0, 0, []), (0, iLo, iHi, []), (0, iLo, iHi, [])], []), [], [(some (0, 1, 1, []), [], [])])
set_option maxRecDepth 20000 in
theorem vc631 {l : Launch} {X : Nat × (Nat → Int32)} {e : Int} (d : Nat) : Vc l X U0 Pt2 e (d + 1) Kc631 :=
  ck (d := d) (Ks := [Kc630, Kc549, Kc548, Kc550]) (cy := 152) (cd := cdX7_drawWhy) (nl := 7) (fuel := 1000) (Hs := []) (by decide) rfl (fun na b => by rw [← ceX7_drawWhy]; exact tkX7_drawWhy) (List.forall_mem_cons.mpr ⟨vc630 d, List.forall_mem_cons.mpr ⟨vc549 d, List.forall_mem_cons.mpr ⟨vc548 d, List.forall_mem_cons.mpr ⟨vc550 d, fun _ h => absurd h List.not_mem_nil⟩⟩⟩⟩) (cpyX d) (by decide +kernel)
def Kc632 : Con := ((262, [(2, 0, 0, [150]), (0, 1, 1, []), (0, iLo, iHi, []), (0, iLo, iHi, [])], []), [(150, 43, 43), (160, 0, 4), (161, 0, 24)], [(some (0, 2, 2, []), [], []), (some (0, 0, 0, []), [(2, 0, 65536), (3, 0, 60)], [])])
set_option maxRecDepth 20000 in
theorem vc632 {l : Launch} {X : Nat × (Nat → Int32)} {e : Int} (d : Nat) : Vc l X U0 Pt2 e (d + 3) Kc632 :=
  ck (d := (d + 2)) (Ks := [Kc630, Kc552, Kc548, Kc553, Kc558, Kc557]) (cy := 152) (cd := cdX7_drawWhy) (nl := 7) (fuel := 1000) (Hs := [((58, 0), ([(0, (2, 0, 0, [150])), (3, (0, 1, 0, [])), (5, (0, 2, 0, [])), (6, (0, 3, 0, [])), (1000, (2, 0, 0, [150])), (1001, (0, 4, 0, [])), (1002, (0, 5, 0, [])), (1003, (0, 1, 0, []))], [], [(0, 0), (0, 60), (0, 65536), (1, 61), (1, 1), (0, 65536), ((-2), 60)], [(150, 43, (0, 6, 0, []))]), [(0, 3, 0), (0, 5, 0), (0, 6, 0), (0, 1001, 0), (0, 1002, 0), (2, 150, 43)], (122, [(3, (-2))]), [])]) (by decide) rfl (fun na b => by rw [← ceX7_drawWhy]; exact tkX7_drawWhy) (List.forall_mem_cons.mpr ⟨vc630 (d + 2), List.forall_mem_cons.mpr ⟨vc552 (d + 2), List.forall_mem_cons.mpr ⟨vc548 (d + 2), List.forall_mem_cons.mpr ⟨vc553 (d + 2), List.forall_mem_cons.mpr ⟨vc558 d, List.forall_mem_cons.mpr ⟨vc557 (d + 1), fun _ h => absurd h List.not_mem_nil⟩⟩⟩⟩⟩⟩) (cpyX (d + 2)) (by decide +kernel)
def Kc633 : Con := ((263, [(2, 0, 0, [150]), (0, iLo, iHi, []), (0, iLo, iHi, []), (0, iLo, iHi, [])], []), [(150, 0, 0), (150, 11, 11), (150, 43, 43), (160, 0, 4), (161, 0, 24)], [(some (0, (-1), (-1), []), [], []), (some (0, iLo, iHi, []), [(1, 0, 5), (2, 0, 65536), (3, 0, 60)], [])])
set_option maxRecDepth 20000 in
theorem vc633 {l : Launch} {X : Nat × (Nat → Int32)} {e : Int} (d : Nat) : Vc l X U0 Pt2 e (d + 4) Kc633 :=
  ck (d := (d + 3)) (Ks := [Kc524, Kc526, Kc631, Kc527, Kc632]) (cy := 152) (cd := cdX7_borne) (nl := 5) (fuel := 1000) (Hs := []) (by decide) rfl (fun na b => by rw [← ceX7_borne]; exact tkX7_borne) (List.forall_mem_cons.mpr ⟨vc524 (d + 3), List.forall_mem_cons.mpr ⟨vc526 (d + 2), List.forall_mem_cons.mpr ⟨vc631 (d + 2), List.forall_mem_cons.mpr ⟨vc527 (d + 3), List.forall_mem_cons.mpr ⟨vc632 d, fun _ h => absurd h List.not_mem_nil⟩⟩⟩⟩⟩) (cpyX (d + 3)) (by decide +kernel)
def Kc634 : Con := ((264, [(2, 0, 0, [150]), (0, iLo, iHi, []), (0, iLo, iHi, [])], []), [(150, 0, 0), (150, 11, 11), (150, 43, 43), (160, 0, 4), (161, 0, 24)], [(some (0, (-1), (-1), []), [], []), (some (0, iLo, iHi, []), [(1, 0, 65536), (2, 0, 60)], [])])
set_option maxRecDepth 20000 in
theorem vc634 {l : Launch} {X : Nat × (Nat → Int32)} {e : Int} (d : Nat) : Vc l X U0 Pt2 e (d + 4) Kc634 :=
  ck (d := (d + 3)) (Ks := [Kc524, Kc632, Kc527]) (cy := 152) (cd := cdX7_firstWet) (nl := 4) (fuel := 1000) (Hs := []) (by decide) rfl (fun na b => by rw [← ceX7_firstWet]; exact tkX7_firstWet) (List.forall_mem_cons.mpr ⟨vc524 (d + 3), List.forall_mem_cons.mpr ⟨vc632 d, List.forall_mem_cons.mpr ⟨vc527 (d + 3), fun _ h => absurd h List.not_mem_nil⟩⟩⟩) (cpyX (d + 3)) (by decide +kernel)
def Kc635 : Con := ((265, [(2, 0, 0, [150])], []), [(150, 22, 22), (158, 0, 399)], [(none, [], [])])
set_option maxRecDepth 20000 in
theorem vc635 {l : Launch} {X : Nat × (Nat → Int32)} {e : Int} (d : Nat) : Vc l X U0 Pt2 e (d + 1) Kc635 :=
  ck (d := d) (Ks := []) (cy := 152) (cd := cdX7_note) (nl := 2) (fuel := 1000) (Hs := [((49, 1), ([(0, (2, 0, 0, [150]))], [], [(0, 0), (0, 15)], [(150, 22, (0, 1, 0, []))]), [(2, 150, 22)], (0, []), []), ((11, 1), ([(0, (2, 0, 0, [150])), (1, (0, 1, 0, []))], [], [(0, 0), (0, 375), (16, 16)], [(150, 22, (0, 2, 0, []))]), [(0, 1, 0), (2, 150, 22)], (1126, [(1, (-3))]), [])]) (by decide) rfl (fun na b => by rw [← ceX7_note]; exact tkX7_note) (fun _ h => absurd h List.not_mem_nil) (cpyX d) (by decide +kernel)
def Kc636 : Con := ((192, [(2, 0, 0, [150]), (2, 0, 0, [157]), (0, 0, 5, [])], []), [], [(some (0, iLo, iHi, []), [], [])])
set_option maxRecDepth 20000 in
theorem vc636 {l : Launch} {X : Nat × (Nat → Int32)} {e : Int} (d : Nat) : Vc l X U0 Pt2 e d Kc636 :=
  ck (d := d) (Ks := []) (cy := 152) (cd := cdX7_letsGo) (nl := 6) (fuel := 1000) (Hs := []) (by decide) rfl (fun na b => by rw [← ceX7_letsGo]; exact tkX7_letsGo) (fun _ h => absurd h List.not_mem_nil) (cpyX d) (by decide +kernel)
def Kc637 : Con := ((193, [(2, 0, 0, [150]), (2, 0, 0, [157]), (0, iLo, iHi, [])], []), [(157, 0, 17), (157, 23, 24)], [(none, [], [])])
set_option maxRecDepth 20000 in
theorem vc637 {l : Launch} {X : Nat × (Nat → Int32)} {e : Int} (d : Nat) : Vc l X U0 Pt2 e (d + 1) Kc637 :=
  ck (d := d) (Ks := [Kc636]) (cy := 152) (cd := cdX7_dayOn) (nl := 5) (fuel := 1000) (Hs := [((15, 0), ([(0, (2, 0, 0, [150])), (1, (2, 0, 0, [157])), (2, (0, 1, 0, [])), (3, (0, 2, 0, []))], [], [(0, 0), (iLo, iHi), (0, 2)], []), [(0, 2, 0), (0, 3, 0)], (28, [(2, (-3))]), []), ((89, 0), ([(0, (2, 0, 0, [150])), (1, (2, 0, 0, [157])), (3, (0, 1, 0, []))], [], [(0, 0), (0, 6)], []), [(0, 3, 0)], (18, [(1, (-3))]), [])]) (by decide) rfl (fun na b => by rw [← ceX7_dayOn]; exact tkX7_dayOn) (List.forall_mem_cons.mpr ⟨vc636 d, fun _ h => absurd h List.not_mem_nil⟩) (cpyX d) (by decide +kernel)
def Kc638 : Con := ((266, [(2, 0, 0, [150])], []), [(150, 0, 0), (150, 11, 11), (150, 22, 22), (157, 0, 17), (157, 23, 24), (158, 0, 399), (160, 0, 4)], [(some (0, iLo, iHi, []), [], []), (some (0, (-1), (-1), []), [], [])])
set_option maxRecDepth 20000 in
theorem vc638 {l : Launch} {X : Nat × (Nat → Int32)} {e : Int} (d : Nat) : Vc l X U0 Pt2 e (d + 2) Kc638 :=
  ck (d := (d + 1)) (Ks := [Kc524, Kc635, Kc555, Kc637, Kc527]) (cy := 152) (cd := cdX7_day) (nl := 1) (fuel := 1000) (Hs := []) (by decide) rfl (fun na b => by rw [← ceX7_day]; exact tkX7_day) (List.forall_mem_cons.mpr ⟨vc524 (d + 1), List.forall_mem_cons.mpr ⟨vc635 d, List.forall_mem_cons.mpr ⟨vc555 d, List.forall_mem_cons.mpr ⟨vc637 d, List.forall_mem_cons.mpr ⟨vc527 (d + 1), fun _ h => absurd h List.not_mem_nil⟩⟩⟩⟩⟩) (cpyX (d + 1)) (by decide +kernel)
def Kc639 : Con := ((267, [(2, 0, 0, [150]), (0, iLo, iHi, []), (0, iLo, iHi, [])], []), [(150, 0, 0), (150, 11, 11), (150, 22, 22), (157, 18, 19), (158, 0, 399)], [(some (0, (-1), (-1), []), [], []), (some (0, 0, 5, []), [(1, 0, 1), (2, 0, 5)], [])])
set_option maxRecDepth 20000 in
theorem vc639 {l : Launch} {X : Nat × (Nat → Int32)} {e : Int} (d : Nat) : Vc l X U0 Pt2 e (d + 2) Kc639 :=
  ck (d := (d + 1)) (Ks := [Kc524, Kc532, Kc527, Kc526, Kc529, Kc635]) (cy := 152) (cd := cdX7_give) (nl := 4) (fuel := 1000) (Hs := []) (by decide) rfl (fun na b => by rw [← ceX7_give]; exact tkX7_give) (List.forall_mem_cons.mpr ⟨vc524 (d + 1), List.forall_mem_cons.mpr ⟨vc532 d, List.forall_mem_cons.mpr ⟨vc527 (d + 1), List.forall_mem_cons.mpr ⟨vc526 d, List.forall_mem_cons.mpr ⟨vc529 (d + 1), List.forall_mem_cons.mpr ⟨vc635 d, fun _ h => absurd h List.not_mem_nil⟩⟩⟩⟩⟩⟩) (cpyX (d + 1)) (by decide +kernel)
def Kc640 : Con := ((148, [(2, 0, 0, [150]), (0, iLo, iHi, [])], []), [(150, 11, 11)], [(some (0, 0, 0, []), [], [])])
set_option maxRecDepth 20000 in
theorem vc640 {l : Launch} {X : Nat × (Nat → Int32)} {e : Int} (d : Nat) : Vc l X U0 Pt2 e d Kc640 :=
  ck (d := d) (Ks := []) (cy := 152) (cd := cdX7_isNot) (nl := 2) (fuel := 1000) (Hs := []) (by decide) rfl (fun na b => by rw [← ceX7_isNot]; exact tkX7_isNot) (fun _ h => absurd h List.not_mem_nil) (cpyX d) (by decide +kernel)
def Kc641 : Con := ((268, [(2, 0, 0, [150]), (0, iLo, iHi, [])], []), [(150, 0, 0), (150, 11, 11), (150, 22, 22), (157, 0, 11), (158, 0, 399)], [(some (0, 0, 0, []), [], []), (some (0, 1, 1, []), [(1, 0, 5)], [])])
set_option maxRecDepth 20000 in
theorem vc641 {l : Launch} {X : Nat × (Nat → Int32)} {e : Int} (d : Nat) : Vc l X U0 Pt2 e (d + 2) Kc641 :=
  ck (d := (d + 1)) (Ks := [Kc524, Kc526, Kc640, Kc635]) (cy := 152) (cd := cdX7_mend) (nl := 3) (fuel := 1000) (Hs := []) (by decide) rfl (fun na b => by rw [← ceX7_mend]; exact tkX7_mend) (List.forall_mem_cons.mpr ⟨vc524 (d + 1), List.forall_mem_cons.mpr ⟨vc526 d, List.forall_mem_cons.mpr ⟨vc640 (d + 1), List.forall_mem_cons.mpr ⟨vc635 d, fun _ h => absurd h List.not_mem_nil⟩⟩⟩⟩) (cpyX (d + 1)) (by decide +kernel)
def Kc642 : Con := ((149, [(0, iLo, iHi, []), (0, 1, 1, []), (0, 99, 99, [])], []), [], [(some (0, 0, 0, []), [], []), (some (0, 1, 1, []), [(0, 1, 99)], [])])
set_option maxRecDepth 20000 in
theorem vc642 {l : Launch} {X : Nat × (Nat → Int32)} {e : Int} (d : Nat) : Vc l X U0 Pt2 e d Kc642 :=
  ck (d := d) (Ks := []) (cy := 152) (cd := cdX7_in) (nl := 3) (fuel := 1000) (Hs := []) (by decide) rfl (fun na b => by rw [← ceX7_in]; exact tkX7_in) (fun _ h => absurd h List.not_mem_nil) (cpyX d) (by decide +kernel)
def Kc643 : Con := ((269, [(2, 0, 0, [150]), (0, iLo, iHi, []), (0, iLo, iHi, [])], []), [(150, 0, 0), (150, 11, 11), (150, 22, 22), (157, 6, 11), (158, 0, 399)], [(some (0, (-1), (-1), []), [], []), (some (0, iLo, iHi, []), [(1, 0, 5), (2, 1, 99)], [])])
set_option maxRecDepth 20000 in
theorem vc643 {l : Launch} {X : Nat × (Nat → Int32)} {e : Int} (d : Nat) : Vc l X U0 Pt2 e (d + 2) Kc643 :=
  ck (d := (d + 1)) (Ks := [Kc524, Kc526, Kc642, Kc549, Kc527, Kc550, Kc552, Kc553, Kc635]) (cy := 152) (cd := cdX7_vex) (nl := 4) (fuel := 1000) (Hs := []) (by decide) rfl (fun na b => by rw [← ceX7_vex]; exact tkX7_vex) (List.forall_mem_cons.mpr ⟨vc524 (d + 1), List.forall_mem_cons.mpr ⟨vc526 d, List.forall_mem_cons.mpr ⟨vc642 (d + 1), List.forall_mem_cons.mpr ⟨vc549 (d + 1), List.forall_mem_cons.mpr ⟨vc527 (d + 1), List.forall_mem_cons.mpr ⟨vc550 (d + 1), List.forall_mem_cons.mpr ⟨vc552 (d + 1), List.forall_mem_cons.mpr ⟨vc553 (d + 1), List.forall_mem_cons.mpr ⟨vc635 d, fun _ h => absurd h List.not_mem_nil⟩⟩⟩⟩⟩⟩⟩⟩⟩) (cpyX (d + 1)) (by decide +kernel)
def Kc644 : Con := ((270, [(2, 0, 0, [150])], []), [(150, 0, 0), (150, 11, 11), (150, 22, 22), (157, 0, 24)], [(some (0, 0, 0, []), [], []), (some (0, 1, 1, []), [], [])])
set_option maxRecDepth 20000 in
theorem vc644 {l : Launch} {X : Nat × (Nat → Int32)} {e : Int} (d : Nat) : Vc l X U0 Pt2 e (d + 1) Kc644 :=
  ck (d := d) (Ks := [Kc524, Kc640]) (cy := 152) (cd := cdX7_undo) (nl := 1) (fuel := 1000) (Hs := [((28, 1), ([(0, (2, 0, 0, [150]))], [], [(0, 0), (0, 15)], [(150, 22, (0, 1, 0, []))]), [(2, 150, 22)], (0, []), [])]) (by decide) rfl (fun na b => by rw [← ceX7_undo]; exact tkX7_undo) (List.forall_mem_cons.mpr ⟨vc524 d, List.forall_mem_cons.mpr ⟨vc640 d, fun _ h => absurd h List.not_mem_nil⟩⟩) (cpyX d) (by decide +kernel)
def Kc645 : Con := ((271, [(2, 0, 0, [150])], []), [(150, 0, 0), (150, 11, 11), (150, 23, 23), (159, 0, 74)], [(some (0, (-1), (-1), []), [], []), (some (0, 0, 2, []), [], [])])
set_option maxRecDepth 20000 in
theorem vc645 {l : Launch} {X : Nat × (Nat → Int32)} {e : Int} (d : Nat) : Vc l X U0 Pt2 e (d + 1) Kc645 :=
  ck (d := d) (Ks := [Kc524, Kc527]) (cy := 152) (cd := cdX7_image) (nl := 1) (fuel := 1000) (Hs := [((31, 1), ([(0, (2, 0, 0, [150]))], [], [(0, 0), (0, 2)], [(150, 23, (0, 1, 0, []))]), [(2, 150, 23)], (0, []), [])]) (by decide) rfl (fun na b => by rw [← ceX7_image]; exact tkX7_image) (List.forall_mem_cons.mpr ⟨vc524 d, List.forall_mem_cons.mpr ⟨vc527 d, fun _ h => absurd h List.not_mem_nil⟩⟩) (cpyX d) (by decide +kernel)
def Kc646 : Con := ((149, [(0, iLo, iHi, []), (0, 0, 0, []), (0, (-1), 2, [])], []), [], [(some (0, 0, 0, []), [], []), (some (0, 1, 1, []), [(0, 0, 2), (2, 0, 2)], [])])
set_option maxRecDepth 20000 in
theorem vc646 {l : Launch} {X : Nat × (Nat → Int32)} {e : Int} (d : Nat) : Vc l X U0 Pt2 e d Kc646 :=
  ck (d := d) (Ks := []) (cy := 152) (cd := cdX7_in) (nl := 3) (fuel := 1000) (Hs := []) (by decide) rfl (fun na b => by rw [← ceX7_in]; exact tkX7_in) (fun _ h => absurd h List.not_mem_nil) (cpyX d) (by decide +kernel)
def Kc647 : Con := ((272, [(2, 0, 0, [150]), (0, iLo, iHi, [])], []), [(150, 0, 0), (150, 11, 11), (150, 22, 22), (157, 0, 24)], [(some (0, 0, 0, []), [], []), (some (0, 1, 1, []), [], [])])
set_option maxRecDepth 20000 in
theorem vc647 {l : Launch} {X : Nat × (Nat → Int32)} {e : Int} (d : Nat) : Vc l X U0 Pt2 e (d + 1) Kc647 :=
  ck (d := d) (Ks := [Kc524, Kc646, Kc640]) (cy := 152) (cd := cdX7_back) (nl := 2) (fuel := 1000) (Hs := [((24, 1), ([(0, (2, 0, 0, [150])), (1, (0, 1, 0, []))], [], [(0, 0), (0, 2)], []), [(0, 1, 0)], (0, []), [])]) (by decide) rfl (fun na b => by rw [← ceX7_back]; exact tkX7_back) (List.forall_mem_cons.mpr ⟨vc524 d, List.forall_mem_cons.mpr ⟨vc646 d, List.forall_mem_cons.mpr ⟨vc640 d, fun _ h => absurd h List.not_mem_nil⟩⟩⟩) (cpyX d) (by decide +kernel)
def Kc648 : Con := ((273, [(2, 0, 0, [150]), (0, iLo, iHi, [])], []), [(150, 0, 0)], [(some (0, 0, 5, []), [], [])])
set_option maxRecDepth 20000 in
theorem vc648 {l : Launch} {X : Nat × (Nat → Int32)} {e : Int} (d : Nat) : Vc l X U0 Pt2 e (d + 1) Kc648 :=
  ck (d := d) (Ks := [Kc529]) (cy := 152) (cd := cdX7_led) (nl := 4) (fuel := 1000) (Hs := [((4, 0), ([(0, (2, 0, 0, [150])), (1, (0, 1, 0, [])), (2, (0, 2, 0, [])), (3, (0, 3, 0, []))], [], [(0, 0), (iLo, iHi), (iLo, iHi), (0, 6)], []), [(0, 1, 0), (0, 2, 0), (0, 3, 0)], (12, [(3, (-2))]), [])]) (by decide) rfl (fun na b => by rw [← ceX7_led]; exact tkX7_led) (List.forall_mem_cons.mpr ⟨vc529 d, fun _ h => absurd h List.not_mem_nil⟩) (cpyX d) (by decide +kernel)
def Kc649 : Con := ((149, [(0, iLo, iHi, []), (0, 0, 0, []), (0, 8, 8, [])], []), [], [(some (0, 0, 0, []), [], []), (some (0, 1, 1, []), [(0, 0, 8)], [])])
set_option maxRecDepth 20000 in
theorem vc649 {l : Launch} {X : Nat × (Nat → Int32)} {e : Int} (d : Nat) : Vc l X U0 Pt2 e d Kc649 :=
  ck (d := d) (Ks := []) (cy := 152) (cd := cdX7_in) (nl := 3) (fuel := 1000) (Hs := []) (by decide) rfl (fun na b => by rw [← ceX7_in]; exact tkX7_in) (fun _ h => absurd h List.not_mem_nil) (cpyX d) (by decide +kernel)
def Kc650 : Con := ((274, [(2, 0, 0, [150]), (0, iLo, iHi, [])], []), [(150, 0, 0)], [(some (0, (-1), (-1), []), [], []), (some (0, iLo, iHi, []), [(1, 0, 12)], [])])
set_option maxRecDepth 20000 in
theorem vc650 {l : Launch} {X : Nat × (Nat → Int32)} {e : Int} (d : Nat) : Vc l X U0 Pt2 e (d + 1) Kc650 :=
  ck (d := d) (Ks := [Kc649]) (cy := 152) (cd := cdX7_size) (nl := 2) (fuel := 1000) (Hs := []) (by decide) rfl (fun na b => by rw [← ceX7_size]; exact tkX7_size) (List.forall_mem_cons.mpr ⟨vc649 d, fun _ h => absurd h List.not_mem_nil⟩) (cpyX d) (by decide +kernel)
def Kc651 : Con := ((275, [(2, 0, 0, [150])], []), [(150, 0, 0)], [(some (0, iLo, iHi, []), [], [])])
set_option maxRecDepth 20000 in
theorem vc651 {l : Launch} {X : Nat × (Nat → Int32)} {e : Int} (d : Nat) : Vc l X U0 Pt2 e d Kc651 :=
  ck (d := d) (Ks := []) (cy := 152) (cd := cdX7_trouble) (nl := 1) (fuel := 1000) (Hs := []) (by decide) rfl (fun na b => by rw [← ceX7_trouble]; exact tkX7_trouble) (fun _ h => absurd h List.not_mem_nil) (cpyX d) (by decide +kernel)
def Kc652 : Con := ((183, [(2, 0, 0, [150])], []), [(150, 0, 0)], [(some (0, iLo, iHi, []), [], [])])
set_option maxRecDepth 20000 in
theorem vc652 {l : Launch} {X : Nat × (Nat → Int32)} {e : Int} (d : Nat) : Vc l X U0 Pt2 e d Kc652 :=
  ck (d := d) (Ks := []) (cy := 152) (cd := cdX7_fault) (nl := 1) (fuel := 1000) (Hs := []) (by decide) rfl (fun na b => by rw [← ceX7_fault]; exact tkX7_fault) (fun _ h => absurd h List.not_mem_nil) (cpyX d) (by decide +kernel)
def Kc653 : Con := ((184, [(2, 0, 0, [150])], []), [(150, 0, 0)], [(some (0, (-1), (-1), []), [], []), (some (0, iLo, iHi, []), [], [])])
set_option maxRecDepth 20000 in
theorem vc653 {l : Launch} {X : Nat × (Nat → Int32)} {e : Int} (d : Nat) : Vc l X U0 Pt2 e d Kc653 :=
  ck (d := d) (Ks := []) (cy := 152) (cd := cdX7_where) (nl := 1) (fuel := 1000) (Hs := []) (by decide) rfl (fun na b => by rw [← ceX7_where]; exact tkX7_where) (fun _ h => absurd h List.not_mem_nil) (cpyX d) (by decide +kernel)
