def Kc654 : Con := ((146, [(2, 0, 0, [150])], []), [(150, 0, 0), (150, 11, 11)], [(none, [], [])])
set_option maxRecDepth 20000 in
theorem vc654 {l : Launch} {X : Nat × (Nat → Int32)} {e : Int} (d : Nat) : Vc l X U0 Pt3 e d Kc654 :=
  ck (d := d) (Ks := []) (cy := 152) (cd := cdX7_good) (nl := 1) (fuel := 1000) (Hs := []) (by decide) rfl (fun na b => by rw [← ceX7_good]; exact tkX7_good) (fun _ h => absurd h List.not_mem_nil) (cpyX d) (by decide +kernel)
def Kc655 : Con := ((149, [(0, iLo, iHi, []), (0, 0, 0, []), (0, (-1), 5, [])], []), [], [(some (0, 0, 0, []), [], []), (some (0, 1, 1, []), [(0, 0, 5), (2, 0, 5)], [])])
set_option maxRecDepth 20000 in
theorem vc655 {l : Launch} {X : Nat × (Nat → Int32)} {e : Int} (d : Nat) : Vc l X U0 Pt3 e d Kc655 :=
  ck (d := d) (Ks := []) (cy := 152) (cd := cdX7_in) (nl := 3) (fuel := 1000) (Hs := []) (by decide) rfl (fun na b => by rw [← ceX7_in]; exact tkX7_in) (fun _ h => absurd h List.not_mem_nil) (cpyX d) (by decide +kernel)
def Kc656 : Con := ((185, [(2, 0, 0, [150]), (0, iLo, iHi, [])], []), [], [(some (0, 0, 0, []), [], []), (some (0, 1, 1, []), [(1, 0, 5)], [])])
set_option maxRecDepth 20000 in
theorem vc656 {l : Launch} {X : Nat × (Nat → Int32)} {e : Int} (d : Nat) : Vc l X U0 Pt3 e (d + 1) Kc656 :=
  ck (d := d) (Ks := [Kc655]) (cy := 152) (cd := cdX7_isFace) (nl := 2) (fuel := 1000) (Hs := []) (by decide) rfl (fun na b => by rw [← ceX7_isFace]; exact tkX7_isFace) (List.forall_mem_cons.mpr ⟨vc655 d, fun _ h => absurd h List.not_mem_nil⟩) (cpyX d) (by decide +kernel)
def Kc657 : Con := ((147, [(2, 0, 0, [150]), (0, iLo, iHi, [])], []), [(150, 11, 11)], [(some (0, (-1), (-1), []), [], [])])
set_option maxRecDepth 20000 in
theorem vc657 {l : Launch} {X : Nat × (Nat → Int32)} {e : Int} (d : Nat) : Vc l X U0 Pt3 e d Kc657 :=
  ck (d := d) (Ks := []) (cy := 152) (cd := cdX7_no) (nl := 2) (fuel := 1000) (Hs := []) (by decide) rfl (fun na b => by rw [← ceX7_no]; exact tkX7_no) (fun _ h => absurd h List.not_mem_nil) (cpyX d) (by decide +kernel)
def Kc658 : Con := ((149, [(0, iLo, iHi, []), (0, 0, 0, []), (0, 6, 6, [])], []), [], [(some (0, 0, 0, []), [], []), (some (0, 1, 1, []), [(0, 0, 6)], [])])
set_option maxRecDepth 20000 in
theorem vc658 {l : Launch} {X : Nat × (Nat → Int32)} {e : Int} (d : Nat) : Vc l X U0 Pt3 e d Kc658 :=
  ck (d := d) (Ks := []) (cy := 152) (cd := cdX7_in) (nl := 3) (fuel := 1000) (Hs := []) (by decide) rfl (fun na b => by rw [← ceX7_in]; exact tkX7_in) (fun _ h => absurd h List.not_mem_nil) (cpyX d) (by decide +kernel)
def Kc659 : Con := ((197, [(2, 0, 0, [150]), (0, iLo, iHi, [])], []), [], [(some (0, (-2), (-2), []), [], []), (some (0, 0, 2, []), [], [])])
set_option maxRecDepth 20000 in
theorem vc659 {l : Launch} {X : Nat × (Nat → Int32)} {e : Int} (d : Nat) : Vc l X U0 Pt3 e d Kc659 :=
  ck (d := d) (Ks := []) (cy := 152) (cd := cdX7_canonOf) (nl := 3) (fuel := 1000) (Hs := [((2, 0), ([(0, (2, 0, 0, [150])), (1, (0, 1, 0, [])), (2, (0, 2, 0, []))], [], [(0, 0), (iLo, iHi), (0, 3)], []), [(0, 1, 0), (0, 2, 0)], (6, [(2, (-2))]), [])]) (by decide) rfl (fun na b => by rw [← ceX7_canonOf]; exact tkX7_canonOf) (fun _ h => absurd h List.not_mem_nil) (cpyX d) (by decide +kernel)
def Kc660 : Con := ((198, [(2, 0, 0, [150]), (0, iLo, iHi, []), (0, iLo, iHi, [])], []), [(150, 0, 0), (150, 11, 11)], [(some (0, (-1), (-1), []), [], []), (some (0, iLo, iHi, []), [(1, 0, 5), (2, 0, 6)], []), (some (0, (-2), (-2), []), [(1, 0, 5), (2, 5, 5)], [])])
set_option maxRecDepth 20000 in
theorem vc660 {l : Launch} {X : Nat × (Nat → Int32)} {e : Int} (d : Nat) : Vc l X U0 Pt3 e (d + 2) Kc660 :=
  ck (d := (d + 1)) (Ks := [Kc654, Kc656, Kc657, Kc658, Kc659]) (cy := 152) (cd := cdX7_face) (nl := 3) (fuel := 1000) (Hs := []) (by decide) rfl (fun na b => by rw [← ceX7_face]; exact tkX7_face) (List.forall_mem_cons.mpr ⟨vc654 (d + 1), List.forall_mem_cons.mpr ⟨vc656 d, List.forall_mem_cons.mpr ⟨vc657 (d + 1), List.forall_mem_cons.mpr ⟨vc658 (d + 1), List.forall_mem_cons.mpr ⟨vc659 (d + 1), fun _ h => absurd h List.not_mem_nil⟩⟩⟩⟩⟩) (cpyX (d + 1)) (by decide +kernel)
def Kc661 : Con := ((149, [(0, iLo, iHi, []), (0, 0, 0, []), (0, 2, 2, [])], []), [], [(some (0, 0, 0, []), [], []), (some (0, 1, 1, []), [(0, 0, 2)], [])])
set_option maxRecDepth 20000 in
theorem vc661 {l : Launch} {X : Nat × (Nat → Int32)} {e : Int} (d : Nat) : Vc l X U0 Pt3 e d Kc661 :=
  ck (d := d) (Ks := []) (cy := 152) (cd := cdX7_in) (nl := 3) (fuel := 1000) (Hs := []) (by decide) rfl (fun na b => by rw [← ceX7_in]; exact tkX7_in) (fun _ h => absurd h List.not_mem_nil) (cpyX d) (by decide +kernel)
def Kc662 : Con := ((186, [(2, 0, 0, [150]), (0, iLo, iHi, [])], []), [], [(some (0, 0, 0, []), [], []), (some (0, 1, 1, []), [(1, 0, 2)], [])])
set_option maxRecDepth 20000 in
theorem vc662 {l : Launch} {X : Nat × (Nat → Int32)} {e : Int} (d : Nat) : Vc l X U0 Pt3 e (d + 1) Kc662 :=
  ck (d := d) (Ks := [Kc661]) (cy := 152) (cd := cdX7_isCanon) (nl := 2) (fuel := 1000) (Hs := []) (by decide) rfl (fun na b => by rw [← ceX7_isCanon]; exact tkX7_isCanon) (List.forall_mem_cons.mpr ⟨vc661 d, fun _ h => absurd h List.not_mem_nil⟩) (cpyX d) (by decide +kernel)
def Kc663 : Con := ((199, [(2, 0, 0, [150]), (0, iLo, iHi, []), (0, iLo, iHi, [])], []), [(150, 0, 0), (150, 11, 11)], [(some (0, (-1), (-1), []), [], []), (some (0, 0, 30, []), [(1, 0, 2), (2, 0, 2)], [])])
set_option maxRecDepth 20000 in
theorem vc663 {l : Launch} {X : Nat × (Nat → Int32)} {e : Int} (d : Nat) : Vc l X U0 Pt3 e (d + 2) Kc663 :=
  ck (d := (d + 1)) (Ks := [Kc654, Kc662, Kc657, Kc661]) (cy := 152) (cd := cdX7_canon) (nl := 3) (fuel := 1000) (Hs := []) (by decide) rfl (fun na b => by rw [← ceX7_canon]; exact tkX7_canon) (List.forall_mem_cons.mpr ⟨vc654 (d + 1), List.forall_mem_cons.mpr ⟨vc662 d, List.forall_mem_cons.mpr ⟨vc657 (d + 1), List.forall_mem_cons.mpr ⟨vc661 (d + 1), fun _ h => absurd h List.not_mem_nil⟩⟩⟩⟩) (cpyX (d + 1)) (by decide +kernel)
def Kc664 : Con := ((187, [(2, 0, 0, [150])], []), [], [(some (0, 0, 20, []), [], [])])
set_option maxRecDepth 20000 in
theorem vc664 {l : Launch} {X : Nat × (Nat → Int32)} {e : Int} (d : Nat) : Vc l X U0 Pt3 e d Kc664 :=
  ck (d := d) (Ks := []) (cy := 152) (cd := cdX7_cells) (nl := 1) (fuel := 1000) (Hs := []) (by decide) rfl (fun na b => by rw [← ceX7_cells]; exact tkX7_cells) (fun _ h => absurd h List.not_mem_nil) (cpyX d) (by decide +kernel)
def Kc665 : Con := ((149, [(0, iLo, iHi, []), (0, 0, 0, []), (0, (-1), 19, [])], []), [], [(some (0, 0, 0, []), [], []), (some (0, 1, 1, []), [(0, 0, 19), (2, 0, 19)], [])])
set_option maxRecDepth 20000 in
theorem vc665 {l : Launch} {X : Nat × (Nat → Int32)} {e : Int} (d : Nat) : Vc l X U0 Pt3 e d Kc665 :=
  ck (d := d) (Ks := []) (cy := 152) (cd := cdX7_in) (nl := 3) (fuel := 1000) (Hs := []) (by decide) rfl (fun na b => by rw [← ceX7_in]; exact tkX7_in) (fun _ h => absurd h List.not_mem_nil) (cpyX d) (by decide +kernel)
def Kc666 : Con := ((188, [(2, 0, 0, [150]), (0, iLo, iHi, [])], []), [], [(some (0, 0, 0, []), [], []), (some (0, 1, 1, []), [(1, 0, 19)], [])])
set_option maxRecDepth 20000 in
theorem vc666 {l : Launch} {X : Nat × (Nat → Int32)} {e : Int} (d : Nat) : Vc l X U0 Pt3 e (d + 1) Kc666 :=
  ck (d := d) (Ks := [Kc664, Kc665]) (cy := 152) (cd := cdX7_isCell) (nl := 2) (fuel := 1000) (Hs := []) (by decide) rfl (fun na b => by rw [← ceX7_isCell]; exact tkX7_isCell) (List.forall_mem_cons.mpr ⟨vc664 d, List.forall_mem_cons.mpr ⟨vc665 d, fun _ h => absurd h List.not_mem_nil⟩⟩) (cpyX d) (by decide +kernel)
def Kc667 : Con := ((149, [(0, iLo, iHi, []), (0, 0, 0, []), (0, 3, 3, [])], []), [], [(some (0, 0, 0, []), [], []), (some (0, 1, 1, []), [(0, 0, 3)], [])])
set_option maxRecDepth 20000 in
theorem vc667 {l : Launch} {X : Nat × (Nat → Int32)} {e : Int} (d : Nat) : Vc l X U0 Pt3 e d Kc667 :=
  ck (d := d) (Ks := []) (cy := 152) (cd := cdX7_in) (nl := 3) (fuel := 1000) (Hs := []) (by decide) rfl (fun na b => by rw [← ceX7_in]; exact tkX7_in) (fun _ h => absurd h List.not_mem_nil) (cpyX d) (by decide +kernel)
def Kc668 : Con := ((200, [(2, 0, 0, [150]), (0, iLo, iHi, [])], []), [], [(some (0, (-2), (-2), []), [], []), (some (0, 0, 5, []), [], [])])
set_option maxRecDepth 20000 in
theorem vc668 {l : Launch} {X : Nat × (Nat → Int32)} {e : Int} (d : Nat) : Vc l X U0 Pt3 e d Kc668 :=
  ck (d := d) (Ks := []) (cy := 152) (cd := cdX7_faceOver) (nl := 3) (fuel := 1000) (Hs := [((2, 0), ([(0, (2, 0, 0, [150])), (1, (0, 1, 0, [])), (2, (0, 2, 0, []))], [], [(0, 0), (iLo, iHi), (0, 6)], []), [(0, 1, 0), (0, 2, 0)], (12, [(2, (-2))]), [])]) (by decide) rfl (fun na b => by rw [← ceX7_faceOver]; exact tkX7_faceOver) (fun _ h => absurd h List.not_mem_nil) (cpyX d) (by decide +kernel)
def Kc669 : Con := ((149, [(0, iLo, iHi, []), (0, 0, 0, []), (0, 1, 4, [])], []), [], [(some (0, 0, 0, []), [], []), (some (0, 1, 1, []), [(0, 0, 4)], [])])
set_option maxRecDepth 20000 in
theorem vc669 {l : Launch} {X : Nat × (Nat → Int32)} {e : Int} (d : Nat) : Vc l X U0 Pt3 e d Kc669 :=
  ck (d := d) (Ks := []) (cy := 152) (cd := cdX7_in) (nl := 3) (fuel := 1000) (Hs := []) (by decide) rfl (fun na b => by rw [← ceX7_in]; exact tkX7_in) (fun _ h => absurd h List.not_mem_nil) (cpyX d) (by decide +kernel)
def Kc670 : Con := ((149, [(0, iLo, iHi, []), (0, 0, 0, []), (0, (-1), 3, [])], []), [], [(some (0, 0, 0, []), [], []), (some (0, 1, 1, []), [(0, 0, 3), (2, 0, 3)], [])])
set_option maxRecDepth 20000 in
theorem vc670 {l : Launch} {X : Nat × (Nat → Int32)} {e : Int} (d : Nat) : Vc l X U0 Pt3 e d Kc670 :=
  ck (d := d) (Ks := []) (cy := 152) (cd := cdX7_in) (nl := 3) (fuel := 1000) (Hs := []) (by decide) rfl (fun na b => by rw [← ceX7_in]; exact tkX7_in) (fun _ h => absurd h List.not_mem_nil) (cpyX d) (by decide +kernel)
def Kc671 : Con := ((150, [(0, iLo, iHi, []), (0, iLo, iHi, [])], []), [], [(some (0, 0, 0, []), [], []), (some (0, 1, 1, []), [], [])])
set_option maxRecDepth 20000 in
theorem vc671 {l : Launch} {X : Nat × (Nat → Int32)} {e : Int} (d : Nat) : Vc l X U0 Pt3 e d Kc671 :=
  ck (d := d) (Ks := []) (cy := 152) (cd := cdX7_hasBit) (nl := 2) (fuel := 1000) (Hs := []) (by decide) rfl (fun na b => by rw [← ceX7_hasBit]; exact tkX7_hasBit) (fun _ h => absurd h List.not_mem_nil) (cpyX d) (by decide +kernel)
def Kc672 : Con := ((201, [(2, 0, 0, [150]), (0, iLo, iHi, [])], []), [], [(some (0, 0, 0, []), [], []), (some (0, 1, 1, []), [], [])])
set_option maxRecDepth 20000 in
theorem vc672 {l : Launch} {X : Nat × (Nat → Int32)} {e : Int} (d : Nat) : Vc l X U0 Pt3 e (d + 1) Kc672 :=
  ck (d := d) (Ks := [Kc671]) (cy := 152) (cd := cdX7_isWall) (nl := 2) (fuel := 1000) (Hs := []) (by decide) rfl (fun na b => by rw [← ceX7_isWall]; exact tkX7_isWall) (List.forall_mem_cons.mpr ⟨vc671 d, fun _ h => absurd h List.not_mem_nil⟩) (cpyX d) (by decide +kernel)
def Kc673 : Con := ((202, [(2, 0, 0, [150]), (0, iLo, iHi, []), (0, iLo, iHi, [])], []), [], [(some (0, (-2), (-2), []), [], []), (some (0, 0, 19, []), [], [])])
set_option maxRecDepth 20000 in
theorem vc673 {l : Launch} {X : Nat × (Nat → Int32)} {e : Int} (d : Nat) : Vc l X U0 Pt3 e (d + 2) Kc673 :=
  ck (d := (d + 1)) (Ks := [Kc669, Kc670, Kc672]) (cy := 152) (cd := cdX7_stepFrom) (nl := 5) (fuel := 1000) (Hs := []) (by decide) rfl (fun na b => by rw [← ceX7_stepFrom]; exact tkX7_stepFrom) (List.forall_mem_cons.mpr ⟨vc669 (d + 1), List.forall_mem_cons.mpr ⟨vc670 (d + 1), List.forall_mem_cons.mpr ⟨vc672 d, fun _ h => absurd h List.not_mem_nil⟩⟩⟩) (cpyX (d + 1)) (by decide +kernel)
def Kc674 : Con := ((203, [(2, 0, 0, [150]), (0, iLo, iHi, [])], []), [], [(some (0, iLo, iHi, []), [], [])])
set_option maxRecDepth 20000 in
theorem vc674 {l : Launch} {X : Nat × (Nat → Int32)} {e : Int} (d : Nat) : Vc l X U0 Pt3 e (d + 3) Kc674 :=
  ck (d := (d + 2)) (Ks := [Kc673]) (cy := 152) (cd := cdX7_beside) (nl := 4) (fuel := 1000) (Hs := [((4, 0), ([(0, (2, 0, 0, [150])), (1, (0, 1, 0, [])), (2, (0, 2, 0, [])), (3, (0, 3, 0, []))], [], [(0, 0), (iLo, iHi), (iLo, iHi), (0, 4)], []), [(0, 1, 0), (0, 2, 0), (0, 3, 0)], (8, [(3, (-2))]), [])]) (by decide) rfl (fun na b => by rw [← ceX7_beside]; exact tkX7_beside) (List.forall_mem_cons.mpr ⟨vc673 d, fun _ h => absurd h List.not_mem_nil⟩) (cpyX (d + 2)) (by decide +kernel)
def Kc675 : Con := ((204, [(2, 0, 0, [150]), (0, iLo, iHi, []), (0, iLo, iHi, [])], []), [(150, 0, 0), (150, 11, 11), (150, 26, 26)], [(some (0, (-1), (-1), []), [], []), (some (0, iLo, iHi, []), [(1, 0, 19), (2, 0, 3)], []), (some (0, (-2), (-2), []), [(1, 0, 19), (2, 1, 1)], [])])
set_option maxRecDepth 20000 in
theorem vc675 {l : Launch} {X : Nat × (Nat → Int32)} {e : Int} (d : Nat) : Vc l X U0 Pt3 e (d + 4) Kc675 :=
  ck (d := (d + 3)) (Ks := [Kc654, Kc666, Kc657, Kc667, Kc668, Kc674]) (cy := 152) (cd := cdX7_cell) (nl := 3) (fuel := 1000) (Hs := []) (by decide) rfl (fun na b => by rw [← ceX7_cell]; exact tkX7_cell) (List.forall_mem_cons.mpr ⟨vc654 (d + 3), List.forall_mem_cons.mpr ⟨vc666 (d + 2), List.forall_mem_cons.mpr ⟨vc657 (d + 3), List.forall_mem_cons.mpr ⟨vc667 (d + 3), List.forall_mem_cons.mpr ⟨vc668 (d + 3), List.forall_mem_cons.mpr ⟨vc674 d, fun _ h => absurd h List.not_mem_nil⟩⟩⟩⟩⟩⟩) (cpyX (d + 3)) (by decide +kernel)
def Kc676 : Con := ((205, [(2, 0, 0, [150])], []), [(150, 0, 0), (150, 11, 11)], [(some (0, iLo, iHi, []), [], [])])
set_option maxRecDepth 20000 in
theorem vc676 {l : Launch} {X : Nat × (Nat → Int32)} {e : Int} (d : Nat) : Vc l X U0 Pt3 e (d + 1) Kc676 :=
  ck (d := d) (Ks := [Kc654]) (cy := 152) (cd := cdX7_burden) (nl := 3) (fuel := 1000) (Hs := [((21, 0), ([(0, (2, 0, 0, [150])), (1, (0, 1, 0, [])), (2, (0, 2, 0, []))], [], [(0, 0), (iLo, iHi), (0, 6)], []), [(0, 1, 0), (0, 2, 0)], (12, [(2, (-2))]), [])]) (by decide) rfl (fun na b => by rw [← ceX7_burden]; exact tkX7_burden) (List.forall_mem_cons.mpr ⟨vc654 d, fun _ h => absurd h List.not_mem_nil⟩) (cpyX d) (by decide +kernel)
def Kc677 : Con := ((149, [(0, iLo, iHi, []), (0, 0, 0, []), (0, 60, 60, [])], []), [], [(some (0, 0, 0, []), [], []), (some (0, 1, 1, []), [(0, 0, 60)], [])])
set_option maxRecDepth 20000 in
theorem vc677 {l : Launch} {X : Nat × (Nat → Int32)} {e : Int} (d : Nat) : Vc l X U0 Pt3 e d Kc677 :=
  ck (d := d) (Ks := []) (cy := 152) (cd := cdX7_in) (nl := 3) (fuel := 1000) (Hs := []) (by decide) rfl (fun na b => by rw [← ceX7_in]; exact tkX7_in) (fun _ h => absurd h List.not_mem_nil) (cpyX d) (by decide +kernel)
def Kc678 : Con := ((190, [(2, 0, 0, [150]), (0, 0, 0, []), (0, 0, 0, [])], []), [], [(some (0, 1, 1, []), [], [])])
set_option maxRecDepth 20000 in
theorem vc678 {l : Launch} {X : Nat × (Nat → Int32)} {e : Int} (d : Nat) : Vc l X U0 Pt3 e d Kc678 :=
  ck (d := d) (Ks := []) (cy := 152) (cd := cdX7_why) (nl := 3) (fuel := 1000) (Hs := []) (by decide) rfl (fun na b => by rw [← ceX7_why]; exact tkX7_why) (fun _ h => absurd h List.not_mem_nil) (cpyX d) (by decide +kernel)
def Kc679 : Con := ((190, [(2, 0, 0, [150]), (0, 0, 0, []), (0, 1, 1, [])], []), [], [(some (0, 1, 1, []), [], [])])
set_option maxRecDepth 20000 in
theorem vc679 {l : Launch} {X : Nat × (Nat → Int32)} {e : Int} (d : Nat) : Vc l X U0 Pt3 e d Kc679 :=
  ck (d := d) (Ks := []) (cy := 152) (cd := cdX7_why) (nl := 3) (fuel := 1000) (Hs := []) (by decide) rfl (fun na b => by rw [← ceX7_why]; exact tkX7_why) (fun _ h => absurd h List.not_mem_nil) (cpyX d) (by decide +kernel)
def Kc680 : Con := ((206, [(2, 0, 0, [150]), (0, 0, 0, []), (0, 0, 0, []), (0, iLo, iHi, [])], []), [], [(some (0, 1, 1, []), [], [])])
set_option maxRecDepth 20000 in
theorem vc680 {l : Launch} {X : Nat × (Nat → Int32)} {e : Int} (d : Nat) : Vc l X U0 Pt3 e (d + 1) Kc680 :=
  ck (d := d) (Ks := [Kc677, Kc678, Kc679]) (cy := 152) (cd := cdX7_aheadWhy) (nl := 4) (fuel := 1000) (Hs := []) (by decide) rfl (fun na b => by rw [← ceX7_aheadWhy]; exact tkX7_aheadWhy) (List.forall_mem_cons.mpr ⟨vc677 d, List.forall_mem_cons.mpr ⟨vc678 d, List.forall_mem_cons.mpr ⟨vc679 d, fun _ h => absurd h List.not_mem_nil⟩⟩⟩) (cpyX d) (by decide +kernel)
def Kc681 : Con := ((190, [(2, 0, 0, [150]), (0, 1, 1, []), (0, 0, 0, [])], []), [], [(some (0, 2, 2, []), [], [])])
set_option maxRecDepth 20000 in
theorem vc681 {l : Launch} {X : Nat × (Nat → Int32)} {e : Int} (d : Nat) : Vc l X U0 Pt3 e d Kc681 :=
  ck (d := d) (Ks := []) (cy := 152) (cd := cdX7_why) (nl := 3) (fuel := 1000) (Hs := []) (by decide) rfl (fun na b => by rw [← ceX7_why]; exact tkX7_why) (fun _ h => absurd h List.not_mem_nil) (cpyX d) (by decide +kernel)
def Kc682 : Con := ((190, [(2, 0, 0, [150]), (0, 1, 1, []), (0, 1, 1, [])], []), [], [(some (0, 0, 0, []), [], [])])
set_option maxRecDepth 20000 in
theorem vc682 {l : Launch} {X : Nat × (Nat → Int32)} {e : Int} (d : Nat) : Vc l X U0 Pt3 e d Kc682 :=
  ck (d := d) (Ks := []) (cy := 152) (cd := cdX7_why) (nl := 3) (fuel := 1000) (Hs := []) (by decide) rfl (fun na b => by rw [← ceX7_why]; exact tkX7_why) (fun _ h => absurd h List.not_mem_nil) (cpyX d) (by decide +kernel)
def Kc683 : Con := ((206, [(2, 0, 0, [150]), (0, 1, 1, []), (0, 0, 0, []), (0, iLo, iHi, [])], []), [], [(some (0, 2, 2, []), [], []), (some (0, 0, 0, []), [(3, 0, 60)], [])])
set_option maxRecDepth 20000 in
theorem vc683 {l : Launch} {X : Nat × (Nat → Int32)} {e : Int} (d : Nat) : Vc l X U0 Pt3 e (d + 1) Kc683 :=
  ck (d := d) (Ks := [Kc677, Kc681, Kc682]) (cy := 152) (cd := cdX7_aheadWhy) (nl := 4) (fuel := 1000) (Hs := []) (by decide) rfl (fun na b => by rw [← ceX7_aheadWhy]; exact tkX7_aheadWhy) (List.forall_mem_cons.mpr ⟨vc677 d, List.forall_mem_cons.mpr ⟨vc681 d, List.forall_mem_cons.mpr ⟨vc682 d, fun _ h => absurd h List.not_mem_nil⟩⟩⟩) (cpyX d) (by decide +kernel)
def Kc684 : Con := ((191, [(2, 0, 0, [150]), (0, iLo, iHi, [])], []), [(160, 0, 4)], [(none, [], [])])
set_option maxRecDepth 20000 in
theorem vc684 {l : Launch} {X : Nat × (Nat → Int32)} {e : Int} (d : Nat) : Vc l X U0 Pt3 e (d + 1) Kc684 :=
  ck (d := d) (Ks := [Kc671]) (cy := 152) (cd := cdX7_vexedBy) (nl := 3) (fuel := 1000) (Hs := [((2, 0), ([(0, (2, 0, 0, [150])), (1, (0, 1, 0, [])), (2, (0, 2, 0, []))], [], [(0, 0), (iLo, iHi), (0, 3)], []), [(0, 1, 0), (0, 2, 0)], (25, [(2, (-3))]), []), ((37, 2), ([(0, (2, 0, 0, [150])), (1, (0, 1, 0, [])), (2, (0, 2, 0, []))], [], [(0, 0), (iLo, iHi), (0, 4)], []), [(0, 1, 0), (0, 2, 0)], (12, [(2, (-3))]), [])]) (by decide) rfl (fun na b => by rw [← ceX7_vexedBy]; exact tkX7_vexedBy) (List.forall_mem_cons.mpr ⟨vc671 d, fun _ h => absurd h List.not_mem_nil⟩) (cpyX d) (by decide +kernel)
def Kc685 : Con := ((192, [(2, 0, 0, [150]), (2, 0, 0, [161]), (0, 0, 5, [])], []), [], [(some (0, iLo, iHi, []), [], [])])
set_option maxRecDepth 20000 in
theorem vc685 {l : Launch} {X : Nat × (Nat → Int32)} {e : Int} (d : Nat) : Vc l X U0 Pt3 e d Kc685 :=
  ck (d := d) (Ks := []) (cy := 152) (cd := cdX7_letsGo) (nl := 6) (fuel := 1000) (Hs := []) (by decide) rfl (fun na b => by rw [← ceX7_letsGo]; exact tkX7_letsGo) (fun _ h => absurd h List.not_mem_nil) (cpyX d) (by decide +kernel)
def Kc686 : Con := ((193, [(2, 0, 0, [150]), (2, 0, 0, [161]), (0, iLo, iHi, [])], []), [(161, 0, 17), (161, 23, 24)], [(none, [], [])])
set_option maxRecDepth 20000 in
theorem vc686 {l : Launch} {X : Nat × (Nat → Int32)} {e : Int} (d : Nat) : Vc l X U0 Pt3 e (d + 1) Kc686 :=
  ck (d := d) (Ks := [Kc685]) (cy := 152) (cd := cdX7_dayOn) (nl := 5) (fuel := 1000) (Hs := [((15, 0), ([(0, (2, 0, 0, [150])), (1, (2, 0, 0, [161])), (2, (0, 1, 0, [])), (3, (0, 2, 0, []))], [], [(0, 0), (iLo, iHi), (0, 3)], []), [(0, 2, 0), (0, 3, 0)], (31, [(2, (-3))]), []), ((89, 0), ([(0, (2, 0, 0, [150])), (1, (2, 0, 0, [161])), (3, (0, 1, 0, []))], [], [(0, 0), (0, 6)], []), [(0, 3, 0)], (18, [(1, (-3))]), [])]) (by decide) rfl (fun na b => by rw [← ceX7_dayOn]; exact tkX7_dayOn) (List.forall_mem_cons.mpr ⟨vc685 d, fun _ h => absurd h List.not_mem_nil⟩) (cpyX d) (by decide +kernel)
def Kc687 : Con := ((194, [(2, 0, 0, [150]), (0, iLo, iHi, [])], []), [(160, 0, 4), (161, 0, 24)], [(none, [], [])])
set_option maxRecDepth 20000 in
theorem vc687 {l : Launch} {X : Nat × (Nat → Int32)} {e : Int} (d : Nat) : Vc l X U0 Pt3 e (d + 2) Kc687 :=
  ck (d := (d + 1)) (Ks := [Kc684, Kc686]) (cy := 152) (cd := cdX7_daysOn) (nl := 3) (fuel := 1000) (Hs := [((22, 0), ([(0, (2, 0, 0, [150])), (1, (0, 1, 0, [])), (2, (0, 2, 0, []))], [], [(0, 0), (iLo, iHi), (0, iHi)], []), [(0, 1, 0), (0, 2, 0)], (4294967294, [(2, (-2))]), [])]) (by decide) rfl (fun na b => by rw [← ceX7_daysOn]; exact tkX7_daysOn) (List.forall_mem_cons.mpr ⟨vc684 d, List.forall_mem_cons.mpr ⟨vc686 d, fun _ h => absurd h List.not_mem_nil⟩⟩) (cpyX (d + 1)) (by decide +kernel)
def Kc688 : Con := ((207, [(2, 0, 0, [150]), (0, iLo, iHi, []), (0, iLo, iHi, [])], []), [(150, 0, 0), (150, 11, 11), (160, 0, 4), (161, 0, 24)], [(some (0, (-1), (-1), []), [], []), (some (0, iLo, iHi, []), [(1, 0, 5), (2, 0, 60)], [])])
set_option maxRecDepth 20000 in
theorem vc688 {l : Launch} {X : Nat × (Nat → Int32)} {e : Int} (d : Nat) : Vc l X U0 Pt3 e (d + 3) Kc688 :=
  ck (d := (d + 2)) (Ks := [Kc654, Kc656, Kc680, Kc657, Kc683, Kc687]) (cy := 152) (cd := cdX7_bears) (nl := 4) (fuel := 1000) (Hs := []) (by decide) rfl (fun na b => by rw [← ceX7_bears]; exact tkX7_bears) (List.forall_mem_cons.mpr ⟨vc654 (d + 2), List.forall_mem_cons.mpr ⟨vc656 (d + 1), List.forall_mem_cons.mpr ⟨vc680 (d + 1), List.forall_mem_cons.mpr ⟨vc657 (d + 2), List.forall_mem_cons.mpr ⟨vc683 (d + 1), List.forall_mem_cons.mpr ⟨vc687 d, fun _ h => absurd h List.not_mem_nil⟩⟩⟩⟩⟩⟩) (cpyX (d + 2)) (by decide +kernel)
def Kc689 : Con := ((208, [(2, 0, 0, [150]), (0, iLo, iHi, []), (0, iLo, iHi, [])], []), [(150, 0, 0), (150, 11, 11), (160, 0, 4), (161, 0, 24)], [(some (0, (-1), (-1), []), [], []), (some (0, iLo, iHi, []), [(1, 0, 5), (2, 0, 60)], [])])
set_option maxRecDepth 20000 in
theorem vc689 {l : Launch} {X : Nat × (Nat → Int32)} {e : Int} (d : Nat) : Vc l X U0 Pt3 e (d + 3) Kc689 :=
  ck (d := (d + 2)) (Ks := [Kc654, Kc656, Kc680, Kc657, Kc683, Kc687]) (cy := 152) (cd := cdX7_holds) (nl := 4) (fuel := 1000) (Hs := []) (by decide) rfl (fun na b => by rw [← ceX7_holds]; exact tkX7_holds) (List.forall_mem_cons.mpr ⟨vc654 (d + 2), List.forall_mem_cons.mpr ⟨vc656 (d + 1), List.forall_mem_cons.mpr ⟨vc680 (d + 1), List.forall_mem_cons.mpr ⟨vc657 (d + 2), List.forall_mem_cons.mpr ⟨vc683 (d + 1), List.forall_mem_cons.mpr ⟨vc687 d, fun _ h => absurd h List.not_mem_nil⟩⟩⟩⟩⟩⟩) (cpyX (d + 2)) (by decide +kernel)
def Kc690 : Con := ((209, [(2, 0, 0, [150]), (0, iLo, iHi, []), (0, iLo, iHi, [])], []), [(150, 0, 0), (150, 11, 11), (160, 0, 4), (161, 0, 24)], [(some (0, (-1), (-1), []), [], []), (some (0, iLo, iHi, []), [(1, 0, 5), (2, 0, 60)], [])])
set_option maxRecDepth 20000 in
theorem vc690 {l : Launch} {X : Nat × (Nat → Int32)} {e : Int} (d : Nat) : Vc l X U0 Pt3 e (d + 3) Kc690 :=
  ck (d := (d + 2)) (Ks := [Kc654, Kc656, Kc680, Kc657, Kc683, Kc687]) (cy := 152) (cd := cdX7_drops) (nl := 4) (fuel := 1000) (Hs := []) (by decide) rfl (fun na b => by rw [← ceX7_drops]; exact tkX7_drops) (List.forall_mem_cons.mpr ⟨vc654 (d + 2), List.forall_mem_cons.mpr ⟨vc656 (d + 1), List.forall_mem_cons.mpr ⟨vc680 (d + 1), List.forall_mem_cons.mpr ⟨vc657 (d + 2), List.forall_mem_cons.mpr ⟨vc683 (d + 1), List.forall_mem_cons.mpr ⟨vc687 d, fun _ h => absurd h List.not_mem_nil⟩⟩⟩⟩⟩⟩) (cpyX (d + 2)) (by decide +kernel)
def Kc691 : Con := ((210, [(2, 0, 0, [150]), (0, iLo, iHi, [])], []), [(150, 0, 0), (150, 11, 11), (160, 0, 4), (161, 0, 24)], [(some (0, (-1), (-1), []), [], []), (some (0, (-2), (-2), []), [], []), (some (0, 1, 60, []), [], [])])
set_option maxRecDepth 20000 in
theorem vc691 {l : Launch} {X : Nat × (Nat → Int32)} {e : Int} (d : Nat) : Vc l X U0 Pt3 e (d + 3) Kc691 :=
  ck (d := (d + 2)) (Ks := [Kc654, Kc656, Kc657, Kc687, Kc686]) (cy := 152) (cd := cdX7_dropsIn) (nl := 3) (fuel := 1000) (Hs := [((25, 0), ([(0, (2, 0, 0, [150])), (1, (0, 1, 0, [])), (2, (0, 2, 0, []))], [], [(0, 0), (0, 5), (1, 61)], []), [(0, 1, 0), (0, 2, 0)], (122, [(2, (-2))]), [])]) (by decide) rfl (fun na b => by rw [← ceX7_dropsIn]; exact tkX7_dropsIn) (List.forall_mem_cons.mpr ⟨vc654 (d + 2), List.forall_mem_cons.mpr ⟨vc656 (d + 1), List.forall_mem_cons.mpr ⟨vc657 (d + 2), List.forall_mem_cons.mpr ⟨vc687 d, List.forall_mem_cons.mpr ⟨vc686 (d + 1), fun _ h => absurd h List.not_mem_nil⟩⟩⟩⟩⟩) (cpyX (d + 2)) (by decide +kernel)
def Kc692 : Con := ((211, [(2, 0, 0, [150]), (0, iLo, iHi, [])], []), [(150, 0, 0), (150, 11, 11), (160, 0, 4), (161, 0, 24)], [(some (0, (-1), (-1), []), [], []), (some (0, (-2), (-2), []), [], []), (some (0, 0, 60, []), [], [])])
set_option maxRecDepth 20000 in
theorem vc692 {l : Launch} {X : Nat × (Nat → Int32)} {e : Int} (d : Nat) : Vc l X U0 Pt3 e (d + 3) Kc692 :=
  ck (d := (d + 2)) (Ks := [Kc654, Kc656, Kc657, Kc687, Kc686]) (cy := 152) (cd := cdX7_fallsIn) (nl := 3) (fuel := 1000) (Hs := [((25, 0), ([(0, (2, 0, 0, [150])), (1, (0, 1, 0, [])), (2, (0, 2, 0, []))], [], [(0, 0), (0, 5), (0, 61)], []), [(0, 1, 0), (0, 2, 0)], (122, [(2, (-2))]), [])]) (by decide) rfl (fun na b => by rw [← ceX7_fallsIn]; exact tkX7_fallsIn) (List.forall_mem_cons.mpr ⟨vc654 (d + 2), List.forall_mem_cons.mpr ⟨vc656 (d + 1), List.forall_mem_cons.mpr ⟨vc657 (d + 2), List.forall_mem_cons.mpr ⟨vc687 d, List.forall_mem_cons.mpr ⟨vc686 (d + 1), fun _ h => absurd h List.not_mem_nil⟩⟩⟩⟩⟩) (cpyX (d + 2)) (by decide +kernel)
def Kc693 : Con := ((149, [(0, iLo, iHi, []), (0, 1, 1, []), (0, 60, 60, [])], []), [], [(some (0, 0, 0, []), [], []), (some (0, 1, 1, []), [(0, 1, 60)], [])])
set_option maxRecDepth 20000 in
theorem vc693 {l : Launch} {X : Nat × (Nat → Int32)} {e : Int} (d : Nat) : Vc l X U0 Pt3 e d Kc693 :=
  ck (d := d) (Ks := []) (cy := 152) (cd := cdX7_in) (nl := 3) (fuel := 1000) (Hs := []) (by decide) rfl (fun na b => by rw [← ceX7_in]; exact tkX7_in) (fun _ h => absurd h List.not_mem_nil) (cpyX d) (by decide +kernel)
def Kc694 : Con := ((206, [(2, 0, 0, [150]), (0, 1, 1, []), (0, 1, 1, []), (0, iLo, iHi, [])], []), [], [(some (0, 2, 2, []), [], []), (some (0, 0, 0, []), [(3, 1, 60)], [])])
set_option maxRecDepth 20000 in
theorem vc694 {l : Launch} {X : Nat × (Nat → Int32)} {e : Int} (d : Nat) : Vc l X U0 Pt3 e (d + 1) Kc694 :=
  ck (d := d) (Ks := [Kc693, Kc681, Kc682]) (cy := 152) (cd := cdX7_aheadWhy) (nl := 4) (fuel := 1000) (Hs := []) (by decide) rfl (fun na b => by rw [← ceX7_aheadWhy]; exact tkX7_aheadWhy) (List.forall_mem_cons.mpr ⟨vc693 d, List.forall_mem_cons.mpr ⟨vc681 d, List.forall_mem_cons.mpr ⟨vc682 d, fun _ h => absurd h List.not_mem_nil⟩⟩⟩) (cpyX d) (by decide +kernel)
def Kc695 : Con := ((212, [(2, 0, 0, [150]), (0, iLo, iHi, [])], []), [(150, 0, 0), (150, 11, 11), (160, 0, 4), (161, 0, 24)], [(some (0, (-1), (-1), []), [], []), (some (0, iLo, iHi, []), [(1, 1, 60)], [])])
set_option maxRecDepth 20000 in
theorem vc695 {l : Launch} {X : Nat × (Nat → Int32)} {e : Int} (d : Nat) : Vc l X U0 Pt3 e (d + 3) Kc695 :=
  ck (d := (d + 2)) (Ks := [Kc654, Kc694, Kc657, Kc687]) (cy := 152) (cd := cdX7_wet) (nl := 3) (fuel := 1000) (Hs := []) (by decide) rfl (fun na b => by rw [← ceX7_wet]; exact tkX7_wet) (List.forall_mem_cons.mpr ⟨vc654 (d + 2), List.forall_mem_cons.mpr ⟨vc694 (d + 1), List.forall_mem_cons.mpr ⟨vc657 (d + 2), List.forall_mem_cons.mpr ⟨vc687 d, fun _ h => absurd h List.not_mem_nil⟩⟩⟩⟩) (cpyX (d + 2)) (by decide +kernel)
def Kc696 : Con := ((213, [(2, 0, 0, [150]), (0, 0, 19, []), (0, 0, 60, [])], []), [(160, 0, 4), (161, 0, 24)], [(some (0, iLo, iHi, []), [], [])])
set_option maxRecDepth 20000 in
theorem vc696 {l : Launch} {X : Nat × (Nat → Int32)} {e : Int} (d : Nat) : Vc l X U0 Pt3 e (d + 3) Kc696 :=
  ck (d := (d + 2)) (Ks := [Kc687, Kc686]) (cy := 152) (cd := cdX7_wetOften) (nl := 5) (fuel := 1000) (Hs := [((10, 0), ([(0, (2, 0, 0, [150])), (1, (0, 1, 0, [])), (2, (0, 2, 0, [])), (3, (0, 3, 0, [])), (4, (0, 4, 0, []))], [], [(0, 0), (0, 19), (0, 60), (iLo, iHi), (1, 61)], []), [(0, 1, 0), (0, 2, 0), (0, 3, 0), (0, 4, 0)], (122, [(4, (-2))]), [])]) (by decide) rfl (fun na b => by rw [← ceX7_wetOften]; exact tkX7_wetOften) (List.forall_mem_cons.mpr ⟨vc687 d, List.forall_mem_cons.mpr ⟨vc686 (d + 1), fun _ h => absurd h List.not_mem_nil⟩⟩) (cpyX (d + 2)) (by decide +kernel)
def Kc697 : Con := ((214, [(2, 0, 0, [150]), (0, iLo, iHi, []), (0, iLo, iHi, [])], []), [(150, 0, 0), (150, 11, 11), (160, 0, 4), (161, 0, 24)], [(some (0, (-1), (-1), []), [], []), (some (0, iLo, iHi, []), [(1, 0, 19), (2, 0, 60)], [])])
set_option maxRecDepth 20000 in
theorem vc697 {l : Launch} {X : Nat × (Nat → Int32)} {e : Int} (d : Nat) : Vc l X U0 Pt3 e (d + 4) Kc697 :=
  ck (d := (d + 3)) (Ks := [Kc654, Kc666, Kc680, Kc657, Kc683, Kc696]) (cy := 152) (cd := cdX7_wetDays) (nl := 4) (fuel := 1000) (Hs := []) (by decide) rfl (fun na b => by rw [← ceX7_wetDays]; exact tkX7_wetDays) (List.forall_mem_cons.mpr ⟨vc654 (d + 3), List.forall_mem_cons.mpr ⟨vc666 (d + 2), List.forall_mem_cons.mpr ⟨vc680 (d + 2), List.forall_mem_cons.mpr ⟨vc657 (d + 3), List.forall_mem_cons.mpr ⟨vc683 (d + 2), List.forall_mem_cons.mpr ⟨vc696 d, fun _ h => absurd h List.not_mem_nil⟩⟩⟩⟩⟩⟩) (cpyX (d + 3)) (by decide +kernel)
def Kc698 : Con := ((213, [(2, 0, 0, [150]), (0, 0, 0, []), (0, 60, 60, [])], []), [(160, 0, 4), (161, 0, 24)], [(some (0, iLo, iHi, []), [], [])])
set_option maxRecDepth 20000 in
theorem vc698 {l : Launch} {X : Nat × (Nat → Int32)} {e : Int} (d : Nat) : Vc l X U0 Pt3 e (d + 3) Kc698 :=
  ck (d := (d + 2)) (Ks := [Kc687, Kc686]) (cy := 152) (cd := cdX7_wetOften) (nl := 5) (fuel := 1000) (Hs := [((10, 0), ([(0, (2, 0, 0, [150])), (1, (0, 1, 0, [])), (2, (0, 2, 0, [])), (3, (0, 3, 0, [])), (4, (0, 4, 0, []))], [], [(0, 0), (0, 0), (60, 60), (iLo, iHi), (1, 61)], []), [(0, 1, 0), (0, 2, 0), (0, 3, 0), (0, 4, 0)], (122, [(4, (-2))]), [])]) (by decide) rfl (fun na b => by rw [← ceX7_wetOften]; exact tkX7_wetOften) (List.forall_mem_cons.mpr ⟨vc687 d, List.forall_mem_cons.mpr ⟨vc686 (d + 1), fun _ h => absurd h List.not_mem_nil⟩⟩) (cpyX (d + 2)) (by decide +kernel)
def Kc699 : Con := ((213, [(2, 0, 0, [150]), (0, 1, 19, []), (0, 60, 60, [])], []), [(160, 0, 4), (161, 0, 24)], [(some (0, iLo, iHi, []), [], [])])
set_option maxRecDepth 20000 in
theorem vc699 {l : Launch} {X : Nat × (Nat → Int32)} {e : Int} (d : Nat) : Vc l X U0 Pt3 e (d + 3) Kc699 :=
  ck (d := (d + 2)) (Ks := [Kc687, Kc686]) (cy := 152) (cd := cdX7_wetOften) (nl := 5) (fuel := 1000) (Hs := [((10, 0), ([(0, (2, 0, 0, [150])), (1, (0, 1, 0, [])), (2, (0, 2, 0, [])), (3, (0, 3, 0, [])), (4, (0, 4, 0, []))], [], [(0, 0), (1, 19), (60, 60), (iLo, iHi), (1, 61)], []), [(0, 1, 0), (0, 2, 0), (0, 3, 0), (0, 4, 0)], (122, [(4, (-2))]), [])]) (by decide) rfl (fun na b => by rw [← ceX7_wetOften]; exact tkX7_wetOften) (List.forall_mem_cons.mpr ⟨vc687 d, List.forall_mem_cons.mpr ⟨vc686 (d + 1), fun _ h => absurd h List.not_mem_nil⟩⟩) (cpyX (d + 2)) (by decide +kernel)
def Kc700 : Con := ((215, [(2, 0, 0, [150])], []), [(150, 0, 0), (150, 11, 11), (160, 0, 4), (161, 0, 24)], [(some (0, 0, 19, []), [], [])])
set_option maxRecDepth 20000 in
theorem vc700 {l : Launch} {X : Nat × (Nat → Int32)} {e : Int} (d : Nat) : Vc l X U0 Pt3 e (d + 4) Kc700 :=
  ck (d := (d + 3)) (Ks := [Kc654, Kc698, Kc664, Kc699]) (cy := 152) (cd := cdX7_wettest) (nl := 5) (fuel := 1000) (Hs := [((29, 0), ([(0, (2, 0, 0, [150])), (1, (0, 1, 0, [])), (2, (0, 2, 0, [])), (3, (0, 3, 0, []))], [], [(0, 0), (0, 19), (iLo, iHi), (1, 20)], []), [(0, 1, 0), (0, 2, 0), (0, 3, 0)], (40, [(3, (-2))]), [])]) (by decide) rfl (fun na b => by rw [← ceX7_wettest]; exact tkX7_wettest) (List.forall_mem_cons.mpr ⟨vc654 (d + 3), List.forall_mem_cons.mpr ⟨vc698 d, List.forall_mem_cons.mpr ⟨vc664 (d + 3), List.forall_mem_cons.mpr ⟨vc699 d, fun _ h => absurd h List.not_mem_nil⟩⟩⟩⟩) (cpyX (d + 3)) (by decide +kernel)
def Kc701 : Con := ((216, [(2, 0, 0, [150])], []), [(150, 0, 0), (150, 11, 11), (160, 0, 4), (161, 0, 24)], [(some (0, (-2), (-2), []), [], []), (some (0, 1, 60, []), [], [])])
set_option maxRecDepth 20000 in
theorem vc701 {l : Launch} {X : Nat × (Nat → Int32)} {e : Int} (d : Nat) : Vc l X U0 Pt3 e (d + 3) Kc701 :=
  ck (d := (d + 2)) (Ks := [Kc654, Kc687, Kc686]) (cy := 152) (cd := cdX7_sunny) (nl := 2) (fuel := 1000) (Hs := [((24, 0), ([(0, (2, 0, 0, [150])), (1, (0, 1, 0, []))], [], [(0, 0), (1, 61)], []), [(0, 1, 0)], (122, [(1, (-2))]), [])]) (by decide) rfl (fun na b => by rw [← ceX7_sunny]; exact tkX7_sunny) (List.forall_mem_cons.mpr ⟨vc654 (d + 2), List.forall_mem_cons.mpr ⟨vc687 d, List.forall_mem_cons.mpr ⟨vc686 (d + 1), fun _ h => absurd h List.not_mem_nil⟩⟩⟩) (cpyX (d + 2)) (by decide +kernel)
def Kc702 : Con := ((217, [(2, 0, 0, [150])], []), [(150, 0, 0), (150, 11, 11), (160, 0, 4), (161, 0, 24)], [(some (0, iLo, iHi, []), [], [])])
set_option maxRecDepth 20000 in
theorem vc702 {l : Launch} {X : Nat × (Nat → Int32)} {e : Int} (d : Nat) : Vc l X U0 Pt3 e (d + 3) Kc702 :=
  ck (d := (d + 2)) (Ks := [Kc654, Kc687, Kc686]) (cy := 152) (cd := cdX7_heaviest) (nl := 4) (fuel := 1000) (Hs := [((26, 0), ([(0, (2, 0, 0, [150])), (1, (0, 1, 0, [])), (2, (0, 2, 0, []))], [], [(0, 0), (iLo, iHi), (1, 61)], []), [(0, 1, 0), (0, 2, 0)], (1486, [(2, (-24))]), []), ((43, 0), ([(0, (2, 0, 0, [150])), (1, (0, 1, 0, [])), (2, (0, 2, 0, [])), (3, (0, 3, 0, []))], [], [(0, 0), (iLo, iHi), (1, 60), (0, 6)], []), [(0, 1, 0), (0, 2, 0), (0, 3, 0)], (1482, [(2, (-24)), (3, (-3))]), [])]) (by decide) rfl (fun na b => by rw [← ceX7_heaviest]; exact tkX7_heaviest) (List.forall_mem_cons.mpr ⟨vc654 (d + 2), List.forall_mem_cons.mpr ⟨vc687 d, List.forall_mem_cons.mpr ⟨vc686 (d + 1), fun _ h => absurd h List.not_mem_nil⟩⟩⟩) (cpyX (d + 2)) (by decide +kernel)
def Kc703 : Con := ((196, [(2, 0, 0, [150]), (2, 0, 0, [161])], []), [], [(some (0, iLo, iHi, []), [], [])])
set_option maxRecDepth 20000 in
theorem vc703 {l : Launch} {X : Nat × (Nat → Int32)} {e : Int} (d : Nat) : Vc l X U0 Pt3 e d Kc703 :=
  ck (d := d) (Ks := []) (cy := 152) (cd := cdX7_fallenOn) (nl := 4) (fuel := 1000) (Hs := [((4, 0), ([(0, (2, 0, 0, [150])), (1, (2, 0, 0, [161])), (2, (0, 1, 0, [])), (3, (0, 2, 0, []))], [], [(0, 0), (iLo, iHi), (0, 6)], []), [(0, 2, 0), (0, 3, 0)], (12, [(2, (-2))]), [])]) (by decide) rfl (fun na b => by rw [← ceX7_fallenOn]; exact tkX7_fallenOn) (fun _ h => absurd h List.not_mem_nil) (cpyX d) (by decide +kernel)
def Kc704 : Con := ((218, [(2, 0, 0, [150]), (0, iLo, iHi, [])], []), [(150, 0, 0), (150, 11, 11), (160, 0, 4), (161, 0, 24)], [(some (0, (-1), (-1), []), [], []), (some (0, iLo, iHi, []), [(1, 0, 60)], [])])
set_option maxRecDepth 20000 in
theorem vc704 {l : Launch} {X : Nat × (Nat → Int32)} {e : Int} (d : Nat) : Vc l X U0 Pt3 e (d + 3) Kc704 :=
  ck (d := (d + 2)) (Ks := [Kc654, Kc683, Kc657, Kc687, Kc703]) (cy := 152) (cd := cdX7_fallen) (nl := 3) (fuel := 1000) (Hs := []) (by decide) rfl (fun na b => by rw [← ceX7_fallen]; exact tkX7_fallen) (List.forall_mem_cons.mpr ⟨vc654 (d + 2), List.forall_mem_cons.mpr ⟨vc683 (d + 1), List.forall_mem_cons.mpr ⟨vc657 (d + 2), List.forall_mem_cons.mpr ⟨vc687 d, List.forall_mem_cons.mpr ⟨vc703 (d + 2), fun _ h => absurd h List.not_mem_nil⟩⟩⟩⟩⟩) (cpyX (d + 2)) (by decide +kernel)
def Kc705 : Con := ((149, [(0, iLo, iHi, []), (0, 1, 1, []), (0, 30, 30, [])], []), [], [(some (0, 0, 0, []), [], []), (some (0, 1, 1, []), [(0, 1, 30)], [])])
set_option maxRecDepth 20000 in
theorem vc705 {l : Launch} {X : Nat × (Nat → Int32)} {e : Int} (d : Nat) : Vc l X U0 Pt3 e d Kc705 :=
  ck (d := d) (Ks := []) (cy := 152) (cd := cdX7_in) (nl := 3) (fuel := 1000) (Hs := []) (by decide) rfl (fun na b => by rw [← ceX7_in]; exact tkX7_in) (fun _ h => absurd h List.not_mem_nil) (cpyX d) (by decide +kernel)
def Kc706 : Con := ((222, [(2, 0, 0, [150]), (0, 0, 0, []), (0, iLo, iHi, [])], []), [], [(some (0, 1, 1, []), [], [])])
set_option maxRecDepth 20000 in
theorem vc706 {l : Launch} {X : Nat × (Nat → Int32)} {e : Int} (d : Nat) : Vc l X U0 Pt3 e (d + 1) Kc706 :=
  ck (d := d) (Ks := [Kc705, Kc678, Kc679]) (cy := 152) (cd := cdX7_planWhy) (nl := 3) (fuel := 1000) (Hs := []) (by decide) rfl (fun na b => by rw [← ceX7_planWhy]; exact tkX7_planWhy) (List.forall_mem_cons.mpr ⟨vc705 d, List.forall_mem_cons.mpr ⟨vc678 d, List.forall_mem_cons.mpr ⟨vc679 d, fun _ h => absurd h List.not_mem_nil⟩⟩⟩) (cpyX d) (by decide +kernel)
def Kc707 : Con := ((222, [(2, 0, 0, [150]), (0, 1, 1, []), (0, iLo, iHi, [])], []), [], [(some (0, 2, 2, []), [], []), (some (0, 0, 0, []), [(2, 1, 30)], [])])
set_option maxRecDepth 20000 in
theorem vc707 {l : Launch} {X : Nat × (Nat → Int32)} {e : Int} (d : Nat) : Vc l X U0 Pt3 e (d + 1) Kc707 :=
  ck (d := d) (Ks := [Kc705, Kc681, Kc682]) (cy := 152) (cd := cdX7_planWhy) (nl := 3) (fuel := 1000) (Hs := []) (by decide) rfl (fun na b => by rw [← ceX7_planWhy]; exact tkX7_planWhy) (List.forall_mem_cons.mpr ⟨vc705 d, List.forall_mem_cons.mpr ⟨vc681 d, List.forall_mem_cons.mpr ⟨vc682 d, fun _ h => absurd h List.not_mem_nil⟩⟩⟩) (cpyX d) (by decide +kernel)
def Kc708 : Con := ((221, [(2, 0, 0, [150]), (0, 0, 2, []), (0, 0, 5, [])], []), [], [(some (0, 0, 0, []), [], []), (some (0, 1, 1, []), [], [])])
set_option maxRecDepth 20000 in
theorem vc708 {l : Launch} {X : Nat × (Nat → Int32)} {e : Int} (d : Nat) : Vc l X U0 Pt3 e (d + 1) Kc708 :=
  ck (d := d) (Ks := [Kc659]) (cy := 152) (cd := cdX7_mayHave) (nl := 3) (fuel := 1000) (Hs := []) (by decide) rfl (fun na b => by rw [← ceX7_mayHave]; exact tkX7_mayHave) (List.forall_mem_cons.mpr ⟨vc659 d, fun _ h => absurd h List.not_mem_nil⟩) (cpyX d) (by decide +kernel)
def Kc709 : Con := ((219, [(2, 0, 0, [150])], []), [(162, 0, 2)], [(none, [], [])])
set_option maxRecDepth 20000 in
theorem vc709 {l : Launch} {X : Nat × (Nat → Int32)} {e : Int} (d : Nat) : Vc l X U0 Pt3 e d Kc709 :=
  ck (d := d) (Ks := []) (cy := 152) (cd := cdX7_planAsNow) (nl := 2) (fuel := 1000) (Hs := [((2, 0), ([(0, (2, 0, 0, [150])), (1, (0, 1, 0, []))], [], [(0, 0), (0, 3)], []), [(0, 1, 0)], (6, [(1, (-2))]), [])]) (by decide) rfl (fun na b => by rw [← ceX7_planAsNow]; exact tkX7_planAsNow) (fun _ h => absurd h List.not_mem_nil) (cpyX d) (by decide +kernel)
def Kc710 : Con := ((151, [(0, iLo, iHi, [])], []), [], [(some (0, iLo, iHi, []), [], [])])
set_option maxRecDepth 20000 in
theorem vc710 {l : Launch} {X : Nat × (Nat → Int32)} {e : Int} (d : Nat) : Vc l X U0 Pt3 e d Kc710 :=
  ck (d := d) (Ks := []) (cy := 152) (cd := cdX7_ones) (nl := 3) (fuel := 1000) (Hs := [((4, 0), ([(0, (0, 1, 0, [])), (1, (0, 2, 0, [])), (2, (0, 3, 0, []))], [], [(0, 0), (iLo, iHi), (iLo, iHi), (0, 8)], []), [(0, 0, 0), (0, 1, 0), (0, 2, 0)], (16, [(3, (-2))]), [])]) (by decide) rfl (fun na b => by rw [← ceX7_ones]; exact tkX7_ones) (fun _ h => absurd h List.not_mem_nil) (cpyX d) (by decide +kernel)
def Kc711 : Con := ((196, [(2, 0, 0, [150]), (2, 0, 0, [157])], []), [], [(some (0, iLo, iHi, []), [], [])])
set_option maxRecDepth 20000 in
theorem vc711 {l : Launch} {X : Nat × (Nat → Int32)} {e : Int} (d : Nat) : Vc l X U0 Pt3 e d Kc711 :=
  ck (d := d) (Ks := []) (cy := 152) (cd := cdX7_fallenOn) (nl := 4) (fuel := 1000) (Hs := [((4, 0), ([(0, (2, 0, 0, [150])), (1, (2, 0, 0, [157])), (2, (0, 1, 0, [])), (3, (0, 2, 0, []))], [], [(0, 0), (iLo, iHi), (0, 6)], []), [(0, 2, 0), (0, 3, 0)], (12, [(2, (-2))]), [])]) (by decide) rfl (fun na b => by rw [← ceX7_fallenOn]; exact tkX7_fallenOn) (fun _ h => absurd h List.not_mem_nil) (cpyX d) (by decide +kernel)
def Kc712 : Con := ((195, [(2, 0, 0, [150]), (2, 0, 0, [161])], []), [], [(some (0, iLo, iHi, []), [], [])])
set_option maxRecDepth 20000 in
theorem vc712 {l : Launch} {X : Nat × (Nat → Int32)} {e : Int} (d : Nat) : Vc l X U0 Pt3 e d Kc712 :=
  ck (d := d) (Ks := []) (cy := 152) (cd := cdX7_letsOf) (nl := 4) (fuel := 1000) (Hs := [((4, 0), ([(0, (2, 0, 0, [150])), (1, (2, 0, 0, [161])), (2, (0, 1, 0, [])), (3, (0, 2, 0, []))], [], [(0, 0), (iLo, iHi), (0, 6)], []), [(0, 2, 0), (0, 3, 0)], (12, [(2, (-2))]), [])]) (by decide) rfl (fun na b => by rw [← ceX7_letsOf]; exact tkX7_letsOf) (fun _ h => absurd h List.not_mem_nil) (cpyX d) (by decide +kernel)
def Kc713 : Con := ((195, [(2, 0, 0, [150]), (2, 0, 0, [157])], []), [], [(some (0, iLo, iHi, []), [], [])])
set_option maxRecDepth 20000 in
theorem vc713 {l : Launch} {X : Nat × (Nat → Int32)} {e : Int} (d : Nat) : Vc l X U0 Pt3 e d Kc713 :=
  ck (d := d) (Ks := []) (cy := 152) (cd := cdX7_letsOf) (nl := 4) (fuel := 1000) (Hs := [((4, 0), ([(0, (2, 0, 0, [150])), (1, (2, 0, 0, [157])), (2, (0, 1, 0, [])), (3, (0, 2, 0, []))], [], [(0, 0), (iLo, iHi), (0, 6)], []), [(0, 2, 0), (0, 3, 0)], (12, [(2, (-2))]), [])]) (by decide) rfl (fun na b => by rw [← ceX7_letsOf]; exact tkX7_letsOf) (fun _ h => absurd h List.not_mem_nil) (cpyX d) (by decide +kernel)
def Kc714 : Con := ((220, [(2, 0, 0, [150]), (0, iLo, iHi, [])], []), [(150, 29, 30), (160, 0, 4), (161, 0, 24)], [(none, [], [])])
set_option maxRecDepth 20000 in
theorem vc714 {l : Launch} {X : Nat × (Nat → Int32)} {e : Int} (d : Nat) : Vc l X U0 Pt3 e (d + 2) Kc714 :=
  ck (d := (d + 1)) (Ks := [Kc684, Kc703, Kc710, Kc711, Kc712, Kc713, Kc686]) (cy := 152) (cd := cdX7_goByPlan) (nl := 3) (fuel := 1000) (Hs := [((22, 0), ([(0, (2, 0, 0, [150])), (1, (0, 1, 0, [])), (2, (0, 2, 0, []))], [], [(0, 0), (iLo, iHi), (0, 3)], []), [(0, 1, 0), (0, 2, 0)], (6442450954, [(2, (-3))]), []), ((55, 0), ([(0, (2, 0, 0, [150])), (1, (0, 1, 0, [])), (2, (0, 2, 0, []))], [], [(0, 0), (iLo, iHi), (0, iHi)], []), [(0, 1, 0), (0, 2, 0)], (6442450941, [(2, (-3))]), [])]) (by decide) rfl (fun na b => by rw [← ceX7_goByPlan]; exact tkX7_goByPlan) (List.forall_mem_cons.mpr ⟨vc684 d, List.forall_mem_cons.mpr ⟨vc703 (d + 1), List.forall_mem_cons.mpr ⟨vc710 (d + 1), List.forall_mem_cons.mpr ⟨vc711 (d + 1), List.forall_mem_cons.mpr ⟨vc712 (d + 1), List.forall_mem_cons.mpr ⟨vc713 (d + 1), List.forall_mem_cons.mpr ⟨vc686 d, fun _ h => absurd h List.not_mem_nil⟩⟩⟩⟩⟩⟩⟩) (cpyX (d + 1)) (by decide +kernel)
def Kc715 : Con := ((223, [(2, 0, 0, [150]), (0, iLo, iHi, []), (0, iLo, iHi, []), (0, iLo, iHi, [])], []), [(150, 0, 0), (150, 11, 11), (150, 29, 30), (160, 0, 4), (161, 0, 24), (162, 0, 2)], [(some (0, (-1), (-1), []), [], []), (some (0, iLo, iHi, []), [(1, 0, 2), (2, 0, 5), (3, 1, 30)], [])])
set_option maxRecDepth 20000 in
theorem vc715 {l : Launch} {X : Nat × (Nat → Int32)} {e : Int} (d : Nat) : Vc l X U0 Pt3 e (d + 3) Kc715 :=
  ck (d := (d + 2)) (Ks := [Kc654, Kc662, Kc706, Kc657, Kc656, Kc707, Kc708, Kc709, Kc714]) (cy := 152) (cd := cdX7_dropsIf) (nl := 5) (fuel := 1000) (Hs := []) (by decide) rfl (fun na b => by rw [← ceX7_dropsIf]; exact tkX7_dropsIf) (List.forall_mem_cons.mpr ⟨vc654 (d + 2), List.forall_mem_cons.mpr ⟨vc662 (d + 1), List.forall_mem_cons.mpr ⟨vc706 (d + 1), List.forall_mem_cons.mpr ⟨vc657 (d + 2), List.forall_mem_cons.mpr ⟨vc656 (d + 1), List.forall_mem_cons.mpr ⟨vc707 (d + 1), List.forall_mem_cons.mpr ⟨vc708 (d + 1), List.forall_mem_cons.mpr ⟨vc709 (d + 2), List.forall_mem_cons.mpr ⟨vc714 d, fun _ h => absurd h List.not_mem_nil⟩⟩⟩⟩⟩⟩⟩⟩⟩) (cpyX (d + 2)) (by decide +kernel)
def Kc716 : Con := ((224, [(2, 0, 0, [150]), (0, iLo, iHi, [])], []), [(150, 29, 32), (160, 0, 4), (161, 0, 24), (163, 0, 4)], [(some (0, 1, 1, []), [], []), (some (0, 0, 0, []), [], [])])
set_option maxRecDepth 20000 in
theorem vc716 {l : Launch} {X : Nat × (Nat → Int32)} {e : Int} (d : Nat) : Vc l X U0 Pt3 e (d + 3) Kc716 :=
  ck (d := (d + 2)) (Ks := [Kc714]) (cy := 152) (cd := cdX7_isBest) (nl := 2) (fuel := 1000) (Hs := []) (by decide) rfl (fun na b => by rw [← ceX7_isBest]; exact tkX7_isBest) (List.forall_mem_cons.mpr ⟨vc714 d, fun _ h => absurd h List.not_mem_nil⟩) (cpyX (d + 2)) (by decide +kernel)
def Kc717 : Con := ((225, [(2, 0, 0, [150]), (0, iLo, iHi, []), (0, iLo, iHi, [])], []), [(150, 0, 0), (150, 11, 11), (150, 29, 32), (160, 0, 4), (161, 0, 24), (162, 0, 2), (163, 0, 4)], [(some (0, (-1), (-1), []), [], []), (some (0, (-2), 5, []), [], [])])
set_option maxRecDepth 20000 in
theorem vc717 {l : Launch} {X : Nat × (Nat → Int32)} {e : Int} (d : Nat) : Vc l X U0 Pt3 e (d + 4) Kc717 :=
  ck (d := (d + 3)) (Ks := [Kc654, Kc662, Kc706, Kc657, Kc707, Kc709, Kc708, Kc716]) (cy := 152) (cd := cdX7_faceFor) (nl := 6) (fuel := 1000) (Hs := [((42, 0), ([(0, (2, 0, 0, [150])), (1, (0, 1, 0, [])), (2, (0, 2, 0, [])), (4, (0, 3, 0, [])), (5, (0, 4, 0, []))], [], [(0, 0), (0, 2), (1, 30), ((-2), 5), (0, 6)], []), [(0, 1, 0), (0, 2, 0), (0, 4, 0), (0, 5, 0)], (12, [(4, (-2))]), [])]) (by decide) rfl (fun na b => by rw [← ceX7_faceFor]; exact tkX7_faceFor) (List.forall_mem_cons.mpr ⟨vc654 (d + 3), List.forall_mem_cons.mpr ⟨vc662 (d + 2), List.forall_mem_cons.mpr ⟨vc706 (d + 2), List.forall_mem_cons.mpr ⟨vc657 (d + 3), List.forall_mem_cons.mpr ⟨vc707 (d + 2), List.forall_mem_cons.mpr ⟨vc709 (d + 3), List.forall_mem_cons.mpr ⟨vc708 (d + 2), List.forall_mem_cons.mpr ⟨vc716 d, fun _ h => absurd h List.not_mem_nil⟩⟩⟩⟩⟩⟩⟩⟩) (cpyX (d + 3)) (by decide +kernel)
def Kc718 : Con := ((226, [(2, 0, 0, [150]), (0, 3, 3, []), (0, iLo, iHi, []), (0, iLo, iHi, [])], []), [(150, 29, 32), (160, 0, 4), (161, 0, 24), (163, 0, 4)], [(none, [], [])])
set_option maxRecDepth 20000 in
theorem vc718 {l : Launch} {X : Nat × (Nat → Int32)} {e : Int} (d : Nat) : Vc l X U0 Pt3 e (d + 4) Kc718 :=
  ck (d := (d + 3)) (Ks := [Kc716]) (cy := 152) (cd := cdX7_tryPlans) (nl := 5) (fuel := 1000) (Hs := []) (by decide) rfl (fun na b => by rw [← ceX7_tryPlans]; exact tkX7_tryPlans) (List.forall_mem_cons.mpr ⟨vc716 d, fun _ h => absurd h List.not_mem_nil⟩) (cpyX (d + 3)) (by decide +kernel)
def Kc719 : Con := ((226, [(2, 0, 0, [150]), (0, 2, 2, []), (0, iLo, iHi, []), (0, iLo, iHi, [])], []), [(150, 29, 32), (160, 0, 4), (161, 0, 24), (162, 2, 2), (163, 0, 4)], [(none, [], [])])
set_option maxRecDepth 20000 in
theorem vc719 {l : Launch} {X : Nat × (Nat → Int32)} {e : Int} (d : Nat) : Vc l X U0 Pt3 e (d + 5) Kc719 :=
  ck (d := (d + 4)) (Ks := [Kc671, Kc718]) (cy := 152) (cd := cdX7_tryPlans) (nl := 5) (fuel := 1000) (Hs := [((20, 0), ([(0, (2, 0, 0, [150])), (1, (0, 1, 0, [])), (2, (0, 2, 0, [])), (3, (0, 3, 0, [])), (4, (0, 4, 0, []))], [], [(0, 0), (2, 2), (iLo, iHi), (iLo, iHi), (0, 6)], []), [(0, 1, 0), (0, 2, 0), (0, 3, 0), (0, 4, 0)], (12, [(4, (-2))]), [])]) (by decide) rfl (fun na b => by rw [← ceX7_tryPlans]; exact tkX7_tryPlans) (List.forall_mem_cons.mpr ⟨vc671 (d + 4), List.forall_mem_cons.mpr ⟨vc718 d, fun _ h => absurd h List.not_mem_nil⟩⟩) (cpyX (d + 4)) (by decide +kernel)
def Kc720 : Con := ((226, [(2, 0, 0, [150]), (0, 1, 1, []), (0, iLo, iHi, []), (0, iLo, iHi, [])], []), [(150, 29, 32), (160, 0, 4), (161, 0, 24), (162, 1, 2), (163, 0, 4)], [(none, [], [])])
set_option maxRecDepth 20000 in
theorem vc720 {l : Launch} {X : Nat × (Nat → Int32)} {e : Int} (d : Nat) : Vc l X U0 Pt3 e (d + 6) Kc720 :=
  ck (d := (d + 5)) (Ks := [Kc671, Kc719]) (cy := 152) (cd := cdX7_tryPlans) (nl := 5) (fuel := 1000) (Hs := [((20, 0), ([(0, (2, 0, 0, [150])), (1, (0, 1, 0, [])), (2, (0, 2, 0, [])), (3, (0, 3, 0, [])), (4, (0, 4, 0, []))], [], [(0, 0), (1, 1), (iLo, iHi), (iLo, iHi), (0, 6)], []), [(0, 1, 0), (0, 2, 0), (0, 3, 0), (0, 4, 0)], (12, [(4, (-2))]), [])]) (by decide) rfl (fun na b => by rw [← ceX7_tryPlans]; exact tkX7_tryPlans) (List.forall_mem_cons.mpr ⟨vc671 (d + 5), List.forall_mem_cons.mpr ⟨vc719 d, fun _ h => absurd h List.not_mem_nil⟩⟩) (cpyX (d + 5)) (by decide +kernel)
def Kc721 : Con := ((226, [(2, 0, 0, [150]), (0, 0, 0, []), (0, iLo, iHi, []), (0, iLo, iHi, [])], []), [(150, 29, 32), (160, 0, 4), (161, 0, 24), (162, 0, 2), (163, 0, 4)], [(none, [], [])])
set_option maxRecDepth 20000 in
theorem vc721 {l : Launch} {X : Nat × (Nat → Int32)} {e : Int} (d : Nat) : Vc l X U0 Pt3 e (d + 7) Kc721 :=
  ck (d := (d + 6)) (Ks := [Kc671, Kc720]) (cy := 152) (cd := cdX7_tryPlans) (nl := 5) (fuel := 1000) (Hs := [((20, 0), ([(0, (2, 0, 0, [150])), (1, (0, 1, 0, [])), (2, (0, 2, 0, [])), (3, (0, 3, 0, [])), (4, (0, 4, 0, []))], [], [(0, 0), (0, 0), (iLo, iHi), (iLo, iHi), (0, 6)], []), [(0, 1, 0), (0, 2, 0), (0, 3, 0), (0, 4, 0)], (12, [(4, (-2))]), [])]) (by decide) rfl (fun na b => by rw [← ceX7_tryPlans]; exact tkX7_tryPlans) (List.forall_mem_cons.mpr ⟨vc671 (d + 6), List.forall_mem_cons.mpr ⟨vc720 d, fun _ h => absurd h List.not_mem_nil⟩⟩) (cpyX (d + 6)) (by decide +kernel)
def Kc722 : Con := ((227, [(2, 0, 0, [150]), (0, iLo, iHi, [])], []), [(150, 29, 32), (160, 0, 4), (161, 0, 24), (162, 0, 2), (163, 0, 4)], [(none, [], [])])
set_option maxRecDepth 20000 in
theorem vc722 {l : Launch} {X : Nat × (Nat → Int32)} {e : Int} (d : Nat) : Vc l X U0 Pt3 e (d + 8) Kc722 :=
  ck (d := (d + 7)) (Ks := [Kc721]) (cy := 152) (cd := cdX7_seekMatch) (nl := 2) (fuel := 1000) (Hs := []) (by decide) rfl (fun na b => by rw [← ceX7_seekMatch]; exact tkX7_seekMatch) (List.forall_mem_cons.mpr ⟨vc721 d, fun _ h => absurd h List.not_mem_nil⟩) (cpyX (d + 7)) (by decide +kernel)
def Kc723 : Con := ((228, [(2, 0, 0, [150]), (0, iLo, iHi, [])], []), [(150, 0, 0), (150, 11, 11), (150, 29, 32), (160, 0, 4), (161, 0, 24), (162, 0, 2), (163, 0, 4)], [(some (0, (-1), (-1), []), [], []), (some (0, iLo, iHi, []), [(1, 1, 30)], [])])
set_option maxRecDepth 20000 in
theorem vc723 {l : Launch} {X : Nat × (Nat → Int32)} {e : Int} (d : Nat) : Vc l X U0 Pt3 e (d + 9) Kc723 :=
  ck (d := (d + 8)) (Ks := [Kc654, Kc707, Kc657, Kc722]) (cy := 152) (cd := cdX7_match) (nl := 3) (fuel := 1000) (Hs := []) (by decide) rfl (fun na b => by rw [← ceX7_match]; exact tkX7_match) (List.forall_mem_cons.mpr ⟨vc654 (d + 8), List.forall_mem_cons.mpr ⟨vc707 (d + 7), List.forall_mem_cons.mpr ⟨vc657 (d + 8), List.forall_mem_cons.mpr ⟨vc722 d, fun _ h => absurd h List.not_mem_nil⟩⟩⟩⟩) (cpyX (d + 8)) (by decide +kernel)
def Kc724 : Con := ((229, [(2, 0, 0, [150]), (0, iLo, iHi, [])], []), [(150, 0, 0), (150, 11, 11), (150, 29, 32), (160, 0, 4), (161, 0, 24), (162, 0, 2), (163, 0, 4)], [(some (0, (-1), (-1), []), [], []), (some (0, iLo, iHi, []), [(1, 1, 30)], [])])
set_option maxRecDepth 20000 in
theorem vc724 {l : Launch} {X : Nat × (Nat → Int32)} {e : Int} (d : Nat) : Vc l X U0 Pt3 e (d + 9) Kc724 :=
  ck (d := (d + 8)) (Ks := [Kc654, Kc707, Kc657, Kc722]) (cy := 152) (cd := cdX7_matchDrops) (nl := 3) (fuel := 1000) (Hs := []) (by decide) rfl (fun na b => by rw [← ceX7_matchDrops]; exact tkX7_matchDrops) (List.forall_mem_cons.mpr ⟨vc654 (d + 8), List.forall_mem_cons.mpr ⟨vc707 (d + 7), List.forall_mem_cons.mpr ⟨vc657 (d + 8), List.forall_mem_cons.mpr ⟨vc722 d, fun _ h => absurd h List.not_mem_nil⟩⟩⟩⟩) (cpyX (d + 8)) (by decide +kernel)
def Kc725 : Con := ((230, [(2, 0, 0, [150]), (0, iLo, iHi, []), (0, iLo, iHi, [])], []), [(150, 0, 0), (150, 11, 11), (150, 29, 32), (160, 0, 4), (161, 0, 24), (162, 0, 2), (163, 0, 4)], [(some (0, (-1), (-1), []), [], []), (some (0, 0, 5, []), [(1, 0, 2), (2, 1, 30)], [])])
set_option maxRecDepth 20000 in
theorem vc725 {l : Launch} {X : Nat × (Nat → Int32)} {e : Int} (d : Nat) : Vc l X U0 Pt3 e (d + 9) Kc725 :=
  ck (d := (d + 8)) (Ks := [Kc654, Kc662, Kc706, Kc657, Kc707, Kc722]) (cy := 152) (cd := cdX7_matchAt) (nl := 4) (fuel := 1000) (Hs := []) (by decide) rfl (fun na b => by rw [← ceX7_matchAt]; exact tkX7_matchAt) (List.forall_mem_cons.mpr ⟨vc654 (d + 8), List.forall_mem_cons.mpr ⟨vc662 (d + 7), List.forall_mem_cons.mpr ⟨vc706 (d + 7), List.forall_mem_cons.mpr ⟨vc657 (d + 8), List.forall_mem_cons.mpr ⟨vc707 (d + 7), List.forall_mem_cons.mpr ⟨vc722 d, fun _ h => absurd h List.not_mem_nil⟩⟩⟩⟩⟩⟩) (cpyX (d + 8)) (by decide +kernel)
def Kc726 : Con := ((232, [(2, 0, 0, [150]), (0, 0, 19, []), (0, iLo, iHi, [])], []), [(164, 0, 19)], [(none, [], [])])
set_option maxRecDepth 20000 in
theorem vc726 {l : Launch} {X : Nat × (Nat → Int32)} {e : Int} (d : Nat) : Vc l X U0 Pt3 e (d + 4) Kc726 := vh_lay (R := rwt3) rfl rfl rfl d
def Kc727 : Con := ((233, [(2, 0, 0, [150]), (0, 0, 19, []), (0, 0, 19, [])], []), [(164, 0, 19)], [(some (0, iLo, iHi, []), [], []), (some (0, (-2), (-2), []), [], [])])
set_option maxRecDepth 20000 in
theorem vc727 {l : Launch} {X : Nat × (Nat → Int32)} {e : Int} (d : Nat) : Vc l X U0 Pt3 e (d + 5) Kc727 :=
  ck (d := (d + 4)) (Ks := [Kc726]) (cy := 152) (cd := cdX7_stepsOf) (nl := 3) (fuel := 1000) (Hs := []) (by decide) rfl (fun na b => by rw [← ceX7_stepsOf]; exact tkX7_stepsOf) (List.forall_mem_cons.mpr ⟨vc726 d, fun _ h => absurd h List.not_mem_nil⟩) (cpyX (d + 4)) (by decide +kernel)
def Kc728 : Con := ((234, [(2, 0, 0, [150]), (0, iLo, iHi, []), (0, iLo, iHi, [])], []), [(150, 0, 0), (150, 11, 11), (150, 26, 26), (164, 0, 19)], [(some (0, (-1), (-1), []), [], []), (some (0, iLo, iHi, []), [(1, 0, 19), (2, 0, 19)], []), (some (0, (-2), (-2), []), [(1, 0, 19), (2, 0, 19)], [])])
set_option maxRecDepth 20000 in
theorem vc728 {l : Launch} {X : Nat × (Nat → Int32)} {e : Int} (d : Nat) : Vc l X U0 Pt3 e (d + 6) Kc728 :=
  ck (d := (d + 5)) (Ks := [Kc654, Kc666, Kc657, Kc727]) (cy := 152) (cd := cdX7_steps) (nl := 3) (fuel := 1000) (Hs := []) (by decide) rfl (fun na b => by rw [← ceX7_steps]; exact tkX7_steps) (List.forall_mem_cons.mpr ⟨vc654 (d + 5), List.forall_mem_cons.mpr ⟨vc666 (d + 4), List.forall_mem_cons.mpr ⟨vc657 (d + 5), List.forall_mem_cons.mpr ⟨vc727 d, fun _ h => absurd h List.not_mem_nil⟩⟩⟩⟩) (cpyX (d + 5)) (by decide +kernel)
def Kc729 : Con := ((189, [(2, 0, 0, [150]), (0, iLo, iHi, [])], []), [], [(some (0, 0, 0, []), [], []), (some (0, 1, 1, []), [(1, 0, 3)], [])])
set_option maxRecDepth 20000 in
theorem vc729 {l : Launch} {X : Nat × (Nat → Int32)} {e : Int} (d : Nat) : Vc l X U0 Pt3 e (d + 1) Kc729 :=
  ck (d := d) (Ks := [Kc670]) (cy := 152) (cd := cdX7_isWalker) (nl := 2) (fuel := 1000) (Hs := []) (by decide) rfl (fun na b => by rw [← ceX7_isWalker]; exact tkX7_isWalker) (List.forall_mem_cons.mpr ⟨vc670 d, fun _ h => absurd h List.not_mem_nil⟩) (cpyX d) (by decide +kernel)
def Kc730 : Con := ((206, [(2, 0, 0, [150]), (0, 0, 0, []), (0, 1, 1, []), (0, iLo, iHi, [])], []), [], [(some (0, 1, 1, []), [], [])])
set_option maxRecDepth 20000 in
theorem vc730 {l : Launch} {X : Nat × (Nat → Int32)} {e : Int} (d : Nat) : Vc l X U0 Pt3 e (d + 1) Kc730 :=
  ck (d := d) (Ks := [Kc693, Kc678, Kc679]) (cy := 152) (cd := cdX7_aheadWhy) (nl := 4) (fuel := 1000) (Hs := []) (by decide) rfl (fun na b => by rw [← ceX7_aheadWhy]; exact tkX7_aheadWhy) (List.forall_mem_cons.mpr ⟨vc693 d, List.forall_mem_cons.mpr ⟨vc678 d, List.forall_mem_cons.mpr ⟨vc679 d, fun _ h => absurd h List.not_mem_nil⟩⟩⟩) (cpyX d) (by decide +kernel)
def Kc731 : Con := ((235, [(2, 0, 0, [150]), (0, 0, 3, []), (0, 1, 60, [])], []), [(150, 26, 26), (160, 0, 4), (161, 0, 24), (164, 0, 19)], [(some (0, iLo, iHi, []), [], []), (some (0, (-2), (-2), []), [], [])])
set_option maxRecDepth 20000 in
theorem vc731 {l : Launch} {X : Nat × (Nat → Int32)} {e : Int} (d : Nat) : Vc l X U0 Pt3 e (d + 5) Kc731 :=
  ck (d := (d + 4)) (Ks := [Kc687, Kc726]) (cy := 152) (cd := cdX7_wayOf) (nl := 4) (fuel := 1000) (Hs := []) (by decide) rfl (fun na b => by rw [← ceX7_wayOf]; exact tkX7_wayOf) (List.forall_mem_cons.mpr ⟨vc687 (d + 2), List.forall_mem_cons.mpr ⟨vc726 d, fun _ h => absurd h List.not_mem_nil⟩⟩) (cpyX (d + 4)) (by decide +kernel)
def Kc732 : Con := ((236, [(2, 0, 0, [150]), (0, iLo, iHi, []), (0, iLo, iHi, [])], []), [(150, 0, 0), (150, 11, 11), (150, 26, 26), (160, 0, 4), (161, 0, 24), (164, 0, 19)], [(some (0, (-1), (-1), []), [], []), (some (0, 0, iHi, []), [(1, 0, 3), (2, 1, 60)], []), (some (0, (-2), (-2), []), [(1, 0, 3), (2, 1, 60)], [])])
set_option maxRecDepth 20000 in
theorem vc732 {l : Launch} {X : Nat × (Nat → Int32)} {e : Int} (d : Nat) : Vc l X U0 Pt3 e (d + 6) Kc732 :=
  ck (d := (d + 5)) (Ks := [Kc654, Kc729, Kc730, Kc657, Kc694, Kc731]) (cy := 152) (cd := cdX7_wets) (nl := 5) (fuel := 1000) (Hs := []) (by decide) rfl (fun na b => by rw [← ceX7_wets]; exact tkX7_wets) (List.forall_mem_cons.mpr ⟨vc654 (d + 5), List.forall_mem_cons.mpr ⟨vc729 (d + 4), List.forall_mem_cons.mpr ⟨vc730 (d + 4), List.forall_mem_cons.mpr ⟨vc657 (d + 5), List.forall_mem_cons.mpr ⟨vc694 (d + 4), List.forall_mem_cons.mpr ⟨vc731 d, fun _ h => absurd h List.not_mem_nil⟩⟩⟩⟩⟩⟩) (cpyX (d + 5)) (by decide +kernel)
def Kc733 : Con := ((237, [(2, 0, 0, [150]), (0, iLo, iHi, []), (0, iLo, iHi, [])], []), [(150, 0, 0), (150, 11, 11), (150, 26, 26), (160, 0, 4), (161, 0, 24), (164, 0, 19)], [(some (0, (-1), (-1), []), [], []), (some (0, 0, 999, []), [(1, 0, 3), (2, 1, 60)], []), (some (0, (-2), (-2), []), [(1, 0, 3), (2, 1, 60)], [])])
set_option maxRecDepth 20000 in
theorem vc733 {l : Launch} {X : Nat × (Nat → Int32)} {e : Int} (d : Nat) : Vc l X U0 Pt3 e (d + 6) Kc733 :=
  ck (d := (d + 5)) (Ks := [Kc654, Kc729, Kc730, Kc657, Kc694, Kc731]) (cy := 152) (cd := cdX7_way) (nl := 5) (fuel := 1000) (Hs := []) (by decide) rfl (fun na b => by rw [← ceX7_way]; exact tkX7_way) (List.forall_mem_cons.mpr ⟨vc654 (d + 5), List.forall_mem_cons.mpr ⟨vc729 (d + 4), List.forall_mem_cons.mpr ⟨vc730 (d + 4), List.forall_mem_cons.mpr ⟨vc657 (d + 5), List.forall_mem_cons.mpr ⟨vc694 (d + 4), List.forall_mem_cons.mpr ⟨vc731 d, fun _ h => absurd h List.not_mem_nil⟩⟩⟩⟩⟩⟩) (cpyX (d + 5)) (by decide +kernel)
def Kc734 : Con := ((239, [(2, 0, 0, [150]), (0, iLo, iHi, [])], []), [(150, 0, 0), (150, 11, 11), (150, 26, 26), (160, 0, 4), (161, 0, 24), (164, 0, 19)], [(some (0, (-1), (-1), []), [], []), (some (0, (-2), (-2), []), [], []), (some (0, 1, 60, []), [], [])])
set_option maxRecDepth 20000 in
theorem vc734 {l : Launch} {X : Nat × (Nat → Int32)} {e : Int} (d : Nat) : Vc l X U0 Pt3 e (d + 6) Kc734 :=
  ck (d := (d + 5)) (Ks := [Kc654, Kc729, Kc657, Kc731]) (cy := 152) (cd := cdX7_dryDay) (nl := 4) (fuel := 1000) (Hs := [((20, 0), ([(0, (2, 0, 0, [150])), (1, (0, 1, 0, [])), (2, (0, 2, 0, []))], [], [(0, 0), (0, 3), (1, 61)], []), [(0, 1, 0), (0, 2, 0)], (122, [(2, (-2))]), [])]) (by decide) rfl (fun na b => by rw [← ceX7_dryDay]; exact tkX7_dryDay) (List.forall_mem_cons.mpr ⟨vc654 (d + 5), List.forall_mem_cons.mpr ⟨vc729 (d + 4), List.forall_mem_cons.mpr ⟨vc657 (d + 5), List.forall_mem_cons.mpr ⟨vc731 d, fun _ h => absurd h List.not_mem_nil⟩⟩⟩⟩) (cpyX (d + 5)) (by decide +kernel)
def Kc735 : Con := ((240, [(2, 0, 0, [150])], []), [(164, 0, 19)], [(some (0, iLo, iHi, []), [], [])])
set_option maxRecDepth 20000 in
theorem vc735 {l : Launch} {X : Nat × (Nat → Int32)} {e : Int} (d : Nat) : Vc l X U0 Pt3 e (d + 6) Kc735 :=
  ck (d := (d + 5)) (Ks := [Kc727]) (cy := 152) (cd := cdX7_allSteps) (nl := 4) (fuel := 1000) (Hs := [((4, 0), ([(0, (2, 0, 0, [150])), (1, (0, 1, 0, [])), (2, (0, 2, 0, []))], [], [(0, 0), (iLo, iHi), (0, 4)], []), [(0, 1, 0), (0, 2, 0)], (8, [(2, (-2))]), [])]) (by decide) rfl (fun na b => by rw [← ceX7_allSteps]; exact tkX7_allSteps) (List.forall_mem_cons.mpr ⟨vc727 d, fun _ h => absurd h List.not_mem_nil⟩) (cpyX (d + 5)) (by decide +kernel)
def Kc736 : Con := ((241, [(2, 0, 0, [150])], []), [(150, 0, 0), (150, 11, 11), (150, 26, 26), (164, 0, 19)], [(some (0, (-2), 19, []), [], [])])
set_option maxRecDepth 20000 in
theorem vc736 {l : Launch} {X : Nat × (Nat → Int32)} {e : Int} (d : Nat) : Vc l X U0 Pt3 e (d + 7) Kc736 :=
  ck (d := (d + 6)) (Ks := [Kc654, Kc664, Kc671, Kc735]) (cy := 152) (cd := cdX7_gate) (nl := 5) (fuel := 1000) (Hs := [((26, 0), ([(0, (2, 0, 0, [150])), (1, (0, 1, 0, [])), (2, (0, 2, 0, [])), (3, (0, 3, 0, []))], [], [(0, 0), ((-2), 19), (iLo, 100000000), (0, 20)], []), [(0, 1, 0), (0, 2, 0), (0, 3, 0)], (40, [(3, (-2))]), [])]) (by decide) rfl (fun na b => by rw [← ceX7_gate]; exact tkX7_gate) (List.forall_mem_cons.mpr ⟨vc654 (d + 6), List.forall_mem_cons.mpr ⟨vc664 (d + 6), List.forall_mem_cons.mpr ⟨vc671 (d + 6), List.forall_mem_cons.mpr ⟨vc735 d, fun _ h => absurd h List.not_mem_nil⟩⟩⟩⟩) (cpyX (d + 6)) (by decide +kernel)
def Kc737 : Con := ((242, [(2, 0, 0, [150]), (0, iLo, iHi, [])], []), [(160, 0, 4), (161, 0, 24), (165, 0, 5)], [(some (0, (-2), (-2), []), [], []), (some (0, 0, 5, []), [], [])])
set_option maxRecDepth 20000 in
theorem vc737 {l : Launch} {X : Nat × (Nat → Int32)} {e : Int} (d : Nat) : Vc l X U0 Pt3 e (d + 2) Kc737 :=
  ck (d := (d + 1)) (Ks := [Kc684, Kc686]) (cy := 152) (cd := cdX7_wrongBy) (nl := 4) (fuel := 1000) (Hs := [((22, 0), ([(0, (2, 0, 0, [150])), (2, (0, 1, 0, []))], [], [(0, 0), (0, 6)], []), [(0, 2, 0)], (1708, [(1, (-5))]), []), ((43, 0), ([(0, (2, 0, 0, [150])), (2, (0, 1, 0, []))], [], [(0, 0), (1, 41)], []), [(0, 2, 0)], (1712, [(1, (-40))]), []), ((60, 0), ([(0, (2, 0, 0, [150])), (2, (0, 1, 0, [])), (3, (0, 2, 0, []))], [], [(0, 0), (1, 40), (0, 6)], []), [(0, 2, 0), (0, 3, 0)], (1706, [(1, (-40)), (2, (-5))]), []), ((112, 0), ([(0, (2, 0, 0, [150])), (2, (0, 1, 0, []))], [], [(0, 0), (0, 6)], []), [(0, 2, 0)], (30, [(1, (-5))]), [])]) (by decide) rfl (fun na b => by rw [← ceX7_wrongBy]; exact tkX7_wrongBy) (List.forall_mem_cons.mpr ⟨vc684 d, List.forall_mem_cons.mpr ⟨vc686 d, fun _ h => absurd h List.not_mem_nil⟩⟩) (cpyX (d + 1)) (by decide +kernel)
def Kc738 : Con := ((243, [(2, 0, 0, [150]), (0, iLo, iHi, [])], []), [(150, 36, 38), (160, 0, 4), (161, 0, 24), (165, 0, 5), (166, 0, 3)], [(some (0, (-1), 15, []), [], [])])
set_option maxRecDepth 20000 in
theorem vc738 {l : Launch} {X : Nat × (Nat → Int32)} {e : Int} (d : Nat) : Vc l X U0 Pt3 e (d + 3) Kc738 :=
  ck (d := (d + 2)) (Ks := [Kc737]) (cy := 152) (cd := cdX7_seekSets) (nl := 5) (fuel := 1000) (Hs := [((29, 0), ([(0, (2, 0, 0, [150])), (1, (0, 1, 0, [])), (2, (0, 0, (-1), [])), (3, (0, 2, 0, []))], [], [(0, 0), (iLo, iHi), (0, 4), (0, 15)], [(150, 36, (0, 0, 0, [])), (150, 37, (0, 0, 0, [])), (150, 38, (0, 3, 0, []))]), [(0, 1, 0), (0, 3, 0), (2, 150, 38)], (426, [(2, (-4))]), []), ((49, 0), ([(0, (2, 0, 0, [150])), (1, (0, 1, 0, [])), (2, (0, 2, 0, [])), (3, (0, 3, 0, []))], [], [(0, 0), (iLo, iHi), ((-1), 15), (0, 16), (iLo, iHi), (iLo, iHi), (0, 15)], [(150, 36, (0, 4, 0, [])), (150, 37, (0, 5, 0, [])), (150, 38, (0, 6, 0, []))]), [(0, 1, 0), (0, 2, 0), (0, 3, 0), (2, 150, 36), (2, 150, 37), (2, 150, 38)], (405, [(3, (-24))]), []), ((118, 0), ([(0, (2, 0, 0, [150])), (1, (0, 1, 0, [])), (2, (0, 2, 0, [])), (3, (0, 3, 0, [])), (4, (0, 4, 0, []))], [], [(0, 0), (iLo, iHi), ((-1), 15), (0, 15), (0, 4), (iLo, iHi), (iLo, iHi), (0, 15)], [(150, 36, (0, 5, 0, [])), (150, 37, (0, 6, 0, [])), (150, 38, (0, 7, 0, []))]), [(0, 1, 0), (0, 2, 0), (0, 3, 0), (0, 4, 0), (2, 150, 36), (2, 150, 37), (2, 150, 38)], (400, [(3, (-24)), (4, (-4))]), [])]) (by decide) rfl (fun na b => by rw [← ceX7_seekSets]; exact tkX7_seekSets) (List.forall_mem_cons.mpr ⟨vc737 d, fun _ h => absurd h List.not_mem_nil⟩) (cpyX (d + 2)) (by decide +kernel)
def Kc739 : Con := ((244, [(2, 0, 0, [150])], []), [(150, 0, 0), (150, 11, 11), (150, 36, 38), (160, 0, 4), (161, 0, 24), (165, 0, 5), (166, 0, 3)], [(some (0, iLo, iHi, []), [], [])])
set_option maxRecDepth 20000 in
theorem vc739 {l : Launch} {X : Nat × (Nat → Int32)} {e : Int} (d : Nat) : Vc l X U0 Pt3 e (d + 4) Kc739 :=
  ck (d := (d + 3)) (Ks := [Kc654, Kc738]) (cy := 152) (cd := cdX7_fits) (nl := 1) (fuel := 1000) (Hs := []) (by decide) rfl (fun na b => by rw [← ceX7_fits]; exact tkX7_fits) (List.forall_mem_cons.mpr ⟨vc654 (d + 3), List.forall_mem_cons.mpr ⟨vc738 d, fun _ h => absurd h List.not_mem_nil⟩⟩) (cpyX (d + 3)) (by decide +kernel)
def Kc740 : Con := ((245, [(2, 0, 0, [150]), (0, iLo, iHi, [])], []), [(150, 0, 0), (150, 11, 11), (150, 36, 38), (160, 0, 4), (161, 0, 24), (165, 0, 5), (166, 0, 3)], [(some (0, 0, 15, []), [(1, 0, iHi)], []), (some (0, (-1), (-1), []), [], [])])
set_option maxRecDepth 20000 in
theorem vc740 {l : Launch} {X : Nat × (Nat → Int32)} {e : Int} (d : Nat) : Vc l X U0 Pt3 e (d + 4) Kc740 :=
  ck (d := (d + 3)) (Ks := [Kc654, Kc738, Kc657]) (cy := 152) (cd := cdX7_fitAt) (nl := 3) (fuel := 1000) (Hs := []) (by decide) rfl (fun na b => by rw [← ceX7_fitAt]; exact tkX7_fitAt) (List.forall_mem_cons.mpr ⟨vc654 (d + 3), List.forall_mem_cons.mpr ⟨vc738 d, List.forall_mem_cons.mpr ⟨vc657 (d + 3), fun _ h => absurd h List.not_mem_nil⟩⟩⟩) (cpyX (d + 3)) (by decide +kernel)
def Kc741 : Con := ((246, [(2, 0, 0, [150])], []), [(150, 0, 0), (150, 11, 11), (150, 36, 38), (160, 0, 4), (161, 0, 24), (165, 0, 5), (166, 0, 3)], [(some (0, iLo, iHi, []), [], [])])
set_option maxRecDepth 20000 in
theorem vc741 {l : Launch} {X : Nat × (Nat → Int32)} {e : Int} (d : Nat) : Vc l X U0 Pt3 e (d + 4) Kc741 :=
  ck (d := (d + 3)) (Ks := [Kc654, Kc738]) (cy := 152) (cd := cdX7_could) (nl := 1) (fuel := 1000) (Hs := []) (by decide) rfl (fun na b => by rw [← ceX7_could]; exact tkX7_could) (List.forall_mem_cons.mpr ⟨vc654 (d + 3), List.forall_mem_cons.mpr ⟨vc738 d, fun _ h => absurd h List.not_mem_nil⟩⟩) (cpyX (d + 3)) (by decide +kernel)
def Kc742 : Con := ((247, [(2, 0, 0, [150])], []), [(150, 0, 0), (150, 11, 11), (150, 36, 38), (160, 0, 4), (161, 0, 24), (165, 0, 5), (166, 0, 3)], [(some (0, iLo, iHi, []), [], [])])
set_option maxRecDepth 20000 in
theorem vc742 {l : Launch} {X : Nat × (Nat → Int32)} {e : Int} (d : Nat) : Vc l X U0 Pt3 e (d + 4) Kc742 :=
  ck (d := (d + 3)) (Ks := [Kc654, Kc738]) (cy := 152) (cd := cdX7_surely) (nl := 1) (fuel := 1000) (Hs := []) (by decide) rfl (fun na b => by rw [← ceX7_surely]; exact tkX7_surely) (List.forall_mem_cons.mpr ⟨vc654 (d + 3), List.forall_mem_cons.mpr ⟨vc738 d, fun _ h => absurd h List.not_mem_nil⟩⟩) (cpyX (d + 3)) (by decide +kernel)
def Kc743 : Con := ((248, [(2, 0, 0, [150]), (0, 0, 3, [])], []), [], [(some (0, iLo, iHi, []), [], [])])
set_option maxRecDepth 20000 in
theorem vc743 {l : Launch} {X : Nat × (Nat → Int32)} {e : Int} (d : Nat) : Vc l X U0 Pt3 e d Kc743 :=
  ck (d := d) (Ks := []) (cy := 152) (cd := cdX7_leavesOf) (nl := 2) (fuel := 1000) (Hs := []) (by decide) rfl (fun na b => by rw [← ceX7_leavesOf]; exact tkX7_leavesOf) (fun _ h => absurd h List.not_mem_nil) (cpyX d) (by decide +kernel)
def Kc744 : Con := ((249, [(2, 0, 0, [150])], []), [(150, 36, 38), (160, 0, 4), (161, 0, 24), (165, 0, 5), (166, 0, 3)], [(some (0, (-2), 3, []), [], [])])
set_option maxRecDepth 20000 in
theorem vc744 {l : Launch} {X : Nat × (Nat → Int32)} {e : Int} (d : Nat) : Vc l X U0 Pt3 e (d + 4) Kc744 :=
  ck (d := (d + 3)) (Ks := [Kc738, Kc743]) (cy := 152) (cd := cdX7_askOf) (nl := 3) (fuel := 1000) (Hs := [((11, 0), ([(0, (2, 0, 0, [150])), (1, (0, 1, 0, [])), (2, (0, 2, 0, []))], [], [(0, 0), ((-2), 3), (0, 4)], []), [(0, 1, 0), (0, 2, 0)], (8, [(2, (-2))]), [])]) (by decide) rfl (fun na b => by rw [← ceX7_askOf]; exact tkX7_askOf) (List.forall_mem_cons.mpr ⟨vc738 d, List.forall_mem_cons.mpr ⟨vc743 (d + 3), fun _ h => absurd h List.not_mem_nil⟩⟩) (cpyX (d + 3)) (by decide +kernel)
def Kc745 : Con := ((250, [(2, 0, 0, [150])], []), [(150, 0, 0), (150, 11, 11), (150, 36, 38), (160, 0, 4), (161, 0, 24), (165, 0, 5), (166, 0, 3)], [(some (0, (-2), 3, []), [], [])])
set_option maxRecDepth 20000 in
theorem vc745 {l : Launch} {X : Nat × (Nat → Int32)} {e : Int} (d : Nat) : Vc l X U0 Pt3 e (d + 5) Kc745 :=
  ck (d := (d + 4)) (Ks := [Kc654, Kc744]) (cy := 152) (cd := cdX7_ask) (nl := 1) (fuel := 1000) (Hs := []) (by decide) rfl (fun na b => by rw [← ceX7_ask]; exact tkX7_ask) (List.forall_mem_cons.mpr ⟨vc654 (d + 4), List.forall_mem_cons.mpr ⟨vc744 d, fun _ h => absurd h List.not_mem_nil⟩⟩) (cpyX (d + 4)) (by decide +kernel)
def Kc746 : Con := ((251, [(2, 0, 0, [150])], []), [(150, 0, 0), (150, 11, 11), (150, 36, 38), (160, 0, 4), (161, 0, 24), (165, 0, 5), (166, 0, 3)], [(some (0, iLo, iHi, []), [], []), (some (0, (-2), (-2), []), [], [])])
set_option maxRecDepth 20000 in
theorem vc746 {l : Launch} {X : Nat × (Nat → Int32)} {e : Int} (d : Nat) : Vc l X U0 Pt3 e (d + 5) Kc746 :=
  ck (d := (d + 4)) (Ks := [Kc654, Kc744, Kc743]) (cy := 152) (cd := cdX7_askLeaves) (nl := 2) (fuel := 1000) (Hs := []) (by decide) rfl (fun na b => by rw [← ceX7_askLeaves]; exact tkX7_askLeaves) (List.forall_mem_cons.mpr ⟨vc654 (d + 4), List.forall_mem_cons.mpr ⟨vc744 d, List.forall_mem_cons.mpr ⟨vc743 (d + 4), fun _ h => absurd h List.not_mem_nil⟩⟩⟩) (cpyX (d + 4)) (by decide +kernel)
def Kc747 : Con := ((252, [(2, 0, 0, [150])], []), [(150, 0, 0), (150, 11, 11), (160, 0, 4), (161, 0, 24), (165, 0, 5)], [(some (0, (-2), (-2), []), [], []), (some (0, 0, 5, []), [], [])])
set_option maxRecDepth 20000 in
theorem vc747 {l : Launch} {X : Nat × (Nat → Int32)} {e : Int} (d : Nat) : Vc l X U0 Pt3 e (d + 3) Kc747 :=
  ck (d := (d + 2)) (Ks := [Kc654, Kc737]) (cy := 152) (cd := cdX7_judge) (nl := 1) (fuel := 1000) (Hs := []) (by decide) rfl (fun na b => by rw [← ceX7_judge]; exact tkX7_judge) (List.forall_mem_cons.mpr ⟨vc654 (d + 2), List.forall_mem_cons.mpr ⟨vc737 d, fun _ h => absurd h List.not_mem_nil⟩⟩) (cpyX (d + 2)) (by decide +kernel)
def Kc748 : Con := ((149, [(0, iLo, iHi, []), (0, 0, 0, []), (0, 9, 9, [])], []), [], [(some (0, 0, 0, []), [], []), (some (0, 1, 1, []), [(0, 0, 9)], [])])
set_option maxRecDepth 20000 in
theorem vc748 {l : Launch} {X : Nat × (Nat → Int32)} {e : Int} (d : Nat) : Vc l X U0 Pt3 e d Kc748 :=
  ck (d := d) (Ks := []) (cy := 152) (cd := cdX7_in) (nl := 3) (fuel := 1000) (Hs := []) (by decide) rfl (fun na b => by rw [← ceX7_in]; exact tkX7_in) (fun _ h => absurd h List.not_mem_nil) (cpyX d) (by decide +kernel)
def Kc749 : Con := ((253, [(0, iLo, iHi, []), (0, iLo, iHi, []), (0, iLo, iHi, [])], []), [], [(some (0, iLo, iHi, []), [], [])])
set_option maxRecDepth 20000 in
theorem vc749 {l : Launch} {X : Nat × (Nat → Int32)} {e : Int} (d : Nat) : Vc l X U0 Pt3 e d Kc749 :=
  ck (d := d) (Ks := []) (cy := 152) (cd := cdX7_canonHas) (nl := 3) (fuel := 1000) (Hs := []) (by decide) rfl (fun na b => by rw [← ceX7_canonHas]; exact tkX7_canonHas) (fun _ h => absurd h List.not_mem_nil) (cpyX d) (by decide +kernel)
def Kc750 : Con := ((254, [(0, iLo, iHi, []), (0, iLo, iHi, [])], []), [], [(some (0, 0, 3, []), [], [])])
set_option maxRecDepth 20000 in
theorem vc750 {l : Launch} {X : Nat × (Nat → Int32)} {e : Int} (d : Nat) : Vc l X U0 Pt3 e d Kc750 :=
  ck (d := d) (Ks := []) (cy := 152) (cd := cdX7_breadHas) (nl := 2) (fuel := 1000) (Hs := []) (by decide) rfl (fun na b => by rw [← ceX7_breadHas]; exact tkX7_breadHas) (fun _ h => absurd h List.not_mem_nil) (cpyX d) (by decide +kernel)
def Kc751 : Con := ((255, [(2, 0, 0, [150]), (0, iLo, iHi, []), (0, iLo, iHi, []), (0, iLo, iHi, []), (0, iLo, iHi, [])], []), [(150, 0, 0), (150, 11, 11)], [(some (0, (-100), (-100), []), [], []), (some (0, iLo, iHi, []), [(1, 0, 9)], [])])
set_option maxRecDepth 20000 in
theorem vc751 {l : Launch} {X : Nat × (Nat → Int32)} {e : Int} (d : Nat) : Vc l X U0 Pt3 e (d + 1) Kc751 :=
  ck (d := d) (Ks := [Kc654, Kc748, Kc681, Kc682, Kc749, Kc750]) (cy := 152) (cd := cdX7_sulks) (nl := 6) (fuel := 1000) (Hs := []) (by decide) rfl (fun na b => by rw [← ceX7_sulks]; exact tkX7_sulks) (List.forall_mem_cons.mpr ⟨vc654 d, List.forall_mem_cons.mpr ⟨vc748 d, List.forall_mem_cons.mpr ⟨vc681 d, List.forall_mem_cons.mpr ⟨vc682 d, List.forall_mem_cons.mpr ⟨vc749 d, List.forall_mem_cons.mpr ⟨vc750 d, fun _ h => absurd h List.not_mem_nil⟩⟩⟩⟩⟩⟩) (cpyX d) (by decide +kernel)
def Kc752 : Con := ((256, [(2, 0, 0, [150]), (0, iLo, iHi, [])], []), [(150, 39, 39)], [(some (0, iLo, iHi, []), [], [])])
set_option maxRecDepth 20000 in
theorem vc752 {l : Launch} {X : Nat × (Nat → Int32)} {e : Int} (d : Nat) : Vc l X U0 Pt3 e (d + 1) Kc752 :=
  ck (d := d) (Ks := [Kc749, Kc750]) (cy := 152) (cd := cdX7_seekRests) (nl := 6) (fuel := 1000) (Hs := [((10, 0), ([(0, (2, 0, 0, [150])), (1, (0, 1, 0, [])), (2, (0, 2, 0, [])), (3, (0, 3, 0, []))], [], [(0, 0), (iLo, iHi), (iLo, iHi), (0, 4), ((-2), 31)], [(150, 39, (0, 4, 0, []))]), [(0, 1, 0), (0, 2, 0), (0, 3, 0), (2, 150, 39)], (8, [(3, (-2))]), [])]) (by decide) rfl (fun na b => by rw [← ceX7_seekRests]; exact tkX7_seekRests) (List.forall_mem_cons.mpr ⟨vc749 d, List.forall_mem_cons.mpr ⟨vc750 d, fun _ h => absurd h List.not_mem_nil⟩⟩) (cpyX d) (by decide +kernel)
def Kc753 : Con := ((257, [(2, 0, 0, [150]), (0, iLo, iHi, [])], []), [(150, 0, 0), (150, 11, 11), (150, 39, 39)], [(some (0, (-1), (-1), []), [], []), (some (0, iLo, iHi, []), [(1, 0, 9)], [])])
set_option maxRecDepth 20000 in
theorem vc753 {l : Launch} {X : Nat × (Nat → Int32)} {e : Int} (d : Nat) : Vc l X U0 Pt3 e (d + 2) Kc753 :=
  ck (d := (d + 1)) (Ks := [Kc654, Kc748, Kc681, Kc657, Kc682, Kc752]) (cy := 152) (cd := cdX7_rests) (nl := 3) (fuel := 1000) (Hs := []) (by decide) rfl (fun na b => by rw [← ceX7_rests]; exact tkX7_rests) (List.forall_mem_cons.mpr ⟨vc654 (d + 1), List.forall_mem_cons.mpr ⟨vc748 (d + 1), List.forall_mem_cons.mpr ⟨vc681 (d + 1), List.forall_mem_cons.mpr ⟨vc657 (d + 1), List.forall_mem_cons.mpr ⟨vc682 (d + 1), List.forall_mem_cons.mpr ⟨vc752 d, fun _ h => absurd h List.not_mem_nil⟩⟩⟩⟩⟩⟩) (cpyX (d + 1)) (by decide +kernel)
def Kc754 : Con := ((258, [(2, 0, 0, [150]), (0, iLo, iHi, [])], []), [(150, 0, 0), (150, 11, 11), (150, 39, 39)], [(some (0, (-1), (-1), []), [], []), (some (0, iLo, iHi, []), [(1, 0, 9)], [])])
set_option maxRecDepth 20000 in
theorem vc754 {l : Launch} {X : Nat × (Nat → Int32)} {e : Int} (d : Nat) : Vc l X U0 Pt3 e (d + 2) Kc754 :=
  ck (d := (d + 1)) (Ks := [Kc654, Kc748, Kc681, Kc657, Kc682, Kc752]) (cy := 152) (cd := cdX7_rest) (nl := 3) (fuel := 1000) (Hs := []) (by decide) rfl (fun na b => by rw [← ceX7_rest]; exact tkX7_rest) (List.forall_mem_cons.mpr ⟨vc654 (d + 1), List.forall_mem_cons.mpr ⟨vc748 (d + 1), List.forall_mem_cons.mpr ⟨vc681 (d + 1), List.forall_mem_cons.mpr ⟨vc657 (d + 1), List.forall_mem_cons.mpr ⟨vc682 (d + 1), List.forall_mem_cons.mpr ⟨vc752 d, fun _ h => absurd h List.not_mem_nil⟩⟩⟩⟩⟩⟩) (cpyX (d + 1)) (by decide +kernel)
def Kc755 : Con := ((149, [(0, iLo, iHi, []), (0, 0, 0, []), (0, 7, 7, [])], []), [], [(some (0, 0, 0, []), [], []), (some (0, 1, 1, []), [(0, 0, 7)], [])])
set_option maxRecDepth 20000 in
theorem vc755 {l : Launch} {X : Nat × (Nat → Int32)} {e : Int} (d : Nat) : Vc l X U0 Pt3 e d Kc755 :=
  ck (d := d) (Ks := []) (cy := 152) (cd := cdX7_in) (nl := 3) (fuel := 1000) (Hs := []) (by decide) rfl (fun na b => by rw [← ceX7_in]; exact tkX7_in) (fun _ h => absurd h List.not_mem_nil) (cpyX d) (by decide +kernel)
def Kc756 : Con := ((259, [(2, 0, 0, [150]), (0, 0, 5, []), (0, 0, 7, [])], []), [(150, 40, 42), (160, 0, 4), (161, 0, 24)], [(none, [], [(150, 40, (1, 1, lHi, []))])])
set_option maxRecDepth 20000 in
theorem vc756 {l : Launch} {X : Nat × (Nat → Int32)} {e : Int} (d : Nat) : Vc l X U0 Pt3 e (d + 6) Kc756 := vh_tryCalms (R := rwt3) rfl d ⟨fun M kr hI he h => vc687 (d + 3) [.ref 150, .int 0] M kr hI he ⟨⟨rfl, List.mem_singleton.mpr rfl⟩, ⟨rfl, by decide, by decide⟩, trivial⟩ (fun f hf => absurd hf List.not_mem_nil) (fun r M' hJ hp => by
  rw [r_none (by decide) hp]
  exact h M' (Jv_tr (Jv.rf hI he) hJ (by decide))), fun b M kr hb hI he h => vc686 (d + 4) [.ref 150, .ref 161, .int b] M kr hI he ⟨⟨rfl, List.mem_singleton.mpr rfl⟩, ⟨rfl, List.mem_singleton.mpr rfl⟩, ⟨rfl, i32_lo _, i32_hi _⟩, trivial⟩ (fun f hf => absurd hf List.not_mem_nil) (fun r M' hJ hp => by
  rw [r_none (by decide) hp]
  exact h M' (Jv_tr (Jv.rf hI he) hJ (by decide)))⟩
def Kc757 : Con := ((153, [(1, lLo, lHi, []), (1, 1, lHi, []), (0, iLo, iHi, [])], []), [], [(some (1, lLo, lHi, []), [], [])])
set_option maxRecDepth 20000 in
theorem vc757 {l : Launch} {X : Nat × (Nat → Int32)} {e : Int} (d : Nat) : Vc l X U0 Pt3 e (d + 0) Kc757 := vh_lowI d
def Kc758 : Con := ((260, [(2, 0, 0, [150]), (0, iLo, iHi, []), (0, iLo, iHi, []), (0, iLo, iHi, [])], []), [(150, 0, 0), (150, 11, 11), (150, 40, 42), (160, 0, 4), (161, 0, 24)], [(some (1, lLo, lHi, []), [], [])])
set_option maxRecDepth 20000 in
theorem vc758 {l : Launch} {X : Nat × (Nat → Int32)} {e : Int} (d : Nat) : Vc l X U0 Pt3 e (d + 7) Kc758 :=
  ck (d := (d + 6)) (Ks := [Kc654, Kc656, Kc755, Kc678, Kc657, Kc679, Kc681, Kc682, Kc756, Kc757]) (cy := 152) (cd := cdX7_odds) (nl := 5) (fuel := 1000) (Hs := []) (by decide) rfl (fun na b => by rw [← ceX7_odds]; exact tkX7_odds) (List.forall_mem_cons.mpr ⟨vc654 (d + 6), List.forall_mem_cons.mpr ⟨vc656 (d + 5), List.forall_mem_cons.mpr ⟨vc755 (d + 6), List.forall_mem_cons.mpr ⟨vc678 (d + 6), List.forall_mem_cons.mpr ⟨vc657 (d + 6), List.forall_mem_cons.mpr ⟨vc679 (d + 6), List.forall_mem_cons.mpr ⟨vc681 (d + 6), List.forall_mem_cons.mpr ⟨vc682 (d + 6), List.forall_mem_cons.mpr ⟨vc756 d, List.forall_mem_cons.mpr ⟨vc757 (d + 6), fun _ h => absurd h List.not_mem_nil⟩⟩⟩⟩⟩⟩⟩⟩⟩⟩) (cpyX (d + 6)) (by decide +kernel)
def Kc759 : Con := ((261, [(2, 0, 0, [150]), (0, iLo, iHi, []), (0, iLo, iHi, []), (0, iLo, iHi, [])], []), [(150, 0, 0), (150, 11, 11), (150, 40, 42), (160, 0, 4), (161, 0, 24)], [(some (1, lLo, lHi, []), [], [])])
set_option maxRecDepth 20000 in
theorem vc759 {l : Launch} {X : Nat × (Nat → Int32)} {e : Int} (d : Nat) : Vc l X U0 Pt3 e (d + 7) Kc759 :=
  ck (d := (d + 6)) (Ks := [Kc654, Kc656, Kc755, Kc678, Kc657, Kc679, Kc681, Kc682, Kc756, Kc757]) (cy := 152) (cd := cdX7_mean) (nl := 5) (fuel := 1000) (Hs := []) (by decide) rfl (fun na b => by rw [← ceX7_mean]; exact tkX7_mean) (List.forall_mem_cons.mpr ⟨vc654 (d + 6), List.forall_mem_cons.mpr ⟨vc656 (d + 5), List.forall_mem_cons.mpr ⟨vc755 (d + 6), List.forall_mem_cons.mpr ⟨vc678 (d + 6), List.forall_mem_cons.mpr ⟨vc657 (d + 6), List.forall_mem_cons.mpr ⟨vc679 (d + 6), List.forall_mem_cons.mpr ⟨vc681 (d + 6), List.forall_mem_cons.mpr ⟨vc682 (d + 6), List.forall_mem_cons.mpr ⟨vc756 d, List.forall_mem_cons.mpr ⟨vc757 (d + 6), fun _ h => absurd h List.not_mem_nil⟩⟩⟩⟩⟩⟩⟩⟩⟩⟩) (cpyX (d + 6)) (by decide +kernel)
def Kc760 : Con := ((149, [(0, iLo, iHi, []), (0, 0, 0, []), (0, 65536, 65536, [])], []), [], [(some (0, 0, 0, []), [], []), (some (0, 1, 1, []), [(0, 0, 65536)], [])])
set_option maxRecDepth 20000 in
theorem vc760 {l : Launch} {X : Nat × (Nat → Int32)} {e : Int} (d : Nat) : Vc l X U0 Pt3 e d Kc760 :=
  ck (d := d) (Ks := []) (cy := 152) (cd := cdX7_in) (nl := 3) (fuel := 1000) (Hs := []) (by decide) rfl (fun na b => by rw [← ceX7_in]; exact tkX7_in) (fun _ h => absurd h List.not_mem_nil) (cpyX d) (by decide +kernel)
def Kc761 : Con := ((262, [(2, 0, 0, [150]), (0, 0, 0, []), (0, iLo, iHi, []), (0, iLo, iHi, [])], []), [], [(some (0, 1, 1, []), [], [])])
set_option maxRecDepth 20000 in
theorem vc761 {l : Launch} {X : Nat × (Nat → Int32)} {e : Int} (d : Nat) : Vc l X U0 Pt3 e (d + 1) Kc761 :=
  ck (d := d) (Ks := [Kc760, Kc678, Kc677, Kc679]) (cy := 152) (cd := cdX7_drawWhy) (nl := 7) (fuel := 1000) (Hs := []) (by decide) rfl (fun na b => by rw [← ceX7_drawWhy]; exact tkX7_drawWhy) (List.forall_mem_cons.mpr ⟨vc760 d, List.forall_mem_cons.mpr ⟨vc678 d, List.forall_mem_cons.mpr ⟨vc677 d, List.forall_mem_cons.mpr ⟨vc679 d, fun _ h => absurd h List.not_mem_nil⟩⟩⟩⟩) (cpyX d) (by decide +kernel)
def Kc762 : Con := ((262, [(2, 0, 0, [150]), (0, 1, 1, []), (0, iLo, iHi, []), (0, iLo, iHi, [])], []), [(150, 43, 43), (160, 0, 4), (161, 0, 24)], [(some (0, 2, 2, []), [], []), (some (0, 0, 0, []), [(2, 0, 65536), (3, 0, 60)], [])])
set_option maxRecDepth 20000 in
theorem vc762 {l : Launch} {X : Nat × (Nat → Int32)} {e : Int} (d : Nat) : Vc l X U0 Pt3 e (d + 3) Kc762 :=
  ck (d := (d + 2)) (Ks := [Kc760, Kc681, Kc677, Kc682, Kc687, Kc686]) (cy := 152) (cd := cdX7_drawWhy) (nl := 7) (fuel := 1000) (Hs := [((58, 0), ([(0, (2, 0, 0, [150])), (3, (0, 1, 0, [])), (5, (0, 2, 0, [])), (6, (0, 3, 0, [])), (1000, (2, 0, 0, [150])), (1001, (0, 4, 0, [])), (1002, (0, 5, 0, [])), (1003, (0, 1, 0, []))], [], [(0, 0), (0, 60), (0, 65536), (1, 61), (1, 1), (0, 65536), ((-2), 60)], [(150, 43, (0, 6, 0, []))]), [(0, 3, 0), (0, 5, 0), (0, 6, 0), (0, 1001, 0), (0, 1002, 0), (2, 150, 43)], (122, [(3, (-2))]), [])]) (by decide) rfl (fun na b => by rw [← ceX7_drawWhy]; exact tkX7_drawWhy) (List.forall_mem_cons.mpr ⟨vc760 (d + 2), List.forall_mem_cons.mpr ⟨vc681 (d + 2), List.forall_mem_cons.mpr ⟨vc677 (d + 2), List.forall_mem_cons.mpr ⟨vc682 (d + 2), List.forall_mem_cons.mpr ⟨vc687 d, List.forall_mem_cons.mpr ⟨vc686 (d + 1), fun _ h => absurd h List.not_mem_nil⟩⟩⟩⟩⟩⟩) (cpyX (d + 2)) (by decide +kernel)
def Kc763 : Con := ((263, [(2, 0, 0, [150]), (0, iLo, iHi, []), (0, iLo, iHi, []), (0, iLo, iHi, [])], []), [(150, 0, 0), (150, 11, 11), (150, 43, 43), (160, 0, 4), (161, 0, 24)], [(some (0, (-1), (-1), []), [], []), (some (0, iLo, iHi, []), [(1, 0, 5), (2, 0, 65536), (3, 0, 60)], [])])
set_option maxRecDepth 20000 in
theorem vc763 {l : Launch} {X : Nat × (Nat → Int32)} {e : Int} (d : Nat) : Vc l X U0 Pt3 e (d + 4) Kc763 :=
  ck (d := (d + 3)) (Ks := [Kc654, Kc656, Kc761, Kc657, Kc762]) (cy := 152) (cd := cdX7_borne) (nl := 5) (fuel := 1000) (Hs := []) (by decide) rfl (fun na b => by rw [← ceX7_borne]; exact tkX7_borne) (List.forall_mem_cons.mpr ⟨vc654 (d + 3), List.forall_mem_cons.mpr ⟨vc656 (d + 2), List.forall_mem_cons.mpr ⟨vc761 (d + 2), List.forall_mem_cons.mpr ⟨vc657 (d + 3), List.forall_mem_cons.mpr ⟨vc762 d, fun _ h => absurd h List.not_mem_nil⟩⟩⟩⟩⟩) (cpyX (d + 3)) (by decide +kernel)
def Kc764 : Con := ((264, [(2, 0, 0, [150]), (0, iLo, iHi, []), (0, iLo, iHi, [])], []), [(150, 0, 0), (150, 11, 11), (150, 43, 43), (160, 0, 4), (161, 0, 24)], [(some (0, (-1), (-1), []), [], []), (some (0, iLo, iHi, []), [(1, 0, 65536), (2, 0, 60)], [])])
set_option maxRecDepth 20000 in
theorem vc764 {l : Launch} {X : Nat × (Nat → Int32)} {e : Int} (d : Nat) : Vc l X U0 Pt3 e (d + 4) Kc764 :=
  ck (d := (d + 3)) (Ks := [Kc654, Kc762, Kc657]) (cy := 152) (cd := cdX7_firstWet) (nl := 4) (fuel := 1000) (Hs := []) (by decide) rfl (fun na b => by rw [← ceX7_firstWet]; exact tkX7_firstWet) (List.forall_mem_cons.mpr ⟨vc654 (d + 3), List.forall_mem_cons.mpr ⟨vc762 d, List.forall_mem_cons.mpr ⟨vc657 (d + 3), fun _ h => absurd h List.not_mem_nil⟩⟩⟩) (cpyX (d + 3)) (by decide +kernel)
def Kc765 : Con := ((265, [(2, 0, 0, [150])], []), [(150, 22, 22), (158, 0, 399)], [(none, [], [])])
set_option maxRecDepth 20000 in
theorem vc765 {l : Launch} {X : Nat × (Nat → Int32)} {e : Int} (d : Nat) : Vc l X U0 Pt3 e (d + 1) Kc765 :=
  ck (d := d) (Ks := []) (cy := 152) (cd := cdX7_note) (nl := 2) (fuel := 1000) (Hs := [((49, 1), ([(0, (2, 0, 0, [150]))], [], [(0, 0), (0, 15)], [(150, 22, (0, 1, 0, []))]), [(2, 150, 22)], (0, []), []), ((11, 1), ([(0, (2, 0, 0, [150])), (1, (0, 1, 0, []))], [], [(0, 0), (0, 375), (16, 16)], [(150, 22, (0, 2, 0, []))]), [(0, 1, 0), (2, 150, 22)], (1126, [(1, (-3))]), [])]) (by decide) rfl (fun na b => by rw [← ceX7_note]; exact tkX7_note) (fun _ h => absurd h List.not_mem_nil) (cpyX d) (by decide +kernel)
def Kc766 : Con := ((192, [(2, 0, 0, [150]), (2, 0, 0, [157]), (0, 0, 5, [])], []), [], [(some (0, iLo, iHi, []), [], [])])
set_option maxRecDepth 20000 in
theorem vc766 {l : Launch} {X : Nat × (Nat → Int32)} {e : Int} (d : Nat) : Vc l X U0 Pt3 e d Kc766 :=
  ck (d := d) (Ks := []) (cy := 152) (cd := cdX7_letsGo) (nl := 6) (fuel := 1000) (Hs := []) (by decide) rfl (fun na b => by rw [← ceX7_letsGo]; exact tkX7_letsGo) (fun _ h => absurd h List.not_mem_nil) (cpyX d) (by decide +kernel)
def Kc767 : Con := ((193, [(2, 0, 0, [150]), (2, 0, 0, [157]), (0, iLo, iHi, [])], []), [(157, 0, 17), (157, 23, 24)], [(none, [], [])])
set_option maxRecDepth 20000 in
theorem vc767 {l : Launch} {X : Nat × (Nat → Int32)} {e : Int} (d : Nat) : Vc l X U0 Pt3 e (d + 1) Kc767 :=
  ck (d := d) (Ks := [Kc766]) (cy := 152) (cd := cdX7_dayOn) (nl := 5) (fuel := 1000) (Hs := [((15, 0), ([(0, (2, 0, 0, [150])), (1, (2, 0, 0, [157])), (2, (0, 1, 0, [])), (3, (0, 2, 0, []))], [], [(0, 0), (iLo, iHi), (0, 3)], []), [(0, 2, 0), (0, 3, 0)], (31, [(2, (-3))]), []), ((89, 0), ([(0, (2, 0, 0, [150])), (1, (2, 0, 0, [157])), (3, (0, 1, 0, []))], [], [(0, 0), (0, 6)], []), [(0, 3, 0)], (18, [(1, (-3))]), [])]) (by decide) rfl (fun na b => by rw [← ceX7_dayOn]; exact tkX7_dayOn) (List.forall_mem_cons.mpr ⟨vc766 d, fun _ h => absurd h List.not_mem_nil⟩) (cpyX d) (by decide +kernel)
def Kc768 : Con := ((266, [(2, 0, 0, [150])], []), [(150, 0, 0), (150, 11, 11), (150, 22, 22), (157, 0, 17), (157, 23, 24), (158, 0, 399), (160, 0, 4)], [(some (0, iLo, iHi, []), [], []), (some (0, (-1), (-1), []), [], [])])
set_option maxRecDepth 20000 in
theorem vc768 {l : Launch} {X : Nat × (Nat → Int32)} {e : Int} (d : Nat) : Vc l X U0 Pt3 e (d + 2) Kc768 :=
  ck (d := (d + 1)) (Ks := [Kc654, Kc765, Kc684, Kc767, Kc657]) (cy := 152) (cd := cdX7_day) (nl := 1) (fuel := 1000) (Hs := []) (by decide) rfl (fun na b => by rw [← ceX7_day]; exact tkX7_day) (List.forall_mem_cons.mpr ⟨vc654 (d + 1), List.forall_mem_cons.mpr ⟨vc765 d, List.forall_mem_cons.mpr ⟨vc684 d, List.forall_mem_cons.mpr ⟨vc767 d, List.forall_mem_cons.mpr ⟨vc657 (d + 1), fun _ h => absurd h List.not_mem_nil⟩⟩⟩⟩⟩) (cpyX (d + 1)) (by decide +kernel)
def Kc769 : Con := ((267, [(2, 0, 0, [150]), (0, iLo, iHi, []), (0, iLo, iHi, [])], []), [(150, 0, 0), (150, 11, 11), (150, 22, 22), (157, 18, 20), (158, 0, 399)], [(some (0, (-1), (-1), []), [], []), (some (0, 0, 5, []), [(1, 0, 2), (2, 0, 5)], [])])
set_option maxRecDepth 20000 in
theorem vc769 {l : Launch} {X : Nat × (Nat → Int32)} {e : Int} (d : Nat) : Vc l X U0 Pt3 e (d + 2) Kc769 :=
  ck (d := (d + 1)) (Ks := [Kc654, Kc662, Kc657, Kc656, Kc659, Kc765]) (cy := 152) (cd := cdX7_give) (nl := 4) (fuel := 1000) (Hs := []) (by decide) rfl (fun na b => by rw [← ceX7_give]; exact tkX7_give) (List.forall_mem_cons.mpr ⟨vc654 (d + 1), List.forall_mem_cons.mpr ⟨vc662 d, List.forall_mem_cons.mpr ⟨vc657 (d + 1), List.forall_mem_cons.mpr ⟨vc656 d, List.forall_mem_cons.mpr ⟨vc659 (d + 1), List.forall_mem_cons.mpr ⟨vc765 d, fun _ h => absurd h List.not_mem_nil⟩⟩⟩⟩⟩⟩) (cpyX (d + 1)) (by decide +kernel)
def Kc770 : Con := ((148, [(2, 0, 0, [150]), (0, iLo, iHi, [])], []), [(150, 11, 11)], [(some (0, 0, 0, []), [], [])])
set_option maxRecDepth 20000 in
theorem vc770 {l : Launch} {X : Nat × (Nat → Int32)} {e : Int} (d : Nat) : Vc l X U0 Pt3 e d Kc770 :=
  ck (d := d) (Ks := []) (cy := 152) (cd := cdX7_isNot) (nl := 2) (fuel := 1000) (Hs := []) (by decide) rfl (fun na b => by rw [← ceX7_isNot]; exact tkX7_isNot) (fun _ h => absurd h List.not_mem_nil) (cpyX d) (by decide +kernel)
def Kc771 : Con := ((268, [(2, 0, 0, [150]), (0, iLo, iHi, [])], []), [(150, 0, 0), (150, 11, 11), (150, 22, 22), (157, 0, 11), (158, 0, 399)], [(some (0, 0, 0, []), [], []), (some (0, 1, 1, []), [(1, 0, 5)], [])])
set_option maxRecDepth 20000 in
theorem vc771 {l : Launch} {X : Nat × (Nat → Int32)} {e : Int} (d : Nat) : Vc l X U0 Pt3 e (d + 2) Kc771 :=
  ck (d := (d + 1)) (Ks := [Kc654, Kc656, Kc770, Kc765]) (cy := 152) (cd := cdX7_mend) (nl := 3) (fuel := 1000) (Hs := []) (by decide) rfl (fun na b => by rw [← ceX7_mend]; exact tkX7_mend) (List.forall_mem_cons.mpr ⟨vc654 (d + 1), List.forall_mem_cons.mpr ⟨vc656 d, List.forall_mem_cons.mpr ⟨vc770 (d + 1), List.forall_mem_cons.mpr ⟨vc765 d, fun _ h => absurd h List.not_mem_nil⟩⟩⟩⟩) (cpyX (d + 1)) (by decide +kernel)
def Kc772 : Con := ((149, [(0, iLo, iHi, []), (0, 1, 1, []), (0, 99, 99, [])], []), [], [(some (0, 0, 0, []), [], []), (some (0, 1, 1, []), [(0, 1, 99)], [])])
set_option maxRecDepth 20000 in
theorem vc772 {l : Launch} {X : Nat × (Nat → Int32)} {e : Int} (d : Nat) : Vc l X U0 Pt3 e d Kc772 :=
  ck (d := d) (Ks := []) (cy := 152) (cd := cdX7_in) (nl := 3) (fuel := 1000) (Hs := []) (by decide) rfl (fun na b => by rw [← ceX7_in]; exact tkX7_in) (fun _ h => absurd h List.not_mem_nil) (cpyX d) (by decide +kernel)
def Kc773 : Con := ((269, [(2, 0, 0, [150]), (0, iLo, iHi, []), (0, iLo, iHi, [])], []), [(150, 0, 0), (150, 11, 11), (150, 22, 22), (157, 6, 11), (158, 0, 399)], [(some (0, (-1), (-1), []), [], []), (some (0, iLo, iHi, []), [(1, 0, 5), (2, 1, 99)], [])])
set_option maxRecDepth 20000 in
theorem vc773 {l : Launch} {X : Nat × (Nat → Int32)} {e : Int} (d : Nat) : Vc l X U0 Pt3 e (d + 2) Kc773 :=
  ck (d := (d + 1)) (Ks := [Kc654, Kc656, Kc772, Kc678, Kc657, Kc679, Kc681, Kc682, Kc765]) (cy := 152) (cd := cdX7_vex) (nl := 4) (fuel := 1000) (Hs := []) (by decide) rfl (fun na b => by rw [← ceX7_vex]; exact tkX7_vex) (List.forall_mem_cons.mpr ⟨vc654 (d + 1), List.forall_mem_cons.mpr ⟨vc656 d, List.forall_mem_cons.mpr ⟨vc772 (d + 1), List.forall_mem_cons.mpr ⟨vc678 (d + 1), List.forall_mem_cons.mpr ⟨vc657 (d + 1), List.forall_mem_cons.mpr ⟨vc679 (d + 1), List.forall_mem_cons.mpr ⟨vc681 (d + 1), List.forall_mem_cons.mpr ⟨vc682 (d + 1), List.forall_mem_cons.mpr ⟨vc765 d, fun _ h => absurd h List.not_mem_nil⟩⟩⟩⟩⟩⟩⟩⟩⟩) (cpyX (d + 1)) (by decide +kernel)
def Kc774 : Con := ((270, [(2, 0, 0, [150])], []), [(150, 0, 0), (150, 11, 11), (150, 22, 22), (157, 0, 24)], [(some (0, 0, 0, []), [], []), (some (0, 1, 1, []), [], [])])
set_option maxRecDepth 20000 in
theorem vc774 {l : Launch} {X : Nat × (Nat → Int32)} {e : Int} (d : Nat) : Vc l X U0 Pt3 e (d + 1) Kc774 :=
  ck (d := d) (Ks := [Kc654, Kc770]) (cy := 152) (cd := cdX7_undo) (nl := 1) (fuel := 1000) (Hs := [((28, 1), ([(0, (2, 0, 0, [150]))], [], [(0, 0), (0, 15)], [(150, 22, (0, 1, 0, []))]), [(2, 150, 22)], (0, []), [])]) (by decide) rfl (fun na b => by rw [← ceX7_undo]; exact tkX7_undo) (List.forall_mem_cons.mpr ⟨vc654 d, List.forall_mem_cons.mpr ⟨vc770 d, fun _ h => absurd h List.not_mem_nil⟩⟩) (cpyX d) (by decide +kernel)
def Kc775 : Con := ((271, [(2, 0, 0, [150])], []), [(150, 0, 0), (150, 11, 11), (150, 23, 23), (159, 0, 74)], [(some (0, (-1), (-1), []), [], []), (some (0, 0, 2, []), [], [])])
set_option maxRecDepth 20000 in
theorem vc775 {l : Launch} {X : Nat × (Nat → Int32)} {e : Int} (d : Nat) : Vc l X U0 Pt3 e (d + 1) Kc775 :=
  ck (d := d) (Ks := [Kc654, Kc657]) (cy := 152) (cd := cdX7_image) (nl := 1) (fuel := 1000) (Hs := [((31, 1), ([(0, (2, 0, 0, [150]))], [], [(0, 0), (0, 2)], [(150, 23, (0, 1, 0, []))]), [(2, 150, 23)], (0, []), [])]) (by decide) rfl (fun na b => by rw [← ceX7_image]; exact tkX7_image) (List.forall_mem_cons.mpr ⟨vc654 d, List.forall_mem_cons.mpr ⟨vc657 d, fun _ h => absurd h List.not_mem_nil⟩⟩) (cpyX d) (by decide +kernel)
def Kc776 : Con := ((149, [(0, iLo, iHi, []), (0, 0, 0, []), (0, (-1), 2, [])], []), [], [(some (0, 0, 0, []), [], []), (some (0, 1, 1, []), [(0, 0, 2), (2, 0, 2)], [])])
set_option maxRecDepth 20000 in
theorem vc776 {l : Launch} {X : Nat × (Nat → Int32)} {e : Int} (d : Nat) : Vc l X U0 Pt3 e d Kc776 :=
  ck (d := d) (Ks := []) (cy := 152) (cd := cdX7_in) (nl := 3) (fuel := 1000) (Hs := []) (by decide) rfl (fun na b => by rw [← ceX7_in]; exact tkX7_in) (fun _ h => absurd h List.not_mem_nil) (cpyX d) (by decide +kernel)
def Kc777 : Con := ((272, [(2, 0, 0, [150]), (0, iLo, iHi, [])], []), [(150, 0, 0), (150, 11, 11), (150, 22, 22), (157, 0, 24)], [(some (0, 0, 0, []), [], []), (some (0, 1, 1, []), [], [])])
set_option maxRecDepth 20000 in
theorem vc777 {l : Launch} {X : Nat × (Nat → Int32)} {e : Int} (d : Nat) : Vc l X U0 Pt3 e (d + 1) Kc777 :=
  ck (d := d) (Ks := [Kc654, Kc776, Kc770]) (cy := 152) (cd := cdX7_back) (nl := 2) (fuel := 1000) (Hs := [((24, 1), ([(0, (2, 0, 0, [150])), (1, (0, 1, 0, []))], [], [(0, 0), (0, 2)], []), [(0, 1, 0)], (0, []), [])]) (by decide) rfl (fun na b => by rw [← ceX7_back]; exact tkX7_back) (List.forall_mem_cons.mpr ⟨vc654 d, List.forall_mem_cons.mpr ⟨vc776 d, List.forall_mem_cons.mpr ⟨vc770 d, fun _ h => absurd h List.not_mem_nil⟩⟩⟩) (cpyX d) (by decide +kernel)
def Kc778 : Con := ((273, [(2, 0, 0, [150]), (0, iLo, iHi, [])], []), [(150, 0, 0)], [(some (0, 0, 5, []), [], [])])
set_option maxRecDepth 20000 in
theorem vc778 {l : Launch} {X : Nat × (Nat → Int32)} {e : Int} (d : Nat) : Vc l X U0 Pt3 e (d + 1) Kc778 :=
  ck (d := d) (Ks := [Kc659]) (cy := 152) (cd := cdX7_led) (nl := 4) (fuel := 1000) (Hs := [((4, 0), ([(0, (2, 0, 0, [150])), (1, (0, 1, 0, [])), (2, (0, 2, 0, [])), (3, (0, 3, 0, []))], [], [(0, 0), (iLo, iHi), (iLo, iHi), (0, 6)], []), [(0, 1, 0), (0, 2, 0), (0, 3, 0)], (12, [(3, (-2))]), [])]) (by decide) rfl (fun na b => by rw [← ceX7_led]; exact tkX7_led) (List.forall_mem_cons.mpr ⟨vc659 d, fun _ h => absurd h List.not_mem_nil⟩) (cpyX d) (by decide +kernel)
def Kc779 : Con := ((149, [(0, iLo, iHi, []), (0, 0, 0, []), (0, 8, 8, [])], []), [], [(some (0, 0, 0, []), [], []), (some (0, 1, 1, []), [(0, 0, 8)], [])])
set_option maxRecDepth 20000 in
theorem vc779 {l : Launch} {X : Nat × (Nat → Int32)} {e : Int} (d : Nat) : Vc l X U0 Pt3 e d Kc779 :=
  ck (d := d) (Ks := []) (cy := 152) (cd := cdX7_in) (nl := 3) (fuel := 1000) (Hs := []) (by decide) rfl (fun na b => by rw [← ceX7_in]; exact tkX7_in) (fun _ h => absurd h List.not_mem_nil) (cpyX d) (by decide +kernel)
def Kc780 : Con := ((274, [(2, 0, 0, [150]), (0, iLo, iHi, [])], []), [(150, 0, 0)], [(some (0, (-1), (-1), []), [], []), (some (0, iLo, iHi, []), [(1, 0, 12)], [])])
set_option maxRecDepth 20000 in
theorem vc780 {l : Launch} {X : Nat × (Nat → Int32)} {e : Int} (d : Nat) : Vc l X U0 Pt3 e (d + 1) Kc780 :=
  ck (d := d) (Ks := [Kc779]) (cy := 152) (cd := cdX7_size) (nl := 2) (fuel := 1000) (Hs := []) (by decide) rfl (fun na b => by rw [← ceX7_size]; exact tkX7_size) (List.forall_mem_cons.mpr ⟨vc779 d, fun _ h => absurd h List.not_mem_nil⟩) (cpyX d) (by decide +kernel)
def Kc781 : Con := ((275, [(2, 0, 0, [150])], []), [(150, 0, 0)], [(some (0, iLo, iHi, []), [], [])])
set_option maxRecDepth 20000 in
theorem vc781 {l : Launch} {X : Nat × (Nat → Int32)} {e : Int} (d : Nat) : Vc l X U0 Pt3 e d Kc781 :=
  ck (d := d) (Ks := []) (cy := 152) (cd := cdX7_trouble) (nl := 1) (fuel := 1000) (Hs := []) (by decide) rfl (fun na b => by rw [← ceX7_trouble]; exact tkX7_trouble) (fun _ h => absurd h List.not_mem_nil) (cpyX d) (by decide +kernel)
def Kc782 : Con := ((183, [(2, 0, 0, [150])], []), [(150, 0, 0)], [(some (0, iLo, iHi, []), [], [])])
set_option maxRecDepth 20000 in
theorem vc782 {l : Launch} {X : Nat × (Nat → Int32)} {e : Int} (d : Nat) : Vc l X U0 Pt3 e d Kc782 :=
  ck (d := d) (Ks := []) (cy := 152) (cd := cdX7_fault) (nl := 1) (fuel := 1000) (Hs := []) (by decide) rfl (fun na b => by rw [← ceX7_fault]; exact tkX7_fault) (fun _ h => absurd h List.not_mem_nil) (cpyX d) (by decide +kernel)
def Kc783 : Con := ((184, [(2, 0, 0, [150])], []), [(150, 0, 0)], [(some (0, (-1), (-1), []), [], []), (some (0, iLo, iHi, []), [], [])])
set_option maxRecDepth 20000 in
theorem vc783 {l : Launch} {X : Nat × (Nat → Int32)} {e : Int} (d : Nat) : Vc l X U0 Pt3 e d Kc783 :=
  ck (d := d) (Ks := []) (cy := 152) (cd := cdX7_where) (nl := 1) (fuel := 1000) (Hs := []) (by decide) rfl (fun na b => by rw [← ceX7_where]; exact tkX7_where) (fun _ h => absurd h List.not_mem_nil) (cpyX d) (by decide +kernel)
