def Kc784 : Con := ((146, [(2, 0, 0, [150])], []), [(150, 0, 0), (150, 11, 11)], [(none, [], [])])
set_option maxRecDepth 20000 in
theorem vc784 {l : Launch} {X : Nat × (Nat → Int32)} {e : Int} (d : Nat) : Vc l X U0 Pt4 e d Kc784 :=
  ck (d := d) (Ks := []) (cy := 152) (cd := cdX7_good) (nl := 1) (fuel := 1000) (Hs := []) (by decide) rfl (fun na b => by rw [← ceX7_good]; exact tkX7_good) (fun _ h => absurd h List.not_mem_nil) (cpyX d) (by decide +kernel)
def Kc785 : Con := ((149, [(0, iLo, iHi, []), (0, 0, 0, []), (0, (-1), 5, [])], []), [], [(some (0, 0, 0, []), [], []), (some (0, 1, 1, []), [(0, 0, 5), (2, 0, 5)], [])])
set_option maxRecDepth 20000 in
theorem vc785 {l : Launch} {X : Nat × (Nat → Int32)} {e : Int} (d : Nat) : Vc l X U0 Pt4 e d Kc785 :=
  ck (d := d) (Ks := []) (cy := 152) (cd := cdX7_in) (nl := 3) (fuel := 1000) (Hs := []) (by decide) rfl (fun na b => by rw [← ceX7_in]; exact tkX7_in) (fun _ h => absurd h List.not_mem_nil) (cpyX d) (by decide +kernel)
def Kc786 : Con := ((185, [(2, 0, 0, [150]), (0, iLo, iHi, [])], []), [], [(some (0, 0, 0, []), [], []), (some (0, 1, 1, []), [(1, 0, 5)], [])])
set_option maxRecDepth 20000 in
theorem vc786 {l : Launch} {X : Nat × (Nat → Int32)} {e : Int} (d : Nat) : Vc l X U0 Pt4 e (d + 1) Kc786 :=
  ck (d := d) (Ks := [Kc785]) (cy := 152) (cd := cdX7_isFace) (nl := 2) (fuel := 1000) (Hs := []) (by decide) rfl (fun na b => by rw [← ceX7_isFace]; exact tkX7_isFace) (List.forall_mem_cons.mpr ⟨vc785 d, fun _ h => absurd h List.not_mem_nil⟩) (cpyX d) (by decide +kernel)
def Kc787 : Con := ((147, [(2, 0, 0, [150]), (0, iLo, iHi, [])], []), [(150, 11, 11)], [(some (0, (-1), (-1), []), [], [])])
set_option maxRecDepth 20000 in
theorem vc787 {l : Launch} {X : Nat × (Nat → Int32)} {e : Int} (d : Nat) : Vc l X U0 Pt4 e d Kc787 :=
  ck (d := d) (Ks := []) (cy := 152) (cd := cdX7_no) (nl := 2) (fuel := 1000) (Hs := []) (by decide) rfl (fun na b => by rw [← ceX7_no]; exact tkX7_no) (fun _ h => absurd h List.not_mem_nil) (cpyX d) (by decide +kernel)
def Kc788 : Con := ((149, [(0, iLo, iHi, []), (0, 0, 0, []), (0, 6, 6, [])], []), [], [(some (0, 0, 0, []), [], []), (some (0, 1, 1, []), [(0, 0, 6)], [])])
set_option maxRecDepth 20000 in
theorem vc788 {l : Launch} {X : Nat × (Nat → Int32)} {e : Int} (d : Nat) : Vc l X U0 Pt4 e d Kc788 :=
  ck (d := d) (Ks := []) (cy := 152) (cd := cdX7_in) (nl := 3) (fuel := 1000) (Hs := []) (by decide) rfl (fun na b => by rw [← ceX7_in]; exact tkX7_in) (fun _ h => absurd h List.not_mem_nil) (cpyX d) (by decide +kernel)
def Kc789 : Con := ((197, [(2, 0, 0, [150]), (0, iLo, iHi, [])], []), [], [(some (0, (-2), (-2), []), [], []), (some (0, 0, 3, []), [], [])])
set_option maxRecDepth 20000 in
theorem vc789 {l : Launch} {X : Nat × (Nat → Int32)} {e : Int} (d : Nat) : Vc l X U0 Pt4 e d Kc789 :=
  ck (d := d) (Ks := []) (cy := 152) (cd := cdX7_canonOf) (nl := 3) (fuel := 1000) (Hs := [((2, 0), ([(0, (2, 0, 0, [150])), (1, (0, 1, 0, [])), (2, (0, 2, 0, []))], [], [(0, 0), (iLo, iHi), (0, 4)], []), [(0, 1, 0), (0, 2, 0)], (8, [(2, (-2))]), [])]) (by decide) rfl (fun na b => by rw [← ceX7_canonOf]; exact tkX7_canonOf) (fun _ h => absurd h List.not_mem_nil) (cpyX d) (by decide +kernel)
def Kc790 : Con := ((198, [(2, 0, 0, [150]), (0, iLo, iHi, []), (0, iLo, iHi, [])], []), [(150, 0, 0), (150, 11, 11)], [(some (0, (-1), (-1), []), [], []), (some (0, iLo, iHi, []), [(1, 0, 5), (2, 0, 6)], []), (some (0, (-2), (-2), []), [(1, 0, 5), (2, 5, 5)], [])])
set_option maxRecDepth 20000 in
theorem vc790 {l : Launch} {X : Nat × (Nat → Int32)} {e : Int} (d : Nat) : Vc l X U0 Pt4 e (d + 2) Kc790 :=
  ck (d := (d + 1)) (Ks := [Kc784, Kc786, Kc787, Kc788, Kc789]) (cy := 152) (cd := cdX7_face) (nl := 3) (fuel := 1000) (Hs := []) (by decide) rfl (fun na b => by rw [← ceX7_face]; exact tkX7_face) (List.forall_mem_cons.mpr ⟨vc784 (d + 1), List.forall_mem_cons.mpr ⟨vc786 d, List.forall_mem_cons.mpr ⟨vc787 (d + 1), List.forall_mem_cons.mpr ⟨vc788 (d + 1), List.forall_mem_cons.mpr ⟨vc789 (d + 1), fun _ h => absurd h List.not_mem_nil⟩⟩⟩⟩⟩) (cpyX (d + 1)) (by decide +kernel)
def Kc791 : Con := ((149, [(0, iLo, iHi, []), (0, 0, 0, []), (0, 3, 3, [])], []), [], [(some (0, 0, 0, []), [], []), (some (0, 1, 1, []), [(0, 0, 3)], [])])
set_option maxRecDepth 20000 in
theorem vc791 {l : Launch} {X : Nat × (Nat → Int32)} {e : Int} (d : Nat) : Vc l X U0 Pt4 e d Kc791 :=
  ck (d := d) (Ks := []) (cy := 152) (cd := cdX7_in) (nl := 3) (fuel := 1000) (Hs := []) (by decide) rfl (fun na b => by rw [← ceX7_in]; exact tkX7_in) (fun _ h => absurd h List.not_mem_nil) (cpyX d) (by decide +kernel)
def Kc792 : Con := ((186, [(2, 0, 0, [150]), (0, iLo, iHi, [])], []), [], [(some (0, 0, 0, []), [], []), (some (0, 1, 1, []), [(1, 0, 3)], [])])
set_option maxRecDepth 20000 in
theorem vc792 {l : Launch} {X : Nat × (Nat → Int32)} {e : Int} (d : Nat) : Vc l X U0 Pt4 e (d + 1) Kc792 :=
  ck (d := d) (Ks := [Kc791]) (cy := 152) (cd := cdX7_isCanon) (nl := 2) (fuel := 1000) (Hs := []) (by decide) rfl (fun na b => by rw [← ceX7_isCanon]; exact tkX7_isCanon) (List.forall_mem_cons.mpr ⟨vc791 d, fun _ h => absurd h List.not_mem_nil⟩) (cpyX d) (by decide +kernel)
def Kc793 : Con := ((149, [(0, iLo, iHi, []), (0, 0, 0, []), (0, 2, 2, [])], []), [], [(some (0, 0, 0, []), [], []), (some (0, 1, 1, []), [(0, 0, 2)], [])])
set_option maxRecDepth 20000 in
theorem vc793 {l : Launch} {X : Nat × (Nat → Int32)} {e : Int} (d : Nat) : Vc l X U0 Pt4 e d Kc793 :=
  ck (d := d) (Ks := []) (cy := 152) (cd := cdX7_in) (nl := 3) (fuel := 1000) (Hs := []) (by decide) rfl (fun na b => by rw [← ceX7_in]; exact tkX7_in) (fun _ h => absurd h List.not_mem_nil) (cpyX d) (by decide +kernel)
def Kc794 : Con := ((199, [(2, 0, 0, [150]), (0, iLo, iHi, []), (0, iLo, iHi, [])], []), [(150, 0, 0), (150, 11, 11)], [(some (0, (-1), (-1), []), [], []), (some (0, 0, 30, []), [(1, 0, 3), (2, 0, 2)], [])])
set_option maxRecDepth 20000 in
theorem vc794 {l : Launch} {X : Nat × (Nat → Int32)} {e : Int} (d : Nat) : Vc l X U0 Pt4 e (d + 2) Kc794 :=
  ck (d := (d + 1)) (Ks := [Kc784, Kc792, Kc787, Kc793]) (cy := 152) (cd := cdX7_canon) (nl := 3) (fuel := 1000) (Hs := []) (by decide) rfl (fun na b => by rw [← ceX7_canon]; exact tkX7_canon) (List.forall_mem_cons.mpr ⟨vc784 (d + 1), List.forall_mem_cons.mpr ⟨vc792 d, List.forall_mem_cons.mpr ⟨vc787 (d + 1), List.forall_mem_cons.mpr ⟨vc793 (d + 1), fun _ h => absurd h List.not_mem_nil⟩⟩⟩⟩) (cpyX (d + 1)) (by decide +kernel)
def Kc795 : Con := ((187, [(2, 0, 0, [150])], []), [], [(some (0, 0, 20, []), [], [])])
set_option maxRecDepth 20000 in
theorem vc795 {l : Launch} {X : Nat × (Nat → Int32)} {e : Int} (d : Nat) : Vc l X U0 Pt4 e d Kc795 :=
  ck (d := d) (Ks := []) (cy := 152) (cd := cdX7_cells) (nl := 1) (fuel := 1000) (Hs := []) (by decide) rfl (fun na b => by rw [← ceX7_cells]; exact tkX7_cells) (fun _ h => absurd h List.not_mem_nil) (cpyX d) (by decide +kernel)
def Kc796 : Con := ((149, [(0, iLo, iHi, []), (0, 0, 0, []), (0, (-1), 19, [])], []), [], [(some (0, 0, 0, []), [], []), (some (0, 1, 1, []), [(0, 0, 19), (2, 0, 19)], [])])
set_option maxRecDepth 20000 in
theorem vc796 {l : Launch} {X : Nat × (Nat → Int32)} {e : Int} (d : Nat) : Vc l X U0 Pt4 e d Kc796 :=
  ck (d := d) (Ks := []) (cy := 152) (cd := cdX7_in) (nl := 3) (fuel := 1000) (Hs := []) (by decide) rfl (fun na b => by rw [← ceX7_in]; exact tkX7_in) (fun _ h => absurd h List.not_mem_nil) (cpyX d) (by decide +kernel)
def Kc797 : Con := ((188, [(2, 0, 0, [150]), (0, iLo, iHi, [])], []), [], [(some (0, 0, 0, []), [], []), (some (0, 1, 1, []), [(1, 0, 19)], [])])
set_option maxRecDepth 20000 in
theorem vc797 {l : Launch} {X : Nat × (Nat → Int32)} {e : Int} (d : Nat) : Vc l X U0 Pt4 e (d + 1) Kc797 :=
  ck (d := d) (Ks := [Kc795, Kc796]) (cy := 152) (cd := cdX7_isCell) (nl := 2) (fuel := 1000) (Hs := []) (by decide) rfl (fun na b => by rw [← ceX7_isCell]; exact tkX7_isCell) (List.forall_mem_cons.mpr ⟨vc795 d, List.forall_mem_cons.mpr ⟨vc796 d, fun _ h => absurd h List.not_mem_nil⟩⟩) (cpyX d) (by decide +kernel)
def Kc798 : Con := ((200, [(2, 0, 0, [150]), (0, iLo, iHi, [])], []), [], [(some (0, (-2), (-2), []), [], []), (some (0, 0, 5, []), [], [])])
set_option maxRecDepth 20000 in
theorem vc798 {l : Launch} {X : Nat × (Nat → Int32)} {e : Int} (d : Nat) : Vc l X U0 Pt4 e d Kc798 :=
  ck (d := d) (Ks := []) (cy := 152) (cd := cdX7_faceOver) (nl := 3) (fuel := 1000) (Hs := [((2, 0), ([(0, (2, 0, 0, [150])), (1, (0, 1, 0, [])), (2, (0, 2, 0, []))], [], [(0, 0), (iLo, iHi), (0, 6)], []), [(0, 1, 0), (0, 2, 0)], (12, [(2, (-2))]), [])]) (by decide) rfl (fun na b => by rw [← ceX7_faceOver]; exact tkX7_faceOver) (fun _ h => absurd h List.not_mem_nil) (cpyX d) (by decide +kernel)
def Kc799 : Con := ((149, [(0, iLo, iHi, []), (0, 0, 0, []), (0, 1, 4, [])], []), [], [(some (0, 0, 0, []), [], []), (some (0, 1, 1, []), [(0, 0, 4)], [])])
set_option maxRecDepth 20000 in
theorem vc799 {l : Launch} {X : Nat × (Nat → Int32)} {e : Int} (d : Nat) : Vc l X U0 Pt4 e d Kc799 :=
  ck (d := d) (Ks := []) (cy := 152) (cd := cdX7_in) (nl := 3) (fuel := 1000) (Hs := []) (by decide) rfl (fun na b => by rw [← ceX7_in]; exact tkX7_in) (fun _ h => absurd h List.not_mem_nil) (cpyX d) (by decide +kernel)
def Kc800 : Con := ((149, [(0, iLo, iHi, []), (0, 0, 0, []), (0, (-1), 3, [])], []), [], [(some (0, 0, 0, []), [], []), (some (0, 1, 1, []), [(0, 0, 3), (2, 0, 3)], [])])
set_option maxRecDepth 20000 in
theorem vc800 {l : Launch} {X : Nat × (Nat → Int32)} {e : Int} (d : Nat) : Vc l X U0 Pt4 e d Kc800 :=
  ck (d := d) (Ks := []) (cy := 152) (cd := cdX7_in) (nl := 3) (fuel := 1000) (Hs := []) (by decide) rfl (fun na b => by rw [← ceX7_in]; exact tkX7_in) (fun _ h => absurd h List.not_mem_nil) (cpyX d) (by decide +kernel)
def Kc801 : Con := ((150, [(0, iLo, iHi, []), (0, iLo, iHi, [])], []), [], [(some (0, 0, 0, []), [], []), (some (0, 1, 1, []), [], [])])
set_option maxRecDepth 20000 in
theorem vc801 {l : Launch} {X : Nat × (Nat → Int32)} {e : Int} (d : Nat) : Vc l X U0 Pt4 e d Kc801 :=
  ck (d := d) (Ks := []) (cy := 152) (cd := cdX7_hasBit) (nl := 2) (fuel := 1000) (Hs := []) (by decide) rfl (fun na b => by rw [← ceX7_hasBit]; exact tkX7_hasBit) (fun _ h => absurd h List.not_mem_nil) (cpyX d) (by decide +kernel)
def Kc802 : Con := ((201, [(2, 0, 0, [150]), (0, iLo, iHi, [])], []), [], [(some (0, 0, 0, []), [], []), (some (0, 1, 1, []), [], [])])
set_option maxRecDepth 20000 in
theorem vc802 {l : Launch} {X : Nat × (Nat → Int32)} {e : Int} (d : Nat) : Vc l X U0 Pt4 e (d + 1) Kc802 :=
  ck (d := d) (Ks := [Kc801]) (cy := 152) (cd := cdX7_isWall) (nl := 2) (fuel := 1000) (Hs := []) (by decide) rfl (fun na b => by rw [← ceX7_isWall]; exact tkX7_isWall) (List.forall_mem_cons.mpr ⟨vc801 d, fun _ h => absurd h List.not_mem_nil⟩) (cpyX d) (by decide +kernel)
def Kc803 : Con := ((202, [(2, 0, 0, [150]), (0, iLo, iHi, []), (0, iLo, iHi, [])], []), [], [(some (0, (-2), (-2), []), [], []), (some (0, 0, 19, []), [], [])])
set_option maxRecDepth 20000 in
theorem vc803 {l : Launch} {X : Nat × (Nat → Int32)} {e : Int} (d : Nat) : Vc l X U0 Pt4 e (d + 2) Kc803 :=
  ck (d := (d + 1)) (Ks := [Kc799, Kc800, Kc802]) (cy := 152) (cd := cdX7_stepFrom) (nl := 5) (fuel := 1000) (Hs := []) (by decide) rfl (fun na b => by rw [← ceX7_stepFrom]; exact tkX7_stepFrom) (List.forall_mem_cons.mpr ⟨vc799 (d + 1), List.forall_mem_cons.mpr ⟨vc800 (d + 1), List.forall_mem_cons.mpr ⟨vc802 d, fun _ h => absurd h List.not_mem_nil⟩⟩⟩) (cpyX (d + 1)) (by decide +kernel)
def Kc804 : Con := ((203, [(2, 0, 0, [150]), (0, iLo, iHi, [])], []), [], [(some (0, iLo, iHi, []), [], [])])
set_option maxRecDepth 20000 in
theorem vc804 {l : Launch} {X : Nat × (Nat → Int32)} {e : Int} (d : Nat) : Vc l X U0 Pt4 e (d + 3) Kc804 :=
  ck (d := (d + 2)) (Ks := [Kc803]) (cy := 152) (cd := cdX7_beside) (nl := 4) (fuel := 1000) (Hs := [((4, 0), ([(0, (2, 0, 0, [150])), (1, (0, 1, 0, [])), (2, (0, 2, 0, [])), (3, (0, 3, 0, []))], [], [(0, 0), (iLo, iHi), (iLo, iHi), (0, 4)], []), [(0, 1, 0), (0, 2, 0), (0, 3, 0)], (8, [(3, (-2))]), [])]) (by decide) rfl (fun na b => by rw [← ceX7_beside]; exact tkX7_beside) (List.forall_mem_cons.mpr ⟨vc803 d, fun _ h => absurd h List.not_mem_nil⟩) (cpyX (d + 2)) (by decide +kernel)
def Kc805 : Con := ((204, [(2, 0, 0, [150]), (0, iLo, iHi, []), (0, iLo, iHi, [])], []), [(150, 0, 0), (150, 11, 11), (150, 26, 26)], [(some (0, (-1), (-1), []), [], []), (some (0, iLo, iHi, []), [(1, 0, 19), (2, 0, 3)], []), (some (0, (-2), (-2), []), [(1, 0, 19), (2, 1, 1)], [])])
set_option maxRecDepth 20000 in
theorem vc805 {l : Launch} {X : Nat × (Nat → Int32)} {e : Int} (d : Nat) : Vc l X U0 Pt4 e (d + 4) Kc805 :=
  ck (d := (d + 3)) (Ks := [Kc784, Kc797, Kc787, Kc791, Kc798, Kc804]) (cy := 152) (cd := cdX7_cell) (nl := 3) (fuel := 1000) (Hs := []) (by decide) rfl (fun na b => by rw [← ceX7_cell]; exact tkX7_cell) (List.forall_mem_cons.mpr ⟨vc784 (d + 3), List.forall_mem_cons.mpr ⟨vc797 (d + 2), List.forall_mem_cons.mpr ⟨vc787 (d + 3), List.forall_mem_cons.mpr ⟨vc791 (d + 3), List.forall_mem_cons.mpr ⟨vc798 (d + 3), List.forall_mem_cons.mpr ⟨vc804 d, fun _ h => absurd h List.not_mem_nil⟩⟩⟩⟩⟩⟩) (cpyX (d + 3)) (by decide +kernel)
def Kc806 : Con := ((205, [(2, 0, 0, [150])], []), [(150, 0, 0), (150, 11, 11)], [(some (0, iLo, iHi, []), [], [])])
set_option maxRecDepth 20000 in
theorem vc806 {l : Launch} {X : Nat × (Nat → Int32)} {e : Int} (d : Nat) : Vc l X U0 Pt4 e (d + 1) Kc806 :=
  ck (d := d) (Ks := [Kc784]) (cy := 152) (cd := cdX7_burden) (nl := 3) (fuel := 1000) (Hs := [((21, 0), ([(0, (2, 0, 0, [150])), (1, (0, 1, 0, [])), (2, (0, 2, 0, []))], [], [(0, 0), (iLo, iHi), (0, 6)], []), [(0, 1, 0), (0, 2, 0)], (12, [(2, (-2))]), [])]) (by decide) rfl (fun na b => by rw [← ceX7_burden]; exact tkX7_burden) (List.forall_mem_cons.mpr ⟨vc784 d, fun _ h => absurd h List.not_mem_nil⟩) (cpyX d) (by decide +kernel)
def Kc807 : Con := ((149, [(0, iLo, iHi, []), (0, 0, 0, []), (0, 60, 60, [])], []), [], [(some (0, 0, 0, []), [], []), (some (0, 1, 1, []), [(0, 0, 60)], [])])
set_option maxRecDepth 20000 in
theorem vc807 {l : Launch} {X : Nat × (Nat → Int32)} {e : Int} (d : Nat) : Vc l X U0 Pt4 e d Kc807 :=
  ck (d := d) (Ks := []) (cy := 152) (cd := cdX7_in) (nl := 3) (fuel := 1000) (Hs := []) (by decide) rfl (fun na b => by rw [← ceX7_in]; exact tkX7_in) (fun _ h => absurd h List.not_mem_nil) (cpyX d) (by decide +kernel)
def Kc808 : Con := ((190, [(2, 0, 0, [150]), (0, 0, 0, []), (0, 0, 0, [])], []), [], [(some (0, 1, 1, []), [], [])])
set_option maxRecDepth 20000 in
theorem vc808 {l : Launch} {X : Nat × (Nat → Int32)} {e : Int} (d : Nat) : Vc l X U0 Pt4 e d Kc808 :=
  ck (d := d) (Ks := []) (cy := 152) (cd := cdX7_why) (nl := 3) (fuel := 1000) (Hs := []) (by decide) rfl (fun na b => by rw [← ceX7_why]; exact tkX7_why) (fun _ h => absurd h List.not_mem_nil) (cpyX d) (by decide +kernel)
def Kc809 : Con := ((190, [(2, 0, 0, [150]), (0, 0, 0, []), (0, 1, 1, [])], []), [], [(some (0, 1, 1, []), [], [])])
set_option maxRecDepth 20000 in
theorem vc809 {l : Launch} {X : Nat × (Nat → Int32)} {e : Int} (d : Nat) : Vc l X U0 Pt4 e d Kc809 :=
  ck (d := d) (Ks := []) (cy := 152) (cd := cdX7_why) (nl := 3) (fuel := 1000) (Hs := []) (by decide) rfl (fun na b => by rw [← ceX7_why]; exact tkX7_why) (fun _ h => absurd h List.not_mem_nil) (cpyX d) (by decide +kernel)
def Kc810 : Con := ((206, [(2, 0, 0, [150]), (0, 0, 0, []), (0, 0, 0, []), (0, iLo, iHi, [])], []), [], [(some (0, 1, 1, []), [], [])])
set_option maxRecDepth 20000 in
theorem vc810 {l : Launch} {X : Nat × (Nat → Int32)} {e : Int} (d : Nat) : Vc l X U0 Pt4 e (d + 1) Kc810 :=
  ck (d := d) (Ks := [Kc807, Kc808, Kc809]) (cy := 152) (cd := cdX7_aheadWhy) (nl := 4) (fuel := 1000) (Hs := []) (by decide) rfl (fun na b => by rw [← ceX7_aheadWhy]; exact tkX7_aheadWhy) (List.forall_mem_cons.mpr ⟨vc807 d, List.forall_mem_cons.mpr ⟨vc808 d, List.forall_mem_cons.mpr ⟨vc809 d, fun _ h => absurd h List.not_mem_nil⟩⟩⟩) (cpyX d) (by decide +kernel)
def Kc811 : Con := ((190, [(2, 0, 0, [150]), (0, 1, 1, []), (0, 0, 0, [])], []), [], [(some (0, 2, 2, []), [], [])])
set_option maxRecDepth 20000 in
theorem vc811 {l : Launch} {X : Nat × (Nat → Int32)} {e : Int} (d : Nat) : Vc l X U0 Pt4 e d Kc811 :=
  ck (d := d) (Ks := []) (cy := 152) (cd := cdX7_why) (nl := 3) (fuel := 1000) (Hs := []) (by decide) rfl (fun na b => by rw [← ceX7_why]; exact tkX7_why) (fun _ h => absurd h List.not_mem_nil) (cpyX d) (by decide +kernel)
def Kc812 : Con := ((190, [(2, 0, 0, [150]), (0, 1, 1, []), (0, 1, 1, [])], []), [], [(some (0, 0, 0, []), [], [])])
set_option maxRecDepth 20000 in
theorem vc812 {l : Launch} {X : Nat × (Nat → Int32)} {e : Int} (d : Nat) : Vc l X U0 Pt4 e d Kc812 :=
  ck (d := d) (Ks := []) (cy := 152) (cd := cdX7_why) (nl := 3) (fuel := 1000) (Hs := []) (by decide) rfl (fun na b => by rw [← ceX7_why]; exact tkX7_why) (fun _ h => absurd h List.not_mem_nil) (cpyX d) (by decide +kernel)
def Kc813 : Con := ((206, [(2, 0, 0, [150]), (0, 1, 1, []), (0, 0, 0, []), (0, iLo, iHi, [])], []), [], [(some (0, 2, 2, []), [], []), (some (0, 0, 0, []), [(3, 0, 60)], [])])
set_option maxRecDepth 20000 in
theorem vc813 {l : Launch} {X : Nat × (Nat → Int32)} {e : Int} (d : Nat) : Vc l X U0 Pt4 e (d + 1) Kc813 :=
  ck (d := d) (Ks := [Kc807, Kc811, Kc812]) (cy := 152) (cd := cdX7_aheadWhy) (nl := 4) (fuel := 1000) (Hs := []) (by decide) rfl (fun na b => by rw [← ceX7_aheadWhy]; exact tkX7_aheadWhy) (List.forall_mem_cons.mpr ⟨vc807 d, List.forall_mem_cons.mpr ⟨vc811 d, List.forall_mem_cons.mpr ⟨vc812 d, fun _ h => absurd h List.not_mem_nil⟩⟩⟩) (cpyX d) (by decide +kernel)
def Kc814 : Con := ((191, [(2, 0, 0, [150]), (0, iLo, iHi, [])], []), [(160, 0, 4)], [(none, [], [])])
set_option maxRecDepth 20000 in
theorem vc814 {l : Launch} {X : Nat × (Nat → Int32)} {e : Int} (d : Nat) : Vc l X U0 Pt4 e (d + 1) Kc814 :=
  ck (d := d) (Ks := [Kc801]) (cy := 152) (cd := cdX7_vexedBy) (nl := 3) (fuel := 1000) (Hs := [((2, 0), ([(0, (2, 0, 0, [150])), (1, (0, 1, 0, [])), (2, (0, 2, 0, []))], [], [(0, 0), (iLo, iHi), (0, 4)], []), [(0, 1, 0), (0, 2, 0)], (28, [(2, (-3))]), []), ((37, 2), ([(0, (2, 0, 0, [150])), (1, (0, 1, 0, [])), (2, (0, 2, 0, []))], [], [(0, 0), (iLo, iHi), (0, 4)], []), [(0, 1, 0), (0, 2, 0)], (12, [(2, (-3))]), [])]) (by decide) rfl (fun na b => by rw [← ceX7_vexedBy]; exact tkX7_vexedBy) (List.forall_mem_cons.mpr ⟨vc801 d, fun _ h => absurd h List.not_mem_nil⟩) (cpyX d) (by decide +kernel)
def Kc815 : Con := ((192, [(2, 0, 0, [150]), (2, 0, 0, [161]), (0, 0, 5, [])], []), [], [(some (0, iLo, iHi, []), [], [])])
set_option maxRecDepth 20000 in
theorem vc815 {l : Launch} {X : Nat × (Nat → Int32)} {e : Int} (d : Nat) : Vc l X U0 Pt4 e d Kc815 :=
  ck (d := d) (Ks := []) (cy := 152) (cd := cdX7_letsGo) (nl := 6) (fuel := 1000) (Hs := []) (by decide) rfl (fun na b => by rw [← ceX7_letsGo]; exact tkX7_letsGo) (fun _ h => absurd h List.not_mem_nil) (cpyX d) (by decide +kernel)
def Kc816 : Con := ((193, [(2, 0, 0, [150]), (2, 0, 0, [161]), (0, iLo, iHi, [])], []), [(161, 0, 17), (161, 23, 24)], [(none, [], [])])
set_option maxRecDepth 20000 in
theorem vc816 {l : Launch} {X : Nat × (Nat → Int32)} {e : Int} (d : Nat) : Vc l X U0 Pt4 e (d + 1) Kc816 :=
  ck (d := d) (Ks := [Kc815]) (cy := 152) (cd := cdX7_dayOn) (nl := 5) (fuel := 1000) (Hs := [((15, 0), ([(0, (2, 0, 0, [150])), (1, (2, 0, 0, [161])), (2, (0, 1, 0, [])), (3, (0, 2, 0, []))], [], [(0, 0), (iLo, iHi), (0, 4)], []), [(0, 2, 0), (0, 3, 0)], (34, [(2, (-3))]), []), ((89, 0), ([(0, (2, 0, 0, [150])), (1, (2, 0, 0, [161])), (3, (0, 1, 0, []))], [], [(0, 0), (0, 6)], []), [(0, 3, 0)], (18, [(1, (-3))]), [])]) (by decide) rfl (fun na b => by rw [← ceX7_dayOn]; exact tkX7_dayOn) (List.forall_mem_cons.mpr ⟨vc815 d, fun _ h => absurd h List.not_mem_nil⟩) (cpyX d) (by decide +kernel)
def Kc817 : Con := ((194, [(2, 0, 0, [150]), (0, iLo, iHi, [])], []), [(160, 0, 4), (161, 0, 24)], [(none, [], [])])
set_option maxRecDepth 20000 in
theorem vc817 {l : Launch} {X : Nat × (Nat → Int32)} {e : Int} (d : Nat) : Vc l X U0 Pt4 e (d + 2) Kc817 :=
  ck (d := (d + 1)) (Ks := [Kc814, Kc816]) (cy := 152) (cd := cdX7_daysOn) (nl := 3) (fuel := 1000) (Hs := [((22, 0), ([(0, (2, 0, 0, [150])), (1, (0, 1, 0, [])), (2, (0, 2, 0, []))], [], [(0, 0), (iLo, iHi), (0, iHi)], []), [(0, 1, 0), (0, 2, 0)], (4294967294, [(2, (-2))]), [])]) (by decide) rfl (fun na b => by rw [← ceX7_daysOn]; exact tkX7_daysOn) (List.forall_mem_cons.mpr ⟨vc814 d, List.forall_mem_cons.mpr ⟨vc816 d, fun _ h => absurd h List.not_mem_nil⟩⟩) (cpyX (d + 1)) (by decide +kernel)
def Kc818 : Con := ((207, [(2, 0, 0, [150]), (0, iLo, iHi, []), (0, iLo, iHi, [])], []), [(150, 0, 0), (150, 11, 11), (160, 0, 4), (161, 0, 24)], [(some (0, (-1), (-1), []), [], []), (some (0, iLo, iHi, []), [(1, 0, 5), (2, 0, 60)], [])])
set_option maxRecDepth 20000 in
theorem vc818 {l : Launch} {X : Nat × (Nat → Int32)} {e : Int} (d : Nat) : Vc l X U0 Pt4 e (d + 3) Kc818 :=
  ck (d := (d + 2)) (Ks := [Kc784, Kc786, Kc810, Kc787, Kc813, Kc817]) (cy := 152) (cd := cdX7_bears) (nl := 4) (fuel := 1000) (Hs := []) (by decide) rfl (fun na b => by rw [← ceX7_bears]; exact tkX7_bears) (List.forall_mem_cons.mpr ⟨vc784 (d + 2), List.forall_mem_cons.mpr ⟨vc786 (d + 1), List.forall_mem_cons.mpr ⟨vc810 (d + 1), List.forall_mem_cons.mpr ⟨vc787 (d + 2), List.forall_mem_cons.mpr ⟨vc813 (d + 1), List.forall_mem_cons.mpr ⟨vc817 d, fun _ h => absurd h List.not_mem_nil⟩⟩⟩⟩⟩⟩) (cpyX (d + 2)) (by decide +kernel)
def Kc819 : Con := ((208, [(2, 0, 0, [150]), (0, iLo, iHi, []), (0, iLo, iHi, [])], []), [(150, 0, 0), (150, 11, 11), (160, 0, 4), (161, 0, 24)], [(some (0, (-1), (-1), []), [], []), (some (0, iLo, iHi, []), [(1, 0, 5), (2, 0, 60)], [])])
set_option maxRecDepth 20000 in
theorem vc819 {l : Launch} {X : Nat × (Nat → Int32)} {e : Int} (d : Nat) : Vc l X U0 Pt4 e (d + 3) Kc819 :=
  ck (d := (d + 2)) (Ks := [Kc784, Kc786, Kc810, Kc787, Kc813, Kc817]) (cy := 152) (cd := cdX7_holds) (nl := 4) (fuel := 1000) (Hs := []) (by decide) rfl (fun na b => by rw [← ceX7_holds]; exact tkX7_holds) (List.forall_mem_cons.mpr ⟨vc784 (d + 2), List.forall_mem_cons.mpr ⟨vc786 (d + 1), List.forall_mem_cons.mpr ⟨vc810 (d + 1), List.forall_mem_cons.mpr ⟨vc787 (d + 2), List.forall_mem_cons.mpr ⟨vc813 (d + 1), List.forall_mem_cons.mpr ⟨vc817 d, fun _ h => absurd h List.not_mem_nil⟩⟩⟩⟩⟩⟩) (cpyX (d + 2)) (by decide +kernel)
def Kc820 : Con := ((209, [(2, 0, 0, [150]), (0, iLo, iHi, []), (0, iLo, iHi, [])], []), [(150, 0, 0), (150, 11, 11), (160, 0, 4), (161, 0, 24)], [(some (0, (-1), (-1), []), [], []), (some (0, iLo, iHi, []), [(1, 0, 5), (2, 0, 60)], [])])
set_option maxRecDepth 20000 in
theorem vc820 {l : Launch} {X : Nat × (Nat → Int32)} {e : Int} (d : Nat) : Vc l X U0 Pt4 e (d + 3) Kc820 :=
  ck (d := (d + 2)) (Ks := [Kc784, Kc786, Kc810, Kc787, Kc813, Kc817]) (cy := 152) (cd := cdX7_drops) (nl := 4) (fuel := 1000) (Hs := []) (by decide) rfl (fun na b => by rw [← ceX7_drops]; exact tkX7_drops) (List.forall_mem_cons.mpr ⟨vc784 (d + 2), List.forall_mem_cons.mpr ⟨vc786 (d + 1), List.forall_mem_cons.mpr ⟨vc810 (d + 1), List.forall_mem_cons.mpr ⟨vc787 (d + 2), List.forall_mem_cons.mpr ⟨vc813 (d + 1), List.forall_mem_cons.mpr ⟨vc817 d, fun _ h => absurd h List.not_mem_nil⟩⟩⟩⟩⟩⟩) (cpyX (d + 2)) (by decide +kernel)
def Kc821 : Con := ((210, [(2, 0, 0, [150]), (0, iLo, iHi, [])], []), [(150, 0, 0), (150, 11, 11), (160, 0, 4), (161, 0, 24)], [(some (0, (-1), (-1), []), [], []), (some (0, (-2), (-2), []), [], []), (some (0, 1, 60, []), [], [])])
set_option maxRecDepth 20000 in
theorem vc821 {l : Launch} {X : Nat × (Nat → Int32)} {e : Int} (d : Nat) : Vc l X U0 Pt4 e (d + 3) Kc821 :=
  ck (d := (d + 2)) (Ks := [Kc784, Kc786, Kc787, Kc817, Kc816]) (cy := 152) (cd := cdX7_dropsIn) (nl := 3) (fuel := 1000) (Hs := [((25, 0), ([(0, (2, 0, 0, [150])), (1, (0, 1, 0, [])), (2, (0, 2, 0, []))], [], [(0, 0), (0, 5), (1, 61)], []), [(0, 1, 0), (0, 2, 0)], (122, [(2, (-2))]), [])]) (by decide) rfl (fun na b => by rw [← ceX7_dropsIn]; exact tkX7_dropsIn) (List.forall_mem_cons.mpr ⟨vc784 (d + 2), List.forall_mem_cons.mpr ⟨vc786 (d + 1), List.forall_mem_cons.mpr ⟨vc787 (d + 2), List.forall_mem_cons.mpr ⟨vc817 d, List.forall_mem_cons.mpr ⟨vc816 (d + 1), fun _ h => absurd h List.not_mem_nil⟩⟩⟩⟩⟩) (cpyX (d + 2)) (by decide +kernel)
def Kc822 : Con := ((211, [(2, 0, 0, [150]), (0, iLo, iHi, [])], []), [(150, 0, 0), (150, 11, 11), (160, 0, 4), (161, 0, 24)], [(some (0, (-1), (-1), []), [], []), (some (0, (-2), (-2), []), [], []), (some (0, 0, 60, []), [], [])])
set_option maxRecDepth 20000 in
theorem vc822 {l : Launch} {X : Nat × (Nat → Int32)} {e : Int} (d : Nat) : Vc l X U0 Pt4 e (d + 3) Kc822 :=
  ck (d := (d + 2)) (Ks := [Kc784, Kc786, Kc787, Kc817, Kc816]) (cy := 152) (cd := cdX7_fallsIn) (nl := 3) (fuel := 1000) (Hs := [((25, 0), ([(0, (2, 0, 0, [150])), (1, (0, 1, 0, [])), (2, (0, 2, 0, []))], [], [(0, 0), (0, 5), (0, 61)], []), [(0, 1, 0), (0, 2, 0)], (122, [(2, (-2))]), [])]) (by decide) rfl (fun na b => by rw [← ceX7_fallsIn]; exact tkX7_fallsIn) (List.forall_mem_cons.mpr ⟨vc784 (d + 2), List.forall_mem_cons.mpr ⟨vc786 (d + 1), List.forall_mem_cons.mpr ⟨vc787 (d + 2), List.forall_mem_cons.mpr ⟨vc817 d, List.forall_mem_cons.mpr ⟨vc816 (d + 1), fun _ h => absurd h List.not_mem_nil⟩⟩⟩⟩⟩) (cpyX (d + 2)) (by decide +kernel)
def Kc823 : Con := ((149, [(0, iLo, iHi, []), (0, 1, 1, []), (0, 60, 60, [])], []), [], [(some (0, 0, 0, []), [], []), (some (0, 1, 1, []), [(0, 1, 60)], [])])
set_option maxRecDepth 20000 in
theorem vc823 {l : Launch} {X : Nat × (Nat → Int32)} {e : Int} (d : Nat) : Vc l X U0 Pt4 e d Kc823 :=
  ck (d := d) (Ks := []) (cy := 152) (cd := cdX7_in) (nl := 3) (fuel := 1000) (Hs := []) (by decide) rfl (fun na b => by rw [← ceX7_in]; exact tkX7_in) (fun _ h => absurd h List.not_mem_nil) (cpyX d) (by decide +kernel)
def Kc824 : Con := ((206, [(2, 0, 0, [150]), (0, 1, 1, []), (0, 1, 1, []), (0, iLo, iHi, [])], []), [], [(some (0, 2, 2, []), [], []), (some (0, 0, 0, []), [(3, 1, 60)], [])])
set_option maxRecDepth 20000 in
theorem vc824 {l : Launch} {X : Nat × (Nat → Int32)} {e : Int} (d : Nat) : Vc l X U0 Pt4 e (d + 1) Kc824 :=
  ck (d := d) (Ks := [Kc823, Kc811, Kc812]) (cy := 152) (cd := cdX7_aheadWhy) (nl := 4) (fuel := 1000) (Hs := []) (by decide) rfl (fun na b => by rw [← ceX7_aheadWhy]; exact tkX7_aheadWhy) (List.forall_mem_cons.mpr ⟨vc823 d, List.forall_mem_cons.mpr ⟨vc811 d, List.forall_mem_cons.mpr ⟨vc812 d, fun _ h => absurd h List.not_mem_nil⟩⟩⟩) (cpyX d) (by decide +kernel)
def Kc825 : Con := ((212, [(2, 0, 0, [150]), (0, iLo, iHi, [])], []), [(150, 0, 0), (150, 11, 11), (160, 0, 4), (161, 0, 24)], [(some (0, (-1), (-1), []), [], []), (some (0, iLo, iHi, []), [(1, 1, 60)], [])])
set_option maxRecDepth 20000 in
theorem vc825 {l : Launch} {X : Nat × (Nat → Int32)} {e : Int} (d : Nat) : Vc l X U0 Pt4 e (d + 3) Kc825 :=
  ck (d := (d + 2)) (Ks := [Kc784, Kc824, Kc787, Kc817]) (cy := 152) (cd := cdX7_wet) (nl := 3) (fuel := 1000) (Hs := []) (by decide) rfl (fun na b => by rw [← ceX7_wet]; exact tkX7_wet) (List.forall_mem_cons.mpr ⟨vc784 (d + 2), List.forall_mem_cons.mpr ⟨vc824 (d + 1), List.forall_mem_cons.mpr ⟨vc787 (d + 2), List.forall_mem_cons.mpr ⟨vc817 d, fun _ h => absurd h List.not_mem_nil⟩⟩⟩⟩) (cpyX (d + 2)) (by decide +kernel)
def Kc826 : Con := ((213, [(2, 0, 0, [150]), (0, 0, 19, []), (0, 0, 60, [])], []), [(160, 0, 4), (161, 0, 24)], [(some (0, iLo, iHi, []), [], [])])
set_option maxRecDepth 20000 in
theorem vc826 {l : Launch} {X : Nat × (Nat → Int32)} {e : Int} (d : Nat) : Vc l X U0 Pt4 e (d + 3) Kc826 :=
  ck (d := (d + 2)) (Ks := [Kc817, Kc816]) (cy := 152) (cd := cdX7_wetOften) (nl := 5) (fuel := 1000) (Hs := [((10, 0), ([(0, (2, 0, 0, [150])), (1, (0, 1, 0, [])), (2, (0, 2, 0, [])), (3, (0, 3, 0, [])), (4, (0, 4, 0, []))], [], [(0, 0), (0, 19), (0, 60), (iLo, iHi), (1, 61)], []), [(0, 1, 0), (0, 2, 0), (0, 3, 0), (0, 4, 0)], (122, [(4, (-2))]), [])]) (by decide) rfl (fun na b => by rw [← ceX7_wetOften]; exact tkX7_wetOften) (List.forall_mem_cons.mpr ⟨vc817 d, List.forall_mem_cons.mpr ⟨vc816 (d + 1), fun _ h => absurd h List.not_mem_nil⟩⟩) (cpyX (d + 2)) (by decide +kernel)
def Kc827 : Con := ((214, [(2, 0, 0, [150]), (0, iLo, iHi, []), (0, iLo, iHi, [])], []), [(150, 0, 0), (150, 11, 11), (160, 0, 4), (161, 0, 24)], [(some (0, (-1), (-1), []), [], []), (some (0, iLo, iHi, []), [(1, 0, 19), (2, 0, 60)], [])])
set_option maxRecDepth 20000 in
theorem vc827 {l : Launch} {X : Nat × (Nat → Int32)} {e : Int} (d : Nat) : Vc l X U0 Pt4 e (d + 4) Kc827 :=
  ck (d := (d + 3)) (Ks := [Kc784, Kc797, Kc810, Kc787, Kc813, Kc826]) (cy := 152) (cd := cdX7_wetDays) (nl := 4) (fuel := 1000) (Hs := []) (by decide) rfl (fun na b => by rw [← ceX7_wetDays]; exact tkX7_wetDays) (List.forall_mem_cons.mpr ⟨vc784 (d + 3), List.forall_mem_cons.mpr ⟨vc797 (d + 2), List.forall_mem_cons.mpr ⟨vc810 (d + 2), List.forall_mem_cons.mpr ⟨vc787 (d + 3), List.forall_mem_cons.mpr ⟨vc813 (d + 2), List.forall_mem_cons.mpr ⟨vc826 d, fun _ h => absurd h List.not_mem_nil⟩⟩⟩⟩⟩⟩) (cpyX (d + 3)) (by decide +kernel)
def Kc828 : Con := ((213, [(2, 0, 0, [150]), (0, 0, 0, []), (0, 60, 60, [])], []), [(160, 0, 4), (161, 0, 24)], [(some (0, iLo, iHi, []), [], [])])
set_option maxRecDepth 20000 in
theorem vc828 {l : Launch} {X : Nat × (Nat → Int32)} {e : Int} (d : Nat) : Vc l X U0 Pt4 e (d + 3) Kc828 :=
  ck (d := (d + 2)) (Ks := [Kc817, Kc816]) (cy := 152) (cd := cdX7_wetOften) (nl := 5) (fuel := 1000) (Hs := [((10, 0), ([(0, (2, 0, 0, [150])), (1, (0, 1, 0, [])), (2, (0, 2, 0, [])), (3, (0, 3, 0, [])), (4, (0, 4, 0, []))], [], [(0, 0), (0, 0), (60, 60), (iLo, iHi), (1, 61)], []), [(0, 1, 0), (0, 2, 0), (0, 3, 0), (0, 4, 0)], (122, [(4, (-2))]), [])]) (by decide) rfl (fun na b => by rw [← ceX7_wetOften]; exact tkX7_wetOften) (List.forall_mem_cons.mpr ⟨vc817 d, List.forall_mem_cons.mpr ⟨vc816 (d + 1), fun _ h => absurd h List.not_mem_nil⟩⟩) (cpyX (d + 2)) (by decide +kernel)
def Kc829 : Con := ((213, [(2, 0, 0, [150]), (0, 1, 19, []), (0, 60, 60, [])], []), [(160, 0, 4), (161, 0, 24)], [(some (0, iLo, iHi, []), [], [])])
set_option maxRecDepth 20000 in
theorem vc829 {l : Launch} {X : Nat × (Nat → Int32)} {e : Int} (d : Nat) : Vc l X U0 Pt4 e (d + 3) Kc829 :=
  ck (d := (d + 2)) (Ks := [Kc817, Kc816]) (cy := 152) (cd := cdX7_wetOften) (nl := 5) (fuel := 1000) (Hs := [((10, 0), ([(0, (2, 0, 0, [150])), (1, (0, 1, 0, [])), (2, (0, 2, 0, [])), (3, (0, 3, 0, [])), (4, (0, 4, 0, []))], [], [(0, 0), (1, 19), (60, 60), (iLo, iHi), (1, 61)], []), [(0, 1, 0), (0, 2, 0), (0, 3, 0), (0, 4, 0)], (122, [(4, (-2))]), [])]) (by decide) rfl (fun na b => by rw [← ceX7_wetOften]; exact tkX7_wetOften) (List.forall_mem_cons.mpr ⟨vc817 d, List.forall_mem_cons.mpr ⟨vc816 (d + 1), fun _ h => absurd h List.not_mem_nil⟩⟩) (cpyX (d + 2)) (by decide +kernel)
def Kc830 : Con := ((215, [(2, 0, 0, [150])], []), [(150, 0, 0), (150, 11, 11), (160, 0, 4), (161, 0, 24)], [(some (0, 0, 19, []), [], [])])
set_option maxRecDepth 20000 in
theorem vc830 {l : Launch} {X : Nat × (Nat → Int32)} {e : Int} (d : Nat) : Vc l X U0 Pt4 e (d + 4) Kc830 :=
  ck (d := (d + 3)) (Ks := [Kc784, Kc828, Kc795, Kc829]) (cy := 152) (cd := cdX7_wettest) (nl := 5) (fuel := 1000) (Hs := [((29, 0), ([(0, (2, 0, 0, [150])), (1, (0, 1, 0, [])), (2, (0, 2, 0, [])), (3, (0, 3, 0, []))], [], [(0, 0), (0, 19), (iLo, iHi), (1, 20)], []), [(0, 1, 0), (0, 2, 0), (0, 3, 0)], (40, [(3, (-2))]), [])]) (by decide) rfl (fun na b => by rw [← ceX7_wettest]; exact tkX7_wettest) (List.forall_mem_cons.mpr ⟨vc784 (d + 3), List.forall_mem_cons.mpr ⟨vc828 d, List.forall_mem_cons.mpr ⟨vc795 (d + 3), List.forall_mem_cons.mpr ⟨vc829 d, fun _ h => absurd h List.not_mem_nil⟩⟩⟩⟩) (cpyX (d + 3)) (by decide +kernel)
def Kc831 : Con := ((216, [(2, 0, 0, [150])], []), [(150, 0, 0), (150, 11, 11), (160, 0, 4), (161, 0, 24)], [(some (0, (-2), (-2), []), [], []), (some (0, 1, 60, []), [], [])])
set_option maxRecDepth 20000 in
theorem vc831 {l : Launch} {X : Nat × (Nat → Int32)} {e : Int} (d : Nat) : Vc l X U0 Pt4 e (d + 3) Kc831 :=
  ck (d := (d + 2)) (Ks := [Kc784, Kc817, Kc816]) (cy := 152) (cd := cdX7_sunny) (nl := 2) (fuel := 1000) (Hs := [((24, 0), ([(0, (2, 0, 0, [150])), (1, (0, 1, 0, []))], [], [(0, 0), (1, 61)], []), [(0, 1, 0)], (122, [(1, (-2))]), [])]) (by decide) rfl (fun na b => by rw [← ceX7_sunny]; exact tkX7_sunny) (List.forall_mem_cons.mpr ⟨vc784 (d + 2), List.forall_mem_cons.mpr ⟨vc817 d, List.forall_mem_cons.mpr ⟨vc816 (d + 1), fun _ h => absurd h List.not_mem_nil⟩⟩⟩) (cpyX (d + 2)) (by decide +kernel)
def Kc832 : Con := ((217, [(2, 0, 0, [150])], []), [(150, 0, 0), (150, 11, 11), (160, 0, 4), (161, 0, 24)], [(some (0, iLo, iHi, []), [], [])])
set_option maxRecDepth 20000 in
theorem vc832 {l : Launch} {X : Nat × (Nat → Int32)} {e : Int} (d : Nat) : Vc l X U0 Pt4 e (d + 3) Kc832 :=
  ck (d := (d + 2)) (Ks := [Kc784, Kc817, Kc816]) (cy := 152) (cd := cdX7_heaviest) (nl := 4) (fuel := 1000) (Hs := [((26, 0), ([(0, (2, 0, 0, [150])), (1, (0, 1, 0, [])), (2, (0, 2, 0, []))], [], [(0, 0), (iLo, iHi), (1, 61)], []), [(0, 1, 0), (0, 2, 0)], (1486, [(2, (-24))]), []), ((43, 0), ([(0, (2, 0, 0, [150])), (1, (0, 1, 0, [])), (2, (0, 2, 0, [])), (3, (0, 3, 0, []))], [], [(0, 0), (iLo, iHi), (1, 60), (0, 6)], []), [(0, 1, 0), (0, 2, 0), (0, 3, 0)], (1482, [(2, (-24)), (3, (-3))]), [])]) (by decide) rfl (fun na b => by rw [← ceX7_heaviest]; exact tkX7_heaviest) (List.forall_mem_cons.mpr ⟨vc784 (d + 2), List.forall_mem_cons.mpr ⟨vc817 d, List.forall_mem_cons.mpr ⟨vc816 (d + 1), fun _ h => absurd h List.not_mem_nil⟩⟩⟩) (cpyX (d + 2)) (by decide +kernel)
def Kc833 : Con := ((196, [(2, 0, 0, [150]), (2, 0, 0, [161])], []), [], [(some (0, iLo, iHi, []), [], [])])
set_option maxRecDepth 20000 in
theorem vc833 {l : Launch} {X : Nat × (Nat → Int32)} {e : Int} (d : Nat) : Vc l X U0 Pt4 e d Kc833 :=
  ck (d := d) (Ks := []) (cy := 152) (cd := cdX7_fallenOn) (nl := 4) (fuel := 1000) (Hs := [((4, 0), ([(0, (2, 0, 0, [150])), (1, (2, 0, 0, [161])), (2, (0, 1, 0, [])), (3, (0, 2, 0, []))], [], [(0, 0), (iLo, iHi), (0, 6)], []), [(0, 2, 0), (0, 3, 0)], (12, [(2, (-2))]), [])]) (by decide) rfl (fun na b => by rw [← ceX7_fallenOn]; exact tkX7_fallenOn) (fun _ h => absurd h List.not_mem_nil) (cpyX d) (by decide +kernel)
def Kc834 : Con := ((218, [(2, 0, 0, [150]), (0, iLo, iHi, [])], []), [(150, 0, 0), (150, 11, 11), (160, 0, 4), (161, 0, 24)], [(some (0, (-1), (-1), []), [], []), (some (0, iLo, iHi, []), [(1, 0, 60)], [])])
set_option maxRecDepth 20000 in
theorem vc834 {l : Launch} {X : Nat × (Nat → Int32)} {e : Int} (d : Nat) : Vc l X U0 Pt4 e (d + 3) Kc834 :=
  ck (d := (d + 2)) (Ks := [Kc784, Kc813, Kc787, Kc817, Kc833]) (cy := 152) (cd := cdX7_fallen) (nl := 3) (fuel := 1000) (Hs := []) (by decide) rfl (fun na b => by rw [← ceX7_fallen]; exact tkX7_fallen) (List.forall_mem_cons.mpr ⟨vc784 (d + 2), List.forall_mem_cons.mpr ⟨vc813 (d + 1), List.forall_mem_cons.mpr ⟨vc787 (d + 2), List.forall_mem_cons.mpr ⟨vc817 d, List.forall_mem_cons.mpr ⟨vc833 (d + 2), fun _ h => absurd h List.not_mem_nil⟩⟩⟩⟩⟩) (cpyX (d + 2)) (by decide +kernel)
def Kc835 : Con := ((149, [(0, iLo, iHi, []), (0, 1, 1, []), (0, 30, 30, [])], []), [], [(some (0, 0, 0, []), [], []), (some (0, 1, 1, []), [(0, 1, 30)], [])])
set_option maxRecDepth 20000 in
theorem vc835 {l : Launch} {X : Nat × (Nat → Int32)} {e : Int} (d : Nat) : Vc l X U0 Pt4 e d Kc835 :=
  ck (d := d) (Ks := []) (cy := 152) (cd := cdX7_in) (nl := 3) (fuel := 1000) (Hs := []) (by decide) rfl (fun na b => by rw [← ceX7_in]; exact tkX7_in) (fun _ h => absurd h List.not_mem_nil) (cpyX d) (by decide +kernel)
def Kc836 : Con := ((222, [(2, 0, 0, [150]), (0, 0, 0, []), (0, iLo, iHi, [])], []), [], [(some (0, 1, 1, []), [], [])])
set_option maxRecDepth 20000 in
theorem vc836 {l : Launch} {X : Nat × (Nat → Int32)} {e : Int} (d : Nat) : Vc l X U0 Pt4 e (d + 1) Kc836 :=
  ck (d := d) (Ks := [Kc835, Kc808, Kc809]) (cy := 152) (cd := cdX7_planWhy) (nl := 3) (fuel := 1000) (Hs := []) (by decide) rfl (fun na b => by rw [← ceX7_planWhy]; exact tkX7_planWhy) (List.forall_mem_cons.mpr ⟨vc835 d, List.forall_mem_cons.mpr ⟨vc808 d, List.forall_mem_cons.mpr ⟨vc809 d, fun _ h => absurd h List.not_mem_nil⟩⟩⟩) (cpyX d) (by decide +kernel)
def Kc837 : Con := ((222, [(2, 0, 0, [150]), (0, 1, 1, []), (0, iLo, iHi, [])], []), [], [(some (0, 2, 2, []), [], []), (some (0, 0, 0, []), [(2, 1, 30)], [])])
set_option maxRecDepth 20000 in
theorem vc837 {l : Launch} {X : Nat × (Nat → Int32)} {e : Int} (d : Nat) : Vc l X U0 Pt4 e (d + 1) Kc837 :=
  ck (d := d) (Ks := [Kc835, Kc811, Kc812]) (cy := 152) (cd := cdX7_planWhy) (nl := 3) (fuel := 1000) (Hs := []) (by decide) rfl (fun na b => by rw [← ceX7_planWhy]; exact tkX7_planWhy) (List.forall_mem_cons.mpr ⟨vc835 d, List.forall_mem_cons.mpr ⟨vc811 d, List.forall_mem_cons.mpr ⟨vc812 d, fun _ h => absurd h List.not_mem_nil⟩⟩⟩) (cpyX d) (by decide +kernel)
def Kc838 : Con := ((221, [(2, 0, 0, [150]), (0, 0, 3, []), (0, 0, 5, [])], []), [], [(some (0, 0, 0, []), [], []), (some (0, 1, 1, []), [], [])])
set_option maxRecDepth 20000 in
theorem vc838 {l : Launch} {X : Nat × (Nat → Int32)} {e : Int} (d : Nat) : Vc l X U0 Pt4 e (d + 1) Kc838 :=
  ck (d := d) (Ks := [Kc789]) (cy := 152) (cd := cdX7_mayHave) (nl := 3) (fuel := 1000) (Hs := []) (by decide) rfl (fun na b => by rw [← ceX7_mayHave]; exact tkX7_mayHave) (List.forall_mem_cons.mpr ⟨vc789 d, fun _ h => absurd h List.not_mem_nil⟩) (cpyX d) (by decide +kernel)
def Kc839 : Con := ((219, [(2, 0, 0, [150])], []), [(162, 0, 3)], [(none, [], [])])
set_option maxRecDepth 20000 in
theorem vc839 {l : Launch} {X : Nat × (Nat → Int32)} {e : Int} (d : Nat) : Vc l X U0 Pt4 e d Kc839 :=
  ck (d := d) (Ks := []) (cy := 152) (cd := cdX7_planAsNow) (nl := 2) (fuel := 1000) (Hs := [((2, 0), ([(0, (2, 0, 0, [150])), (1, (0, 1, 0, []))], [], [(0, 0), (0, 4)], []), [(0, 1, 0)], (8, [(1, (-2))]), [])]) (by decide) rfl (fun na b => by rw [← ceX7_planAsNow]; exact tkX7_planAsNow) (fun _ h => absurd h List.not_mem_nil) (cpyX d) (by decide +kernel)
def Kc840 : Con := ((151, [(0, iLo, iHi, [])], []), [], [(some (0, iLo, iHi, []), [], [])])
set_option maxRecDepth 20000 in
theorem vc840 {l : Launch} {X : Nat × (Nat → Int32)} {e : Int} (d : Nat) : Vc l X U0 Pt4 e d Kc840 :=
  ck (d := d) (Ks := []) (cy := 152) (cd := cdX7_ones) (nl := 3) (fuel := 1000) (Hs := [((4, 0), ([(0, (0, 1, 0, [])), (1, (0, 2, 0, [])), (2, (0, 3, 0, []))], [], [(0, 0), (iLo, iHi), (iLo, iHi), (0, 8)], []), [(0, 0, 0), (0, 1, 0), (0, 2, 0)], (16, [(3, (-2))]), [])]) (by decide) rfl (fun na b => by rw [← ceX7_ones]; exact tkX7_ones) (fun _ h => absurd h List.not_mem_nil) (cpyX d) (by decide +kernel)
def Kc841 : Con := ((196, [(2, 0, 0, [150]), (2, 0, 0, [157])], []), [], [(some (0, iLo, iHi, []), [], [])])
set_option maxRecDepth 20000 in
theorem vc841 {l : Launch} {X : Nat × (Nat → Int32)} {e : Int} (d : Nat) : Vc l X U0 Pt4 e d Kc841 :=
  ck (d := d) (Ks := []) (cy := 152) (cd := cdX7_fallenOn) (nl := 4) (fuel := 1000) (Hs := [((4, 0), ([(0, (2, 0, 0, [150])), (1, (2, 0, 0, [157])), (2, (0, 1, 0, [])), (3, (0, 2, 0, []))], [], [(0, 0), (iLo, iHi), (0, 6)], []), [(0, 2, 0), (0, 3, 0)], (12, [(2, (-2))]), [])]) (by decide) rfl (fun na b => by rw [← ceX7_fallenOn]; exact tkX7_fallenOn) (fun _ h => absurd h List.not_mem_nil) (cpyX d) (by decide +kernel)
def Kc842 : Con := ((195, [(2, 0, 0, [150]), (2, 0, 0, [161])], []), [], [(some (0, iLo, iHi, []), [], [])])
set_option maxRecDepth 20000 in
theorem vc842 {l : Launch} {X : Nat × (Nat → Int32)} {e : Int} (d : Nat) : Vc l X U0 Pt4 e d Kc842 :=
  ck (d := d) (Ks := []) (cy := 152) (cd := cdX7_letsOf) (nl := 4) (fuel := 1000) (Hs := [((4, 0), ([(0, (2, 0, 0, [150])), (1, (2, 0, 0, [161])), (2, (0, 1, 0, [])), (3, (0, 2, 0, []))], [], [(0, 0), (iLo, iHi), (0, 6)], []), [(0, 2, 0), (0, 3, 0)], (12, [(2, (-2))]), [])]) (by decide) rfl (fun na b => by rw [← ceX7_letsOf]; exact tkX7_letsOf) (fun _ h => absurd h List.not_mem_nil) (cpyX d) (by decide +kernel)
def Kc843 : Con := ((195, [(2, 0, 0, [150]), (2, 0, 0, [157])], []), [], [(some (0, iLo, iHi, []), [], [])])
set_option maxRecDepth 20000 in
theorem vc843 {l : Launch} {X : Nat × (Nat → Int32)} {e : Int} (d : Nat) : Vc l X U0 Pt4 e d Kc843 :=
  ck (d := d) (Ks := []) (cy := 152) (cd := cdX7_letsOf) (nl := 4) (fuel := 1000) (Hs := [((4, 0), ([(0, (2, 0, 0, [150])), (1, (2, 0, 0, [157])), (2, (0, 1, 0, [])), (3, (0, 2, 0, []))], [], [(0, 0), (iLo, iHi), (0, 6)], []), [(0, 2, 0), (0, 3, 0)], (12, [(2, (-2))]), [])]) (by decide) rfl (fun na b => by rw [← ceX7_letsOf]; exact tkX7_letsOf) (fun _ h => absurd h List.not_mem_nil) (cpyX d) (by decide +kernel)
def Kc844 : Con := ((220, [(2, 0, 0, [150]), (0, iLo, iHi, [])], []), [(150, 29, 30), (160, 0, 4), (161, 0, 24)], [(none, [], [])])
set_option maxRecDepth 20000 in
theorem vc844 {l : Launch} {X : Nat × (Nat → Int32)} {e : Int} (d : Nat) : Vc l X U0 Pt4 e (d + 2) Kc844 :=
  ck (d := (d + 1)) (Ks := [Kc814, Kc833, Kc840, Kc841, Kc842, Kc843, Kc816]) (cy := 152) (cd := cdX7_goByPlan) (nl := 3) (fuel := 1000) (Hs := [((22, 0), ([(0, (2, 0, 0, [150])), (1, (0, 1, 0, [])), (2, (0, 2, 0, []))], [], [(0, 0), (iLo, iHi), (0, 4)], []), [(0, 1, 0), (0, 2, 0)], (6442450957, [(2, (-3))]), []), ((55, 0), ([(0, (2, 0, 0, [150])), (1, (0, 1, 0, [])), (2, (0, 2, 0, []))], [], [(0, 0), (iLo, iHi), (0, iHi)], []), [(0, 1, 0), (0, 2, 0)], (6442450941, [(2, (-3))]), [])]) (by decide) rfl (fun na b => by rw [← ceX7_goByPlan]; exact tkX7_goByPlan) (List.forall_mem_cons.mpr ⟨vc814 d, List.forall_mem_cons.mpr ⟨vc833 (d + 1), List.forall_mem_cons.mpr ⟨vc840 (d + 1), List.forall_mem_cons.mpr ⟨vc841 (d + 1), List.forall_mem_cons.mpr ⟨vc842 (d + 1), List.forall_mem_cons.mpr ⟨vc843 (d + 1), List.forall_mem_cons.mpr ⟨vc816 d, fun _ h => absurd h List.not_mem_nil⟩⟩⟩⟩⟩⟩⟩) (cpyX (d + 1)) (by decide +kernel)
def Kc845 : Con := ((223, [(2, 0, 0, [150]), (0, iLo, iHi, []), (0, iLo, iHi, []), (0, iLo, iHi, [])], []), [(150, 0, 0), (150, 11, 11), (150, 29, 30), (160, 0, 4), (161, 0, 24), (162, 0, 3)], [(some (0, (-1), (-1), []), [], []), (some (0, iLo, iHi, []), [(1, 0, 3), (2, 0, 5), (3, 1, 30)], [])])
set_option maxRecDepth 20000 in
theorem vc845 {l : Launch} {X : Nat × (Nat → Int32)} {e : Int} (d : Nat) : Vc l X U0 Pt4 e (d + 3) Kc845 :=
  ck (d := (d + 2)) (Ks := [Kc784, Kc792, Kc836, Kc787, Kc786, Kc837, Kc838, Kc839, Kc844]) (cy := 152) (cd := cdX7_dropsIf) (nl := 5) (fuel := 1000) (Hs := []) (by decide) rfl (fun na b => by rw [← ceX7_dropsIf]; exact tkX7_dropsIf) (List.forall_mem_cons.mpr ⟨vc784 (d + 2), List.forall_mem_cons.mpr ⟨vc792 (d + 1), List.forall_mem_cons.mpr ⟨vc836 (d + 1), List.forall_mem_cons.mpr ⟨vc787 (d + 2), List.forall_mem_cons.mpr ⟨vc786 (d + 1), List.forall_mem_cons.mpr ⟨vc837 (d + 1), List.forall_mem_cons.mpr ⟨vc838 (d + 1), List.forall_mem_cons.mpr ⟨vc839 (d + 2), List.forall_mem_cons.mpr ⟨vc844 d, fun _ h => absurd h List.not_mem_nil⟩⟩⟩⟩⟩⟩⟩⟩⟩) (cpyX (d + 2)) (by decide +kernel)
def Kc846 : Con := ((224, [(2, 0, 0, [150]), (0, iLo, iHi, [])], []), [(150, 29, 32), (160, 0, 4), (161, 0, 24), (163, 0, 4)], [(some (0, 1, 1, []), [], []), (some (0, 0, 0, []), [], [])])
set_option maxRecDepth 20000 in
theorem vc846 {l : Launch} {X : Nat × (Nat → Int32)} {e : Int} (d : Nat) : Vc l X U0 Pt4 e (d + 3) Kc846 :=
  ck (d := (d + 2)) (Ks := [Kc844]) (cy := 152) (cd := cdX7_isBest) (nl := 2) (fuel := 1000) (Hs := []) (by decide) rfl (fun na b => by rw [← ceX7_isBest]; exact tkX7_isBest) (List.forall_mem_cons.mpr ⟨vc844 d, fun _ h => absurd h List.not_mem_nil⟩) (cpyX (d + 2)) (by decide +kernel)
def Kc847 : Con := ((225, [(2, 0, 0, [150]), (0, iLo, iHi, []), (0, iLo, iHi, [])], []), [(150, 0, 0), (150, 11, 11), (150, 29, 32), (160, 0, 4), (161, 0, 24), (162, 0, 3), (163, 0, 4)], [(some (0, (-1), (-1), []), [], []), (some (0, (-2), 5, []), [], [])])
set_option maxRecDepth 20000 in
theorem vc847 {l : Launch} {X : Nat × (Nat → Int32)} {e : Int} (d : Nat) : Vc l X U0 Pt4 e (d + 4) Kc847 :=
  ck (d := (d + 3)) (Ks := [Kc784, Kc792, Kc836, Kc787, Kc837, Kc839, Kc838, Kc846]) (cy := 152) (cd := cdX7_faceFor) (nl := 6) (fuel := 1000) (Hs := [((42, 0), ([(0, (2, 0, 0, [150])), (1, (0, 1, 0, [])), (2, (0, 2, 0, [])), (4, (0, 3, 0, [])), (5, (0, 4, 0, []))], [], [(0, 0), (0, 3), (1, 30), ((-2), 5), (0, 6)], []), [(0, 1, 0), (0, 2, 0), (0, 4, 0), (0, 5, 0)], (12, [(4, (-2))]), [])]) (by decide) rfl (fun na b => by rw [← ceX7_faceFor]; exact tkX7_faceFor) (List.forall_mem_cons.mpr ⟨vc784 (d + 3), List.forall_mem_cons.mpr ⟨vc792 (d + 2), List.forall_mem_cons.mpr ⟨vc836 (d + 2), List.forall_mem_cons.mpr ⟨vc787 (d + 3), List.forall_mem_cons.mpr ⟨vc837 (d + 2), List.forall_mem_cons.mpr ⟨vc839 (d + 3), List.forall_mem_cons.mpr ⟨vc838 (d + 2), List.forall_mem_cons.mpr ⟨vc846 d, fun _ h => absurd h List.not_mem_nil⟩⟩⟩⟩⟩⟩⟩⟩) (cpyX (d + 3)) (by decide +kernel)
def Kc848 : Con := ((226, [(2, 0, 0, [150]), (0, 4, 4, []), (0, iLo, iHi, []), (0, iLo, iHi, [])], []), [(150, 29, 32), (160, 0, 4), (161, 0, 24), (163, 0, 4)], [(none, [], [])])
set_option maxRecDepth 20000 in
theorem vc848 {l : Launch} {X : Nat × (Nat → Int32)} {e : Int} (d : Nat) : Vc l X U0 Pt4 e (d + 4) Kc848 :=
  ck (d := (d + 3)) (Ks := [Kc846]) (cy := 152) (cd := cdX7_tryPlans) (nl := 5) (fuel := 1000) (Hs := []) (by decide) rfl (fun na b => by rw [← ceX7_tryPlans]; exact tkX7_tryPlans) (List.forall_mem_cons.mpr ⟨vc846 d, fun _ h => absurd h List.not_mem_nil⟩) (cpyX (d + 3)) (by decide +kernel)
def Kc849 : Con := ((226, [(2, 0, 0, [150]), (0, 3, 3, []), (0, iLo, iHi, []), (0, iLo, iHi, [])], []), [(150, 29, 32), (160, 0, 4), (161, 0, 24), (162, 3, 3), (163, 0, 4)], [(none, [], [])])
set_option maxRecDepth 20000 in
theorem vc849 {l : Launch} {X : Nat × (Nat → Int32)} {e : Int} (d : Nat) : Vc l X U0 Pt4 e (d + 5) Kc849 :=
  ck (d := (d + 4)) (Ks := [Kc801, Kc848]) (cy := 152) (cd := cdX7_tryPlans) (nl := 5) (fuel := 1000) (Hs := [((20, 0), ([(0, (2, 0, 0, [150])), (1, (0, 1, 0, [])), (2, (0, 2, 0, [])), (3, (0, 3, 0, [])), (4, (0, 4, 0, []))], [], [(0, 0), (3, 3), (iLo, iHi), (iLo, iHi), (0, 6)], []), [(0, 1, 0), (0, 2, 0), (0, 3, 0), (0, 4, 0)], (12, [(4, (-2))]), [])]) (by decide) rfl (fun na b => by rw [← ceX7_tryPlans]; exact tkX7_tryPlans) (List.forall_mem_cons.mpr ⟨vc801 (d + 4), List.forall_mem_cons.mpr ⟨vc848 d, fun _ h => absurd h List.not_mem_nil⟩⟩) (cpyX (d + 4)) (by decide +kernel)
def Kc850 : Con := ((226, [(2, 0, 0, [150]), (0, 2, 2, []), (0, iLo, iHi, []), (0, iLo, iHi, [])], []), [(150, 29, 32), (160, 0, 4), (161, 0, 24), (162, 2, 3), (163, 0, 4)], [(none, [], [])])
set_option maxRecDepth 20000 in
theorem vc850 {l : Launch} {X : Nat × (Nat → Int32)} {e : Int} (d : Nat) : Vc l X U0 Pt4 e (d + 6) Kc850 :=
  ck (d := (d + 5)) (Ks := [Kc801, Kc849]) (cy := 152) (cd := cdX7_tryPlans) (nl := 5) (fuel := 1000) (Hs := [((20, 0), ([(0, (2, 0, 0, [150])), (1, (0, 1, 0, [])), (2, (0, 2, 0, [])), (3, (0, 3, 0, [])), (4, (0, 4, 0, []))], [], [(0, 0), (2, 2), (iLo, iHi), (iLo, iHi), (0, 6)], []), [(0, 1, 0), (0, 2, 0), (0, 3, 0), (0, 4, 0)], (12, [(4, (-2))]), [])]) (by decide) rfl (fun na b => by rw [← ceX7_tryPlans]; exact tkX7_tryPlans) (List.forall_mem_cons.mpr ⟨vc801 (d + 5), List.forall_mem_cons.mpr ⟨vc849 d, fun _ h => absurd h List.not_mem_nil⟩⟩) (cpyX (d + 5)) (by decide +kernel)
def Kc851 : Con := ((226, [(2, 0, 0, [150]), (0, 1, 1, []), (0, iLo, iHi, []), (0, iLo, iHi, [])], []), [(150, 29, 32), (160, 0, 4), (161, 0, 24), (162, 1, 3), (163, 0, 4)], [(none, [], [])])
set_option maxRecDepth 20000 in
theorem vc851 {l : Launch} {X : Nat × (Nat → Int32)} {e : Int} (d : Nat) : Vc l X U0 Pt4 e (d + 7) Kc851 :=
  ck (d := (d + 6)) (Ks := [Kc801, Kc850]) (cy := 152) (cd := cdX7_tryPlans) (nl := 5) (fuel := 1000) (Hs := [((20, 0), ([(0, (2, 0, 0, [150])), (1, (0, 1, 0, [])), (2, (0, 2, 0, [])), (3, (0, 3, 0, [])), (4, (0, 4, 0, []))], [], [(0, 0), (1, 1), (iLo, iHi), (iLo, iHi), (0, 6)], []), [(0, 1, 0), (0, 2, 0), (0, 3, 0), (0, 4, 0)], (12, [(4, (-2))]), [])]) (by decide) rfl (fun na b => by rw [← ceX7_tryPlans]; exact tkX7_tryPlans) (List.forall_mem_cons.mpr ⟨vc801 (d + 6), List.forall_mem_cons.mpr ⟨vc850 d, fun _ h => absurd h List.not_mem_nil⟩⟩) (cpyX (d + 6)) (by decide +kernel)
def Kc852 : Con := ((226, [(2, 0, 0, [150]), (0, 0, 0, []), (0, iLo, iHi, []), (0, iLo, iHi, [])], []), [(150, 29, 32), (160, 0, 4), (161, 0, 24), (162, 0, 3), (163, 0, 4)], [(none, [], [])])
set_option maxRecDepth 20000 in
theorem vc852 {l : Launch} {X : Nat × (Nat → Int32)} {e : Int} (d : Nat) : Vc l X U0 Pt4 e (d + 8) Kc852 :=
  ck (d := (d + 7)) (Ks := [Kc801, Kc851]) (cy := 152) (cd := cdX7_tryPlans) (nl := 5) (fuel := 1000) (Hs := [((20, 0), ([(0, (2, 0, 0, [150])), (1, (0, 1, 0, [])), (2, (0, 2, 0, [])), (3, (0, 3, 0, [])), (4, (0, 4, 0, []))], [], [(0, 0), (0, 0), (iLo, iHi), (iLo, iHi), (0, 6)], []), [(0, 1, 0), (0, 2, 0), (0, 3, 0), (0, 4, 0)], (12, [(4, (-2))]), [])]) (by decide) rfl (fun na b => by rw [← ceX7_tryPlans]; exact tkX7_tryPlans) (List.forall_mem_cons.mpr ⟨vc801 (d + 7), List.forall_mem_cons.mpr ⟨vc851 d, fun _ h => absurd h List.not_mem_nil⟩⟩) (cpyX (d + 7)) (by decide +kernel)
def Kc853 : Con := ((227, [(2, 0, 0, [150]), (0, iLo, iHi, [])], []), [(150, 29, 32), (160, 0, 4), (161, 0, 24), (162, 0, 3), (163, 0, 4)], [(none, [], [])])
set_option maxRecDepth 20000 in
theorem vc853 {l : Launch} {X : Nat × (Nat → Int32)} {e : Int} (d : Nat) : Vc l X U0 Pt4 e (d + 9) Kc853 :=
  ck (d := (d + 8)) (Ks := [Kc852]) (cy := 152) (cd := cdX7_seekMatch) (nl := 2) (fuel := 1000) (Hs := []) (by decide) rfl (fun na b => by rw [← ceX7_seekMatch]; exact tkX7_seekMatch) (List.forall_mem_cons.mpr ⟨vc852 d, fun _ h => absurd h List.not_mem_nil⟩) (cpyX (d + 8)) (by decide +kernel)
def Kc854 : Con := ((228, [(2, 0, 0, [150]), (0, iLo, iHi, [])], []), [(150, 0, 0), (150, 11, 11), (150, 29, 32), (160, 0, 4), (161, 0, 24), (162, 0, 3), (163, 0, 4)], [(some (0, (-1), (-1), []), [], []), (some (0, iLo, iHi, []), [(1, 1, 30)], [])])
set_option maxRecDepth 20000 in
theorem vc854 {l : Launch} {X : Nat × (Nat → Int32)} {e : Int} (d : Nat) : Vc l X U0 Pt4 e (d + 10) Kc854 :=
  ck (d := (d + 9)) (Ks := [Kc784, Kc837, Kc787, Kc853]) (cy := 152) (cd := cdX7_match) (nl := 3) (fuel := 1000) (Hs := []) (by decide) rfl (fun na b => by rw [← ceX7_match]; exact tkX7_match) (List.forall_mem_cons.mpr ⟨vc784 (d + 9), List.forall_mem_cons.mpr ⟨vc837 (d + 8), List.forall_mem_cons.mpr ⟨vc787 (d + 9), List.forall_mem_cons.mpr ⟨vc853 d, fun _ h => absurd h List.not_mem_nil⟩⟩⟩⟩) (cpyX (d + 9)) (by decide +kernel)
def Kc855 : Con := ((229, [(2, 0, 0, [150]), (0, iLo, iHi, [])], []), [(150, 0, 0), (150, 11, 11), (150, 29, 32), (160, 0, 4), (161, 0, 24), (162, 0, 3), (163, 0, 4)], [(some (0, (-1), (-1), []), [], []), (some (0, iLo, iHi, []), [(1, 1, 30)], [])])
set_option maxRecDepth 20000 in
theorem vc855 {l : Launch} {X : Nat × (Nat → Int32)} {e : Int} (d : Nat) : Vc l X U0 Pt4 e (d + 10) Kc855 :=
  ck (d := (d + 9)) (Ks := [Kc784, Kc837, Kc787, Kc853]) (cy := 152) (cd := cdX7_matchDrops) (nl := 3) (fuel := 1000) (Hs := []) (by decide) rfl (fun na b => by rw [← ceX7_matchDrops]; exact tkX7_matchDrops) (List.forall_mem_cons.mpr ⟨vc784 (d + 9), List.forall_mem_cons.mpr ⟨vc837 (d + 8), List.forall_mem_cons.mpr ⟨vc787 (d + 9), List.forall_mem_cons.mpr ⟨vc853 d, fun _ h => absurd h List.not_mem_nil⟩⟩⟩⟩) (cpyX (d + 9)) (by decide +kernel)
def Kc856 : Con := ((230, [(2, 0, 0, [150]), (0, iLo, iHi, []), (0, iLo, iHi, [])], []), [(150, 0, 0), (150, 11, 11), (150, 29, 32), (160, 0, 4), (161, 0, 24), (162, 0, 3), (163, 0, 4)], [(some (0, (-1), (-1), []), [], []), (some (0, 0, 5, []), [(1, 0, 3), (2, 1, 30)], [])])
set_option maxRecDepth 20000 in
theorem vc856 {l : Launch} {X : Nat × (Nat → Int32)} {e : Int} (d : Nat) : Vc l X U0 Pt4 e (d + 10) Kc856 :=
  ck (d := (d + 9)) (Ks := [Kc784, Kc792, Kc836, Kc787, Kc837, Kc853]) (cy := 152) (cd := cdX7_matchAt) (nl := 4) (fuel := 1000) (Hs := []) (by decide) rfl (fun na b => by rw [← ceX7_matchAt]; exact tkX7_matchAt) (List.forall_mem_cons.mpr ⟨vc784 (d + 9), List.forall_mem_cons.mpr ⟨vc792 (d + 8), List.forall_mem_cons.mpr ⟨vc836 (d + 8), List.forall_mem_cons.mpr ⟨vc787 (d + 9), List.forall_mem_cons.mpr ⟨vc837 (d + 8), List.forall_mem_cons.mpr ⟨vc853 d, fun _ h => absurd h List.not_mem_nil⟩⟩⟩⟩⟩⟩) (cpyX (d + 9)) (by decide +kernel)
def Kc857 : Con := ((232, [(2, 0, 0, [150]), (0, 0, 19, []), (0, iLo, iHi, [])], []), [(164, 0, 19)], [(none, [], [])])
set_option maxRecDepth 20000 in
theorem vc857 {l : Launch} {X : Nat × (Nat → Int32)} {e : Int} (d : Nat) : Vc l X U0 Pt4 e (d + 4) Kc857 := vh_lay (R := rwt4) rfl rfl rfl d
def Kc858 : Con := ((233, [(2, 0, 0, [150]), (0, 0, 19, []), (0, 0, 19, [])], []), [(164, 0, 19)], [(some (0, iLo, iHi, []), [], []), (some (0, (-2), (-2), []), [], [])])
set_option maxRecDepth 20000 in
theorem vc858 {l : Launch} {X : Nat × (Nat → Int32)} {e : Int} (d : Nat) : Vc l X U0 Pt4 e (d + 5) Kc858 :=
  ck (d := (d + 4)) (Ks := [Kc857]) (cy := 152) (cd := cdX7_stepsOf) (nl := 3) (fuel := 1000) (Hs := []) (by decide) rfl (fun na b => by rw [← ceX7_stepsOf]; exact tkX7_stepsOf) (List.forall_mem_cons.mpr ⟨vc857 d, fun _ h => absurd h List.not_mem_nil⟩) (cpyX (d + 4)) (by decide +kernel)
def Kc859 : Con := ((234, [(2, 0, 0, [150]), (0, iLo, iHi, []), (0, iLo, iHi, [])], []), [(150, 0, 0), (150, 11, 11), (150, 26, 26), (164, 0, 19)], [(some (0, (-1), (-1), []), [], []), (some (0, iLo, iHi, []), [(1, 0, 19), (2, 0, 19)], []), (some (0, (-2), (-2), []), [(1, 0, 19), (2, 0, 19)], [])])
set_option maxRecDepth 20000 in
theorem vc859 {l : Launch} {X : Nat × (Nat → Int32)} {e : Int} (d : Nat) : Vc l X U0 Pt4 e (d + 6) Kc859 :=
  ck (d := (d + 5)) (Ks := [Kc784, Kc797, Kc787, Kc858]) (cy := 152) (cd := cdX7_steps) (nl := 3) (fuel := 1000) (Hs := []) (by decide) rfl (fun na b => by rw [← ceX7_steps]; exact tkX7_steps) (List.forall_mem_cons.mpr ⟨vc784 (d + 5), List.forall_mem_cons.mpr ⟨vc797 (d + 4), List.forall_mem_cons.mpr ⟨vc787 (d + 5), List.forall_mem_cons.mpr ⟨vc858 d, fun _ h => absurd h List.not_mem_nil⟩⟩⟩⟩) (cpyX (d + 5)) (by decide +kernel)
def Kc860 : Con := ((189, [(2, 0, 0, [150]), (0, iLo, iHi, [])], []), [], [(some (0, 0, 0, []), [], []), (some (0, 1, 1, []), [(1, 0, 3)], [])])
set_option maxRecDepth 20000 in
theorem vc860 {l : Launch} {X : Nat × (Nat → Int32)} {e : Int} (d : Nat) : Vc l X U0 Pt4 e (d + 1) Kc860 :=
  ck (d := d) (Ks := [Kc800]) (cy := 152) (cd := cdX7_isWalker) (nl := 2) (fuel := 1000) (Hs := []) (by decide) rfl (fun na b => by rw [← ceX7_isWalker]; exact tkX7_isWalker) (List.forall_mem_cons.mpr ⟨vc800 d, fun _ h => absurd h List.not_mem_nil⟩) (cpyX d) (by decide +kernel)
def Kc861 : Con := ((206, [(2, 0, 0, [150]), (0, 0, 0, []), (0, 1, 1, []), (0, iLo, iHi, [])], []), [], [(some (0, 1, 1, []), [], [])])
set_option maxRecDepth 20000 in
theorem vc861 {l : Launch} {X : Nat × (Nat → Int32)} {e : Int} (d : Nat) : Vc l X U0 Pt4 e (d + 1) Kc861 :=
  ck (d := d) (Ks := [Kc823, Kc808, Kc809]) (cy := 152) (cd := cdX7_aheadWhy) (nl := 4) (fuel := 1000) (Hs := []) (by decide) rfl (fun na b => by rw [← ceX7_aheadWhy]; exact tkX7_aheadWhy) (List.forall_mem_cons.mpr ⟨vc823 d, List.forall_mem_cons.mpr ⟨vc808 d, List.forall_mem_cons.mpr ⟨vc809 d, fun _ h => absurd h List.not_mem_nil⟩⟩⟩) (cpyX d) (by decide +kernel)
def Kc862 : Con := ((235, [(2, 0, 0, [150]), (0, 0, 3, []), (0, 1, 60, [])], []), [(150, 26, 26), (160, 0, 4), (161, 0, 24), (164, 0, 19)], [(some (0, iLo, iHi, []), [], []), (some (0, (-2), (-2), []), [], [])])
set_option maxRecDepth 20000 in
theorem vc862 {l : Launch} {X : Nat × (Nat → Int32)} {e : Int} (d : Nat) : Vc l X U0 Pt4 e (d + 5) Kc862 :=
  ck (d := (d + 4)) (Ks := [Kc817, Kc857]) (cy := 152) (cd := cdX7_wayOf) (nl := 4) (fuel := 1000) (Hs := []) (by decide) rfl (fun na b => by rw [← ceX7_wayOf]; exact tkX7_wayOf) (List.forall_mem_cons.mpr ⟨vc817 (d + 2), List.forall_mem_cons.mpr ⟨vc857 d, fun _ h => absurd h List.not_mem_nil⟩⟩) (cpyX (d + 4)) (by decide +kernel)
def Kc863 : Con := ((236, [(2, 0, 0, [150]), (0, iLo, iHi, []), (0, iLo, iHi, [])], []), [(150, 0, 0), (150, 11, 11), (150, 26, 26), (160, 0, 4), (161, 0, 24), (164, 0, 19)], [(some (0, (-1), (-1), []), [], []), (some (0, 0, iHi, []), [(1, 0, 3), (2, 1, 60)], []), (some (0, (-2), (-2), []), [(1, 0, 3), (2, 1, 60)], [])])
set_option maxRecDepth 20000 in
theorem vc863 {l : Launch} {X : Nat × (Nat → Int32)} {e : Int} (d : Nat) : Vc l X U0 Pt4 e (d + 6) Kc863 :=
  ck (d := (d + 5)) (Ks := [Kc784, Kc860, Kc861, Kc787, Kc824, Kc862]) (cy := 152) (cd := cdX7_wets) (nl := 5) (fuel := 1000) (Hs := []) (by decide) rfl (fun na b => by rw [← ceX7_wets]; exact tkX7_wets) (List.forall_mem_cons.mpr ⟨vc784 (d + 5), List.forall_mem_cons.mpr ⟨vc860 (d + 4), List.forall_mem_cons.mpr ⟨vc861 (d + 4), List.forall_mem_cons.mpr ⟨vc787 (d + 5), List.forall_mem_cons.mpr ⟨vc824 (d + 4), List.forall_mem_cons.mpr ⟨vc862 d, fun _ h => absurd h List.not_mem_nil⟩⟩⟩⟩⟩⟩) (cpyX (d + 5)) (by decide +kernel)
def Kc864 : Con := ((237, [(2, 0, 0, [150]), (0, iLo, iHi, []), (0, iLo, iHi, [])], []), [(150, 0, 0), (150, 11, 11), (150, 26, 26), (160, 0, 4), (161, 0, 24), (164, 0, 19)], [(some (0, (-1), (-1), []), [], []), (some (0, 0, 999, []), [(1, 0, 3), (2, 1, 60)], []), (some (0, (-2), (-2), []), [(1, 0, 3), (2, 1, 60)], [])])
set_option maxRecDepth 20000 in
theorem vc864 {l : Launch} {X : Nat × (Nat → Int32)} {e : Int} (d : Nat) : Vc l X U0 Pt4 e (d + 6) Kc864 :=
  ck (d := (d + 5)) (Ks := [Kc784, Kc860, Kc861, Kc787, Kc824, Kc862]) (cy := 152) (cd := cdX7_way) (nl := 5) (fuel := 1000) (Hs := []) (by decide) rfl (fun na b => by rw [← ceX7_way]; exact tkX7_way) (List.forall_mem_cons.mpr ⟨vc784 (d + 5), List.forall_mem_cons.mpr ⟨vc860 (d + 4), List.forall_mem_cons.mpr ⟨vc861 (d + 4), List.forall_mem_cons.mpr ⟨vc787 (d + 5), List.forall_mem_cons.mpr ⟨vc824 (d + 4), List.forall_mem_cons.mpr ⟨vc862 d, fun _ h => absurd h List.not_mem_nil⟩⟩⟩⟩⟩⟩) (cpyX (d + 5)) (by decide +kernel)
def Kc865 : Con := ((239, [(2, 0, 0, [150]), (0, iLo, iHi, [])], []), [(150, 0, 0), (150, 11, 11), (150, 26, 26), (160, 0, 4), (161, 0, 24), (164, 0, 19)], [(some (0, (-1), (-1), []), [], []), (some (0, (-2), (-2), []), [], []), (some (0, 1, 60, []), [], [])])
set_option maxRecDepth 20000 in
theorem vc865 {l : Launch} {X : Nat × (Nat → Int32)} {e : Int} (d : Nat) : Vc l X U0 Pt4 e (d + 6) Kc865 :=
  ck (d := (d + 5)) (Ks := [Kc784, Kc860, Kc787, Kc862]) (cy := 152) (cd := cdX7_dryDay) (nl := 4) (fuel := 1000) (Hs := [((20, 0), ([(0, (2, 0, 0, [150])), (1, (0, 1, 0, [])), (2, (0, 2, 0, []))], [], [(0, 0), (0, 3), (1, 61)], []), [(0, 1, 0), (0, 2, 0)], (122, [(2, (-2))]), [])]) (by decide) rfl (fun na b => by rw [← ceX7_dryDay]; exact tkX7_dryDay) (List.forall_mem_cons.mpr ⟨vc784 (d + 5), List.forall_mem_cons.mpr ⟨vc860 (d + 4), List.forall_mem_cons.mpr ⟨vc787 (d + 5), List.forall_mem_cons.mpr ⟨vc862 d, fun _ h => absurd h List.not_mem_nil⟩⟩⟩⟩) (cpyX (d + 5)) (by decide +kernel)
def Kc866 : Con := ((240, [(2, 0, 0, [150])], []), [(164, 0, 19)], [(some (0, iLo, iHi, []), [], [])])
set_option maxRecDepth 20000 in
theorem vc866 {l : Launch} {X : Nat × (Nat → Int32)} {e : Int} (d : Nat) : Vc l X U0 Pt4 e (d + 6) Kc866 :=
  ck (d := (d + 5)) (Ks := [Kc858]) (cy := 152) (cd := cdX7_allSteps) (nl := 4) (fuel := 1000) (Hs := [((4, 0), ([(0, (2, 0, 0, [150])), (1, (0, 1, 0, [])), (2, (0, 2, 0, []))], [], [(0, 0), (iLo, iHi), (0, 4)], []), [(0, 1, 0), (0, 2, 0)], (8, [(2, (-2))]), [])]) (by decide) rfl (fun na b => by rw [← ceX7_allSteps]; exact tkX7_allSteps) (List.forall_mem_cons.mpr ⟨vc858 d, fun _ h => absurd h List.not_mem_nil⟩) (cpyX (d + 5)) (by decide +kernel)
def Kc867 : Con := ((241, [(2, 0, 0, [150])], []), [(150, 0, 0), (150, 11, 11), (150, 26, 26), (164, 0, 19)], [(some (0, (-2), 19, []), [], [])])
set_option maxRecDepth 20000 in
theorem vc867 {l : Launch} {X : Nat × (Nat → Int32)} {e : Int} (d : Nat) : Vc l X U0 Pt4 e (d + 7) Kc867 :=
  ck (d := (d + 6)) (Ks := [Kc784, Kc795, Kc801, Kc866]) (cy := 152) (cd := cdX7_gate) (nl := 5) (fuel := 1000) (Hs := [((26, 0), ([(0, (2, 0, 0, [150])), (1, (0, 1, 0, [])), (2, (0, 2, 0, [])), (3, (0, 3, 0, []))], [], [(0, 0), ((-2), 19), (iLo, 100000000), (0, 20)], []), [(0, 1, 0), (0, 2, 0), (0, 3, 0)], (40, [(3, (-2))]), [])]) (by decide) rfl (fun na b => by rw [← ceX7_gate]; exact tkX7_gate) (List.forall_mem_cons.mpr ⟨vc784 (d + 6), List.forall_mem_cons.mpr ⟨vc795 (d + 6), List.forall_mem_cons.mpr ⟨vc801 (d + 6), List.forall_mem_cons.mpr ⟨vc866 d, fun _ h => absurd h List.not_mem_nil⟩⟩⟩⟩) (cpyX (d + 6)) (by decide +kernel)
def Kc868 : Con := ((242, [(2, 0, 0, [150]), (0, iLo, iHi, [])], []), [(160, 0, 4), (161, 0, 24), (165, 0, 5)], [(some (0, (-2), (-2), []), [], []), (some (0, 0, 5, []), [], [])])
set_option maxRecDepth 20000 in
theorem vc868 {l : Launch} {X : Nat × (Nat → Int32)} {e : Int} (d : Nat) : Vc l X U0 Pt4 e (d + 2) Kc868 :=
  ck (d := (d + 1)) (Ks := [Kc814, Kc816]) (cy := 152) (cd := cdX7_wrongBy) (nl := 4) (fuel := 1000) (Hs := [((22, 0), ([(0, (2, 0, 0, [150])), (2, (0, 1, 0, []))], [], [(0, 0), (0, 6)], []), [(0, 2, 0)], (1708, [(1, (-5))]), []), ((43, 0), ([(0, (2, 0, 0, [150])), (2, (0, 1, 0, []))], [], [(0, 0), (1, 41)], []), [(0, 2, 0)], (1712, [(1, (-40))]), []), ((60, 0), ([(0, (2, 0, 0, [150])), (2, (0, 1, 0, [])), (3, (0, 2, 0, []))], [], [(0, 0), (1, 40), (0, 6)], []), [(0, 2, 0), (0, 3, 0)], (1706, [(1, (-40)), (2, (-5))]), []), ((112, 0), ([(0, (2, 0, 0, [150])), (2, (0, 1, 0, []))], [], [(0, 0), (0, 6)], []), [(0, 2, 0)], (30, [(1, (-5))]), [])]) (by decide) rfl (fun na b => by rw [← ceX7_wrongBy]; exact tkX7_wrongBy) (List.forall_mem_cons.mpr ⟨vc814 d, List.forall_mem_cons.mpr ⟨vc816 d, fun _ h => absurd h List.not_mem_nil⟩⟩) (cpyX (d + 1)) (by decide +kernel)
def Kc869 : Con := ((243, [(2, 0, 0, [150]), (0, iLo, iHi, [])], []), [(150, 36, 38), (160, 0, 4), (161, 0, 24), (165, 0, 5), (166, 0, 3)], [(some (0, (-1), 15, []), [], [])])
set_option maxRecDepth 20000 in
theorem vc869 {l : Launch} {X : Nat × (Nat → Int32)} {e : Int} (d : Nat) : Vc l X U0 Pt4 e (d + 3) Kc869 :=
  ck (d := (d + 2)) (Ks := [Kc868]) (cy := 152) (cd := cdX7_seekSets) (nl := 5) (fuel := 1000) (Hs := [((29, 0), ([(0, (2, 0, 0, [150])), (1, (0, 1, 0, [])), (2, (0, 0, (-1), [])), (3, (0, 2, 0, []))], [], [(0, 0), (iLo, iHi), (0, 4), (0, 15)], [(150, 36, (0, 0, 0, [])), (150, 37, (0, 0, 0, [])), (150, 38, (0, 3, 0, []))]), [(0, 1, 0), (0, 3, 0), (2, 150, 38)], (426, [(2, (-4))]), []), ((49, 0), ([(0, (2, 0, 0, [150])), (1, (0, 1, 0, [])), (2, (0, 2, 0, [])), (3, (0, 3, 0, []))], [], [(0, 0), (iLo, iHi), ((-1), 15), (0, 16), (iLo, iHi), (iLo, iHi), (0, 15)], [(150, 36, (0, 4, 0, [])), (150, 37, (0, 5, 0, [])), (150, 38, (0, 6, 0, []))]), [(0, 1, 0), (0, 2, 0), (0, 3, 0), (2, 150, 36), (2, 150, 37), (2, 150, 38)], (405, [(3, (-24))]), []), ((118, 0), ([(0, (2, 0, 0, [150])), (1, (0, 1, 0, [])), (2, (0, 2, 0, [])), (3, (0, 3, 0, [])), (4, (0, 4, 0, []))], [], [(0, 0), (iLo, iHi), ((-1), 15), (0, 15), (0, 4), (iLo, iHi), (iLo, iHi), (0, 15)], [(150, 36, (0, 5, 0, [])), (150, 37, (0, 6, 0, [])), (150, 38, (0, 7, 0, []))]), [(0, 1, 0), (0, 2, 0), (0, 3, 0), (0, 4, 0), (2, 150, 36), (2, 150, 37), (2, 150, 38)], (400, [(3, (-24)), (4, (-4))]), [])]) (by decide) rfl (fun na b => by rw [← ceX7_seekSets]; exact tkX7_seekSets) (List.forall_mem_cons.mpr ⟨vc868 d, fun _ h => absurd h List.not_mem_nil⟩) (cpyX (d + 2)) (by decide +kernel)
def Kc870 : Con := ((244, [(2, 0, 0, [150])], []), [(150, 0, 0), (150, 11, 11), (150, 36, 38), (160, 0, 4), (161, 0, 24), (165, 0, 5), (166, 0, 3)], [(some (0, iLo, iHi, []), [], [])])
set_option maxRecDepth 20000 in
theorem vc870 {l : Launch} {X : Nat × (Nat → Int32)} {e : Int} (d : Nat) : Vc l X U0 Pt4 e (d + 4) Kc870 :=
  ck (d := (d + 3)) (Ks := [Kc784, Kc869]) (cy := 152) (cd := cdX7_fits) (nl := 1) (fuel := 1000) (Hs := []) (by decide) rfl (fun na b => by rw [← ceX7_fits]; exact tkX7_fits) (List.forall_mem_cons.mpr ⟨vc784 (d + 3), List.forall_mem_cons.mpr ⟨vc869 d, fun _ h => absurd h List.not_mem_nil⟩⟩) (cpyX (d + 3)) (by decide +kernel)
def Kc871 : Con := ((245, [(2, 0, 0, [150]), (0, iLo, iHi, [])], []), [(150, 0, 0), (150, 11, 11), (150, 36, 38), (160, 0, 4), (161, 0, 24), (165, 0, 5), (166, 0, 3)], [(some (0, 0, 15, []), [(1, 0, iHi)], []), (some (0, (-1), (-1), []), [], [])])
set_option maxRecDepth 20000 in
theorem vc871 {l : Launch} {X : Nat × (Nat → Int32)} {e : Int} (d : Nat) : Vc l X U0 Pt4 e (d + 4) Kc871 :=
  ck (d := (d + 3)) (Ks := [Kc784, Kc869, Kc787]) (cy := 152) (cd := cdX7_fitAt) (nl := 3) (fuel := 1000) (Hs := []) (by decide) rfl (fun na b => by rw [← ceX7_fitAt]; exact tkX7_fitAt) (List.forall_mem_cons.mpr ⟨vc784 (d + 3), List.forall_mem_cons.mpr ⟨vc869 d, List.forall_mem_cons.mpr ⟨vc787 (d + 3), fun _ h => absurd h List.not_mem_nil⟩⟩⟩) (cpyX (d + 3)) (by decide +kernel)
def Kc872 : Con := ((246, [(2, 0, 0, [150])], []), [(150, 0, 0), (150, 11, 11), (150, 36, 38), (160, 0, 4), (161, 0, 24), (165, 0, 5), (166, 0, 3)], [(some (0, iLo, iHi, []), [], [])])
set_option maxRecDepth 20000 in
theorem vc872 {l : Launch} {X : Nat × (Nat → Int32)} {e : Int} (d : Nat) : Vc l X U0 Pt4 e (d + 4) Kc872 :=
  ck (d := (d + 3)) (Ks := [Kc784, Kc869]) (cy := 152) (cd := cdX7_could) (nl := 1) (fuel := 1000) (Hs := []) (by decide) rfl (fun na b => by rw [← ceX7_could]; exact tkX7_could) (List.forall_mem_cons.mpr ⟨vc784 (d + 3), List.forall_mem_cons.mpr ⟨vc869 d, fun _ h => absurd h List.not_mem_nil⟩⟩) (cpyX (d + 3)) (by decide +kernel)
def Kc873 : Con := ((247, [(2, 0, 0, [150])], []), [(150, 0, 0), (150, 11, 11), (150, 36, 38), (160, 0, 4), (161, 0, 24), (165, 0, 5), (166, 0, 3)], [(some (0, iLo, iHi, []), [], [])])
set_option maxRecDepth 20000 in
theorem vc873 {l : Launch} {X : Nat × (Nat → Int32)} {e : Int} (d : Nat) : Vc l X U0 Pt4 e (d + 4) Kc873 :=
  ck (d := (d + 3)) (Ks := [Kc784, Kc869]) (cy := 152) (cd := cdX7_surely) (nl := 1) (fuel := 1000) (Hs := []) (by decide) rfl (fun na b => by rw [← ceX7_surely]; exact tkX7_surely) (List.forall_mem_cons.mpr ⟨vc784 (d + 3), List.forall_mem_cons.mpr ⟨vc869 d, fun _ h => absurd h List.not_mem_nil⟩⟩) (cpyX (d + 3)) (by decide +kernel)
def Kc874 : Con := ((248, [(2, 0, 0, [150]), (0, 0, 3, [])], []), [], [(some (0, iLo, iHi, []), [], [])])
set_option maxRecDepth 20000 in
theorem vc874 {l : Launch} {X : Nat × (Nat → Int32)} {e : Int} (d : Nat) : Vc l X U0 Pt4 e d Kc874 :=
  ck (d := d) (Ks := []) (cy := 152) (cd := cdX7_leavesOf) (nl := 2) (fuel := 1000) (Hs := []) (by decide) rfl (fun na b => by rw [← ceX7_leavesOf]; exact tkX7_leavesOf) (fun _ h => absurd h List.not_mem_nil) (cpyX d) (by decide +kernel)
def Kc875 : Con := ((249, [(2, 0, 0, [150])], []), [(150, 36, 38), (160, 0, 4), (161, 0, 24), (165, 0, 5), (166, 0, 3)], [(some (0, (-2), 3, []), [], [])])
set_option maxRecDepth 20000 in
theorem vc875 {l : Launch} {X : Nat × (Nat → Int32)} {e : Int} (d : Nat) : Vc l X U0 Pt4 e (d + 4) Kc875 :=
  ck (d := (d + 3)) (Ks := [Kc869, Kc874]) (cy := 152) (cd := cdX7_askOf) (nl := 3) (fuel := 1000) (Hs := [((11, 0), ([(0, (2, 0, 0, [150])), (1, (0, 1, 0, [])), (2, (0, 2, 0, []))], [], [(0, 0), ((-2), 3), (0, 4)], []), [(0, 1, 0), (0, 2, 0)], (8, [(2, (-2))]), [])]) (by decide) rfl (fun na b => by rw [← ceX7_askOf]; exact tkX7_askOf) (List.forall_mem_cons.mpr ⟨vc869 d, List.forall_mem_cons.mpr ⟨vc874 (d + 3), fun _ h => absurd h List.not_mem_nil⟩⟩) (cpyX (d + 3)) (by decide +kernel)
def Kc876 : Con := ((250, [(2, 0, 0, [150])], []), [(150, 0, 0), (150, 11, 11), (150, 36, 38), (160, 0, 4), (161, 0, 24), (165, 0, 5), (166, 0, 3)], [(some (0, (-2), 3, []), [], [])])
set_option maxRecDepth 20000 in
theorem vc876 {l : Launch} {X : Nat × (Nat → Int32)} {e : Int} (d : Nat) : Vc l X U0 Pt4 e (d + 5) Kc876 :=
  ck (d := (d + 4)) (Ks := [Kc784, Kc875]) (cy := 152) (cd := cdX7_ask) (nl := 1) (fuel := 1000) (Hs := []) (by decide) rfl (fun na b => by rw [← ceX7_ask]; exact tkX7_ask) (List.forall_mem_cons.mpr ⟨vc784 (d + 4), List.forall_mem_cons.mpr ⟨vc875 d, fun _ h => absurd h List.not_mem_nil⟩⟩) (cpyX (d + 4)) (by decide +kernel)
def Kc877 : Con := ((251, [(2, 0, 0, [150])], []), [(150, 0, 0), (150, 11, 11), (150, 36, 38), (160, 0, 4), (161, 0, 24), (165, 0, 5), (166, 0, 3)], [(some (0, iLo, iHi, []), [], []), (some (0, (-2), (-2), []), [], [])])
set_option maxRecDepth 20000 in
theorem vc877 {l : Launch} {X : Nat × (Nat → Int32)} {e : Int} (d : Nat) : Vc l X U0 Pt4 e (d + 5) Kc877 :=
  ck (d := (d + 4)) (Ks := [Kc784, Kc875, Kc874]) (cy := 152) (cd := cdX7_askLeaves) (nl := 2) (fuel := 1000) (Hs := []) (by decide) rfl (fun na b => by rw [← ceX7_askLeaves]; exact tkX7_askLeaves) (List.forall_mem_cons.mpr ⟨vc784 (d + 4), List.forall_mem_cons.mpr ⟨vc875 d, List.forall_mem_cons.mpr ⟨vc874 (d + 4), fun _ h => absurd h List.not_mem_nil⟩⟩⟩) (cpyX (d + 4)) (by decide +kernel)
def Kc878 : Con := ((252, [(2, 0, 0, [150])], []), [(150, 0, 0), (150, 11, 11), (160, 0, 4), (161, 0, 24), (165, 0, 5)], [(some (0, (-2), (-2), []), [], []), (some (0, 0, 5, []), [], [])])
set_option maxRecDepth 20000 in
theorem vc878 {l : Launch} {X : Nat × (Nat → Int32)} {e : Int} (d : Nat) : Vc l X U0 Pt4 e (d + 3) Kc878 :=
  ck (d := (d + 2)) (Ks := [Kc784, Kc868]) (cy := 152) (cd := cdX7_judge) (nl := 1) (fuel := 1000) (Hs := []) (by decide) rfl (fun na b => by rw [← ceX7_judge]; exact tkX7_judge) (List.forall_mem_cons.mpr ⟨vc784 (d + 2), List.forall_mem_cons.mpr ⟨vc868 d, fun _ h => absurd h List.not_mem_nil⟩⟩) (cpyX (d + 2)) (by decide +kernel)
def Kc879 : Con := ((149, [(0, iLo, iHi, []), (0, 0, 0, []), (0, 9, 9, [])], []), [], [(some (0, 0, 0, []), [], []), (some (0, 1, 1, []), [(0, 0, 9)], [])])
set_option maxRecDepth 20000 in
theorem vc879 {l : Launch} {X : Nat × (Nat → Int32)} {e : Int} (d : Nat) : Vc l X U0 Pt4 e d Kc879 :=
  ck (d := d) (Ks := []) (cy := 152) (cd := cdX7_in) (nl := 3) (fuel := 1000) (Hs := []) (by decide) rfl (fun na b => by rw [← ceX7_in]; exact tkX7_in) (fun _ h => absurd h List.not_mem_nil) (cpyX d) (by decide +kernel)
def Kc880 : Con := ((253, [(0, iLo, iHi, []), (0, iLo, iHi, []), (0, iLo, iHi, [])], []), [], [(some (0, iLo, iHi, []), [], [])])
set_option maxRecDepth 20000 in
theorem vc880 {l : Launch} {X : Nat × (Nat → Int32)} {e : Int} (d : Nat) : Vc l X U0 Pt4 e d Kc880 :=
  ck (d := d) (Ks := []) (cy := 152) (cd := cdX7_canonHas) (nl := 3) (fuel := 1000) (Hs := []) (by decide) rfl (fun na b => by rw [← ceX7_canonHas]; exact tkX7_canonHas) (fun _ h => absurd h List.not_mem_nil) (cpyX d) (by decide +kernel)
def Kc881 : Con := ((254, [(0, iLo, iHi, []), (0, iLo, iHi, [])], []), [], [(some (0, 0, 3, []), [], [])])
set_option maxRecDepth 20000 in
theorem vc881 {l : Launch} {X : Nat × (Nat → Int32)} {e : Int} (d : Nat) : Vc l X U0 Pt4 e d Kc881 :=
  ck (d := d) (Ks := []) (cy := 152) (cd := cdX7_breadHas) (nl := 2) (fuel := 1000) (Hs := []) (by decide) rfl (fun na b => by rw [← ceX7_breadHas]; exact tkX7_breadHas) (fun _ h => absurd h List.not_mem_nil) (cpyX d) (by decide +kernel)
def Kc882 : Con := ((255, [(2, 0, 0, [150]), (0, iLo, iHi, []), (0, iLo, iHi, []), (0, iLo, iHi, []), (0, iLo, iHi, [])], []), [(150, 0, 0), (150, 11, 11)], [(some (0, (-100), (-100), []), [], []), (some (0, iLo, iHi, []), [(1, 0, 9)], [])])
set_option maxRecDepth 20000 in
theorem vc882 {l : Launch} {X : Nat × (Nat → Int32)} {e : Int} (d : Nat) : Vc l X U0 Pt4 e (d + 1) Kc882 :=
  ck (d := d) (Ks := [Kc784, Kc879, Kc811, Kc812, Kc880, Kc881]) (cy := 152) (cd := cdX7_sulks) (nl := 6) (fuel := 1000) (Hs := []) (by decide) rfl (fun na b => by rw [← ceX7_sulks]; exact tkX7_sulks) (List.forall_mem_cons.mpr ⟨vc784 d, List.forall_mem_cons.mpr ⟨vc879 d, List.forall_mem_cons.mpr ⟨vc811 d, List.forall_mem_cons.mpr ⟨vc812 d, List.forall_mem_cons.mpr ⟨vc880 d, List.forall_mem_cons.mpr ⟨vc881 d, fun _ h => absurd h List.not_mem_nil⟩⟩⟩⟩⟩⟩) (cpyX d) (by decide +kernel)
def Kc883 : Con := ((256, [(2, 0, 0, [150]), (0, iLo, iHi, [])], []), [(150, 39, 39)], [(some (0, iLo, iHi, []), [], [])])
set_option maxRecDepth 20000 in
theorem vc883 {l : Launch} {X : Nat × (Nat → Int32)} {e : Int} (d : Nat) : Vc l X U0 Pt4 e (d + 1) Kc883 :=
  ck (d := d) (Ks := [Kc880, Kc881]) (cy := 152) (cd := cdX7_seekRests) (nl := 6) (fuel := 1000) (Hs := [((10, 0), ([(0, (2, 0, 0, [150])), (1, (0, 1, 0, [])), (2, (0, 2, 0, [])), (3, (0, 3, 0, []))], [], [(0, 0), (iLo, iHi), (iLo, iHi), (0, 4), ((-2), 31)], [(150, 39, (0, 4, 0, []))]), [(0, 1, 0), (0, 2, 0), (0, 3, 0), (2, 150, 39)], (8, [(3, (-2))]), [])]) (by decide) rfl (fun na b => by rw [← ceX7_seekRests]; exact tkX7_seekRests) (List.forall_mem_cons.mpr ⟨vc880 d, List.forall_mem_cons.mpr ⟨vc881 d, fun _ h => absurd h List.not_mem_nil⟩⟩) (cpyX d) (by decide +kernel)
def Kc884 : Con := ((257, [(2, 0, 0, [150]), (0, iLo, iHi, [])], []), [(150, 0, 0), (150, 11, 11), (150, 39, 39)], [(some (0, (-1), (-1), []), [], []), (some (0, iLo, iHi, []), [(1, 0, 9)], [])])
set_option maxRecDepth 20000 in
theorem vc884 {l : Launch} {X : Nat × (Nat → Int32)} {e : Int} (d : Nat) : Vc l X U0 Pt4 e (d + 2) Kc884 :=
  ck (d := (d + 1)) (Ks := [Kc784, Kc879, Kc811, Kc787, Kc812, Kc883]) (cy := 152) (cd := cdX7_rests) (nl := 3) (fuel := 1000) (Hs := []) (by decide) rfl (fun na b => by rw [← ceX7_rests]; exact tkX7_rests) (List.forall_mem_cons.mpr ⟨vc784 (d + 1), List.forall_mem_cons.mpr ⟨vc879 (d + 1), List.forall_mem_cons.mpr ⟨vc811 (d + 1), List.forall_mem_cons.mpr ⟨vc787 (d + 1), List.forall_mem_cons.mpr ⟨vc812 (d + 1), List.forall_mem_cons.mpr ⟨vc883 d, fun _ h => absurd h List.not_mem_nil⟩⟩⟩⟩⟩⟩) (cpyX (d + 1)) (by decide +kernel)
def Kc885 : Con := ((258, [(2, 0, 0, [150]), (0, iLo, iHi, [])], []), [(150, 0, 0), (150, 11, 11), (150, 39, 39)], [(some (0, (-1), (-1), []), [], []), (some (0, iLo, iHi, []), [(1, 0, 9)], [])])
set_option maxRecDepth 20000 in
theorem vc885 {l : Launch} {X : Nat × (Nat → Int32)} {e : Int} (d : Nat) : Vc l X U0 Pt4 e (d + 2) Kc885 :=
  ck (d := (d + 1)) (Ks := [Kc784, Kc879, Kc811, Kc787, Kc812, Kc883]) (cy := 152) (cd := cdX7_rest) (nl := 3) (fuel := 1000) (Hs := []) (by decide) rfl (fun na b => by rw [← ceX7_rest]; exact tkX7_rest) (List.forall_mem_cons.mpr ⟨vc784 (d + 1), List.forall_mem_cons.mpr ⟨vc879 (d + 1), List.forall_mem_cons.mpr ⟨vc811 (d + 1), List.forall_mem_cons.mpr ⟨vc787 (d + 1), List.forall_mem_cons.mpr ⟨vc812 (d + 1), List.forall_mem_cons.mpr ⟨vc883 d, fun _ h => absurd h List.not_mem_nil⟩⟩⟩⟩⟩⟩) (cpyX (d + 1)) (by decide +kernel)
def Kc886 : Con := ((149, [(0, iLo, iHi, []), (0, 0, 0, []), (0, 7, 7, [])], []), [], [(some (0, 0, 0, []), [], []), (some (0, 1, 1, []), [(0, 0, 7)], [])])
set_option maxRecDepth 20000 in
theorem vc886 {l : Launch} {X : Nat × (Nat → Int32)} {e : Int} (d : Nat) : Vc l X U0 Pt4 e d Kc886 :=
  ck (d := d) (Ks := []) (cy := 152) (cd := cdX7_in) (nl := 3) (fuel := 1000) (Hs := []) (by decide) rfl (fun na b => by rw [← ceX7_in]; exact tkX7_in) (fun _ h => absurd h List.not_mem_nil) (cpyX d) (by decide +kernel)
def Kc887 : Con := ((259, [(2, 0, 0, [150]), (0, 0, 5, []), (0, 0, 7, [])], []), [(150, 40, 42), (160, 0, 4), (161, 0, 24)], [(none, [], [(150, 40, (1, 1, lHi, []))])])
set_option maxRecDepth 20000 in
theorem vc887 {l : Launch} {X : Nat × (Nat → Int32)} {e : Int} (d : Nat) : Vc l X U0 Pt4 e (d + 6) Kc887 := vh_tryCalms (R := rwt4) rfl d ⟨fun M kr hI he h => vc817 (d + 3) [.ref 150, .int 0] M kr hI he ⟨⟨rfl, List.mem_singleton.mpr rfl⟩, ⟨rfl, by decide, by decide⟩, trivial⟩ (fun f hf => absurd hf List.not_mem_nil) (fun r M' hJ hp => by
  rw [r_none (by decide) hp]
  exact h M' (Jv_tr (Jv.rf hI he) hJ (by decide))), fun b M kr hb hI he h => vc816 (d + 4) [.ref 150, .ref 161, .int b] M kr hI he ⟨⟨rfl, List.mem_singleton.mpr rfl⟩, ⟨rfl, List.mem_singleton.mpr rfl⟩, ⟨rfl, i32_lo _, i32_hi _⟩, trivial⟩ (fun f hf => absurd hf List.not_mem_nil) (fun r M' hJ hp => by
  rw [r_none (by decide) hp]
  exact h M' (Jv_tr (Jv.rf hI he) hJ (by decide)))⟩
def Kc888 : Con := ((153, [(1, lLo, lHi, []), (1, 1, lHi, []), (0, iLo, iHi, [])], []), [], [(some (1, lLo, lHi, []), [], [])])
set_option maxRecDepth 20000 in
theorem vc888 {l : Launch} {X : Nat × (Nat → Int32)} {e : Int} (d : Nat) : Vc l X U0 Pt4 e (d + 0) Kc888 := vh_lowI d
def Kc889 : Con := ((260, [(2, 0, 0, [150]), (0, iLo, iHi, []), (0, iLo, iHi, []), (0, iLo, iHi, [])], []), [(150, 0, 0), (150, 11, 11), (150, 40, 42), (160, 0, 4), (161, 0, 24)], [(some (1, lLo, lHi, []), [], [])])
set_option maxRecDepth 20000 in
theorem vc889 {l : Launch} {X : Nat × (Nat → Int32)} {e : Int} (d : Nat) : Vc l X U0 Pt4 e (d + 7) Kc889 :=
  ck (d := (d + 6)) (Ks := [Kc784, Kc786, Kc886, Kc808, Kc787, Kc809, Kc811, Kc812, Kc887, Kc888]) (cy := 152) (cd := cdX7_odds) (nl := 5) (fuel := 1000) (Hs := []) (by decide) rfl (fun na b => by rw [← ceX7_odds]; exact tkX7_odds) (List.forall_mem_cons.mpr ⟨vc784 (d + 6), List.forall_mem_cons.mpr ⟨vc786 (d + 5), List.forall_mem_cons.mpr ⟨vc886 (d + 6), List.forall_mem_cons.mpr ⟨vc808 (d + 6), List.forall_mem_cons.mpr ⟨vc787 (d + 6), List.forall_mem_cons.mpr ⟨vc809 (d + 6), List.forall_mem_cons.mpr ⟨vc811 (d + 6), List.forall_mem_cons.mpr ⟨vc812 (d + 6), List.forall_mem_cons.mpr ⟨vc887 d, List.forall_mem_cons.mpr ⟨vc888 (d + 6), fun _ h => absurd h List.not_mem_nil⟩⟩⟩⟩⟩⟩⟩⟩⟩⟩) (cpyX (d + 6)) (by decide +kernel)
def Kc890 : Con := ((261, [(2, 0, 0, [150]), (0, iLo, iHi, []), (0, iLo, iHi, []), (0, iLo, iHi, [])], []), [(150, 0, 0), (150, 11, 11), (150, 40, 42), (160, 0, 4), (161, 0, 24)], [(some (1, lLo, lHi, []), [], [])])
set_option maxRecDepth 20000 in
theorem vc890 {l : Launch} {X : Nat × (Nat → Int32)} {e : Int} (d : Nat) : Vc l X U0 Pt4 e (d + 7) Kc890 :=
  ck (d := (d + 6)) (Ks := [Kc784, Kc786, Kc886, Kc808, Kc787, Kc809, Kc811, Kc812, Kc887, Kc888]) (cy := 152) (cd := cdX7_mean) (nl := 5) (fuel := 1000) (Hs := []) (by decide) rfl (fun na b => by rw [← ceX7_mean]; exact tkX7_mean) (List.forall_mem_cons.mpr ⟨vc784 (d + 6), List.forall_mem_cons.mpr ⟨vc786 (d + 5), List.forall_mem_cons.mpr ⟨vc886 (d + 6), List.forall_mem_cons.mpr ⟨vc808 (d + 6), List.forall_mem_cons.mpr ⟨vc787 (d + 6), List.forall_mem_cons.mpr ⟨vc809 (d + 6), List.forall_mem_cons.mpr ⟨vc811 (d + 6), List.forall_mem_cons.mpr ⟨vc812 (d + 6), List.forall_mem_cons.mpr ⟨vc887 d, List.forall_mem_cons.mpr ⟨vc888 (d + 6), fun _ h => absurd h List.not_mem_nil⟩⟩⟩⟩⟩⟩⟩⟩⟩⟩) (cpyX (d + 6)) (by decide +kernel)
def Kc891 : Con := ((149, [(0, iLo, iHi, []), (0, 0, 0, []), (0, 65536, 65536, [])], []), [], [(some (0, 0, 0, []), [], []), (some (0, 1, 1, []), [(0, 0, 65536)], [])])
set_option maxRecDepth 20000 in
theorem vc891 {l : Launch} {X : Nat × (Nat → Int32)} {e : Int} (d : Nat) : Vc l X U0 Pt4 e d Kc891 :=
  ck (d := d) (Ks := []) (cy := 152) (cd := cdX7_in) (nl := 3) (fuel := 1000) (Hs := []) (by decide) rfl (fun na b => by rw [← ceX7_in]; exact tkX7_in) (fun _ h => absurd h List.not_mem_nil) (cpyX d) (by decide +kernel)
def Kc892 : Con := ((262, [(2, 0, 0, [150]), (0, 0, 0, []), (0, iLo, iHi, []), (0, iLo, iHi, [])], []), [], [(some (0, 1, 1, []), [], [])])
set_option maxRecDepth 20000 in
theorem vc892 {l : Launch} {X : Nat × (Nat → Int32)} {e : Int} (d : Nat) : Vc l X U0 Pt4 e (d + 1) Kc892 :=
  ck (d := d) (Ks := [Kc891, Kc808, Kc807, Kc809]) (cy := 152) (cd := cdX7_drawWhy) (nl := 7) (fuel := 1000) (Hs := []) (by decide) rfl (fun na b => by rw [← ceX7_drawWhy]; exact tkX7_drawWhy) (List.forall_mem_cons.mpr ⟨vc891 d, List.forall_mem_cons.mpr ⟨vc808 d, List.forall_mem_cons.mpr ⟨vc807 d, List.forall_mem_cons.mpr ⟨vc809 d, fun _ h => absurd h List.not_mem_nil⟩⟩⟩⟩) (cpyX d) (by decide +kernel)
def Kc893 : Con := ((262, [(2, 0, 0, [150]), (0, 1, 1, []), (0, iLo, iHi, []), (0, iLo, iHi, [])], []), [(150, 43, 43), (160, 0, 4), (161, 0, 24)], [(some (0, 2, 2, []), [], []), (some (0, 0, 0, []), [(2, 0, 65536), (3, 0, 60)], [])])
set_option maxRecDepth 20000 in
theorem vc893 {l : Launch} {X : Nat × (Nat → Int32)} {e : Int} (d : Nat) : Vc l X U0 Pt4 e (d + 3) Kc893 :=
  ck (d := (d + 2)) (Ks := [Kc891, Kc811, Kc807, Kc812, Kc817, Kc816]) (cy := 152) (cd := cdX7_drawWhy) (nl := 7) (fuel := 1000) (Hs := [((58, 0), ([(0, (2, 0, 0, [150])), (3, (0, 1, 0, [])), (5, (0, 2, 0, [])), (6, (0, 3, 0, [])), (1000, (2, 0, 0, [150])), (1001, (0, 4, 0, [])), (1002, (0, 5, 0, [])), (1003, (0, 1, 0, []))], [], [(0, 0), (0, 60), (0, 65536), (1, 61), (1, 1), (0, 65536), ((-2), 60)], [(150, 43, (0, 6, 0, []))]), [(0, 3, 0), (0, 5, 0), (0, 6, 0), (0, 1001, 0), (0, 1002, 0), (2, 150, 43)], (122, [(3, (-2))]), [])]) (by decide) rfl (fun na b => by rw [← ceX7_drawWhy]; exact tkX7_drawWhy) (List.forall_mem_cons.mpr ⟨vc891 (d + 2), List.forall_mem_cons.mpr ⟨vc811 (d + 2), List.forall_mem_cons.mpr ⟨vc807 (d + 2), List.forall_mem_cons.mpr ⟨vc812 (d + 2), List.forall_mem_cons.mpr ⟨vc817 d, List.forall_mem_cons.mpr ⟨vc816 (d + 1), fun _ h => absurd h List.not_mem_nil⟩⟩⟩⟩⟩⟩) (cpyX (d + 2)) (by decide +kernel)
def Kc894 : Con := ((263, [(2, 0, 0, [150]), (0, iLo, iHi, []), (0, iLo, iHi, []), (0, iLo, iHi, [])], []), [(150, 0, 0), (150, 11, 11), (150, 43, 43), (160, 0, 4), (161, 0, 24)], [(some (0, (-1), (-1), []), [], []), (some (0, iLo, iHi, []), [(1, 0, 5), (2, 0, 65536), (3, 0, 60)], [])])
set_option maxRecDepth 20000 in
theorem vc894 {l : Launch} {X : Nat × (Nat → Int32)} {e : Int} (d : Nat) : Vc l X U0 Pt4 e (d + 4) Kc894 :=
  ck (d := (d + 3)) (Ks := [Kc784, Kc786, Kc892, Kc787, Kc893]) (cy := 152) (cd := cdX7_borne) (nl := 5) (fuel := 1000) (Hs := []) (by decide) rfl (fun na b => by rw [← ceX7_borne]; exact tkX7_borne) (List.forall_mem_cons.mpr ⟨vc784 (d + 3), List.forall_mem_cons.mpr ⟨vc786 (d + 2), List.forall_mem_cons.mpr ⟨vc892 (d + 2), List.forall_mem_cons.mpr ⟨vc787 (d + 3), List.forall_mem_cons.mpr ⟨vc893 d, fun _ h => absurd h List.not_mem_nil⟩⟩⟩⟩⟩) (cpyX (d + 3)) (by decide +kernel)
def Kc895 : Con := ((264, [(2, 0, 0, [150]), (0, iLo, iHi, []), (0, iLo, iHi, [])], []), [(150, 0, 0), (150, 11, 11), (150, 43, 43), (160, 0, 4), (161, 0, 24)], [(some (0, (-1), (-1), []), [], []), (some (0, iLo, iHi, []), [(1, 0, 65536), (2, 0, 60)], [])])
set_option maxRecDepth 20000 in
theorem vc895 {l : Launch} {X : Nat × (Nat → Int32)} {e : Int} (d : Nat) : Vc l X U0 Pt4 e (d + 4) Kc895 :=
  ck (d := (d + 3)) (Ks := [Kc784, Kc893, Kc787]) (cy := 152) (cd := cdX7_firstWet) (nl := 4) (fuel := 1000) (Hs := []) (by decide) rfl (fun na b => by rw [← ceX7_firstWet]; exact tkX7_firstWet) (List.forall_mem_cons.mpr ⟨vc784 (d + 3), List.forall_mem_cons.mpr ⟨vc893 d, List.forall_mem_cons.mpr ⟨vc787 (d + 3), fun _ h => absurd h List.not_mem_nil⟩⟩⟩) (cpyX (d + 3)) (by decide +kernel)
def Kc896 : Con := ((265, [(2, 0, 0, [150])], []), [(150, 22, 22), (158, 0, 399)], [(none, [], [])])
set_option maxRecDepth 20000 in
theorem vc896 {l : Launch} {X : Nat × (Nat → Int32)} {e : Int} (d : Nat) : Vc l X U0 Pt4 e (d + 1) Kc896 :=
  ck (d := d) (Ks := []) (cy := 152) (cd := cdX7_note) (nl := 2) (fuel := 1000) (Hs := [((49, 1), ([(0, (2, 0, 0, [150]))], [], [(0, 0), (0, 15)], [(150, 22, (0, 1, 0, []))]), [(2, 150, 22)], (0, []), []), ((11, 1), ([(0, (2, 0, 0, [150])), (1, (0, 1, 0, []))], [], [(0, 0), (0, 375), (16, 16)], [(150, 22, (0, 2, 0, []))]), [(0, 1, 0), (2, 150, 22)], (1126, [(1, (-3))]), [])]) (by decide) rfl (fun na b => by rw [← ceX7_note]; exact tkX7_note) (fun _ h => absurd h List.not_mem_nil) (cpyX d) (by decide +kernel)
def Kc897 : Con := ((192, [(2, 0, 0, [150]), (2, 0, 0, [157]), (0, 0, 5, [])], []), [], [(some (0, iLo, iHi, []), [], [])])
set_option maxRecDepth 20000 in
theorem vc897 {l : Launch} {X : Nat × (Nat → Int32)} {e : Int} (d : Nat) : Vc l X U0 Pt4 e d Kc897 :=
  ck (d := d) (Ks := []) (cy := 152) (cd := cdX7_letsGo) (nl := 6) (fuel := 1000) (Hs := []) (by decide) rfl (fun na b => by rw [← ceX7_letsGo]; exact tkX7_letsGo) (fun _ h => absurd h List.not_mem_nil) (cpyX d) (by decide +kernel)
def Kc898 : Con := ((193, [(2, 0, 0, [150]), (2, 0, 0, [157]), (0, iLo, iHi, [])], []), [(157, 0, 17), (157, 23, 24)], [(none, [], [])])
set_option maxRecDepth 20000 in
theorem vc898 {l : Launch} {X : Nat × (Nat → Int32)} {e : Int} (d : Nat) : Vc l X U0 Pt4 e (d + 1) Kc898 :=
  ck (d := d) (Ks := [Kc897]) (cy := 152) (cd := cdX7_dayOn) (nl := 5) (fuel := 1000) (Hs := [((15, 0), ([(0, (2, 0, 0, [150])), (1, (2, 0, 0, [157])), (2, (0, 1, 0, [])), (3, (0, 2, 0, []))], [], [(0, 0), (iLo, iHi), (0, 4)], []), [(0, 2, 0), (0, 3, 0)], (34, [(2, (-3))]), []), ((89, 0), ([(0, (2, 0, 0, [150])), (1, (2, 0, 0, [157])), (3, (0, 1, 0, []))], [], [(0, 0), (0, 6)], []), [(0, 3, 0)], (18, [(1, (-3))]), [])]) (by decide) rfl (fun na b => by rw [← ceX7_dayOn]; exact tkX7_dayOn) (List.forall_mem_cons.mpr ⟨vc897 d, fun _ h => absurd h List.not_mem_nil⟩) (cpyX d) (by decide +kernel)
def Kc899 : Con := ((266, [(2, 0, 0, [150])], []), [(150, 0, 0), (150, 11, 11), (150, 22, 22), (157, 0, 17), (157, 23, 24), (158, 0, 399), (160, 0, 4)], [(some (0, iLo, iHi, []), [], []), (some (0, (-1), (-1), []), [], [])])
set_option maxRecDepth 20000 in
theorem vc899 {l : Launch} {X : Nat × (Nat → Int32)} {e : Int} (d : Nat) : Vc l X U0 Pt4 e (d + 2) Kc899 :=
  ck (d := (d + 1)) (Ks := [Kc784, Kc896, Kc814, Kc898, Kc787]) (cy := 152) (cd := cdX7_day) (nl := 1) (fuel := 1000) (Hs := []) (by decide) rfl (fun na b => by rw [← ceX7_day]; exact tkX7_day) (List.forall_mem_cons.mpr ⟨vc784 (d + 1), List.forall_mem_cons.mpr ⟨vc896 d, List.forall_mem_cons.mpr ⟨vc814 d, List.forall_mem_cons.mpr ⟨vc898 d, List.forall_mem_cons.mpr ⟨vc787 (d + 1), fun _ h => absurd h List.not_mem_nil⟩⟩⟩⟩⟩) (cpyX (d + 1)) (by decide +kernel)
def Kc900 : Con := ((267, [(2, 0, 0, [150]), (0, iLo, iHi, []), (0, iLo, iHi, [])], []), [(150, 0, 0), (150, 11, 11), (150, 22, 22), (157, 18, 21), (158, 0, 399)], [(some (0, (-1), (-1), []), [], []), (some (0, 0, 5, []), [(1, 0, 3), (2, 0, 5)], [])])
set_option maxRecDepth 20000 in
theorem vc900 {l : Launch} {X : Nat × (Nat → Int32)} {e : Int} (d : Nat) : Vc l X U0 Pt4 e (d + 2) Kc900 :=
  ck (d := (d + 1)) (Ks := [Kc784, Kc792, Kc787, Kc786, Kc789, Kc896]) (cy := 152) (cd := cdX7_give) (nl := 4) (fuel := 1000) (Hs := []) (by decide) rfl (fun na b => by rw [← ceX7_give]; exact tkX7_give) (List.forall_mem_cons.mpr ⟨vc784 (d + 1), List.forall_mem_cons.mpr ⟨vc792 d, List.forall_mem_cons.mpr ⟨vc787 (d + 1), List.forall_mem_cons.mpr ⟨vc786 d, List.forall_mem_cons.mpr ⟨vc789 (d + 1), List.forall_mem_cons.mpr ⟨vc896 d, fun _ h => absurd h List.not_mem_nil⟩⟩⟩⟩⟩⟩) (cpyX (d + 1)) (by decide +kernel)
def Kc901 : Con := ((148, [(2, 0, 0, [150]), (0, iLo, iHi, [])], []), [(150, 11, 11)], [(some (0, 0, 0, []), [], [])])
set_option maxRecDepth 20000 in
theorem vc901 {l : Launch} {X : Nat × (Nat → Int32)} {e : Int} (d : Nat) : Vc l X U0 Pt4 e d Kc901 :=
  ck (d := d) (Ks := []) (cy := 152) (cd := cdX7_isNot) (nl := 2) (fuel := 1000) (Hs := []) (by decide) rfl (fun na b => by rw [← ceX7_isNot]; exact tkX7_isNot) (fun _ h => absurd h List.not_mem_nil) (cpyX d) (by decide +kernel)
def Kc902 : Con := ((268, [(2, 0, 0, [150]), (0, iLo, iHi, [])], []), [(150, 0, 0), (150, 11, 11), (150, 22, 22), (157, 0, 11), (158, 0, 399)], [(some (0, 0, 0, []), [], []), (some (0, 1, 1, []), [(1, 0, 5)], [])])
set_option maxRecDepth 20000 in
theorem vc902 {l : Launch} {X : Nat × (Nat → Int32)} {e : Int} (d : Nat) : Vc l X U0 Pt4 e (d + 2) Kc902 :=
  ck (d := (d + 1)) (Ks := [Kc784, Kc786, Kc901, Kc896]) (cy := 152) (cd := cdX7_mend) (nl := 3) (fuel := 1000) (Hs := []) (by decide) rfl (fun na b => by rw [← ceX7_mend]; exact tkX7_mend) (List.forall_mem_cons.mpr ⟨vc784 (d + 1), List.forall_mem_cons.mpr ⟨vc786 d, List.forall_mem_cons.mpr ⟨vc901 (d + 1), List.forall_mem_cons.mpr ⟨vc896 d, fun _ h => absurd h List.not_mem_nil⟩⟩⟩⟩) (cpyX (d + 1)) (by decide +kernel)
def Kc903 : Con := ((149, [(0, iLo, iHi, []), (0, 1, 1, []), (0, 99, 99, [])], []), [], [(some (0, 0, 0, []), [], []), (some (0, 1, 1, []), [(0, 1, 99)], [])])
set_option maxRecDepth 20000 in
theorem vc903 {l : Launch} {X : Nat × (Nat → Int32)} {e : Int} (d : Nat) : Vc l X U0 Pt4 e d Kc903 :=
  ck (d := d) (Ks := []) (cy := 152) (cd := cdX7_in) (nl := 3) (fuel := 1000) (Hs := []) (by decide) rfl (fun na b => by rw [← ceX7_in]; exact tkX7_in) (fun _ h => absurd h List.not_mem_nil) (cpyX d) (by decide +kernel)
def Kc904 : Con := ((269, [(2, 0, 0, [150]), (0, iLo, iHi, []), (0, iLo, iHi, [])], []), [(150, 0, 0), (150, 11, 11), (150, 22, 22), (157, 6, 11), (158, 0, 399)], [(some (0, (-1), (-1), []), [], []), (some (0, iLo, iHi, []), [(1, 0, 5), (2, 1, 99)], [])])
set_option maxRecDepth 20000 in
theorem vc904 {l : Launch} {X : Nat × (Nat → Int32)} {e : Int} (d : Nat) : Vc l X U0 Pt4 e (d + 2) Kc904 :=
  ck (d := (d + 1)) (Ks := [Kc784, Kc786, Kc903, Kc808, Kc787, Kc809, Kc811, Kc812, Kc896]) (cy := 152) (cd := cdX7_vex) (nl := 4) (fuel := 1000) (Hs := []) (by decide) rfl (fun na b => by rw [← ceX7_vex]; exact tkX7_vex) (List.forall_mem_cons.mpr ⟨vc784 (d + 1), List.forall_mem_cons.mpr ⟨vc786 d, List.forall_mem_cons.mpr ⟨vc903 (d + 1), List.forall_mem_cons.mpr ⟨vc808 (d + 1), List.forall_mem_cons.mpr ⟨vc787 (d + 1), List.forall_mem_cons.mpr ⟨vc809 (d + 1), List.forall_mem_cons.mpr ⟨vc811 (d + 1), List.forall_mem_cons.mpr ⟨vc812 (d + 1), List.forall_mem_cons.mpr ⟨vc896 d, fun _ h => absurd h List.not_mem_nil⟩⟩⟩⟩⟩⟩⟩⟩⟩) (cpyX (d + 1)) (by decide +kernel)
def Kc905 : Con := ((270, [(2, 0, 0, [150])], []), [(150, 0, 0), (150, 11, 11), (150, 22, 22), (157, 0, 24)], [(some (0, 0, 0, []), [], []), (some (0, 1, 1, []), [], [])])
set_option maxRecDepth 20000 in
theorem vc905 {l : Launch} {X : Nat × (Nat → Int32)} {e : Int} (d : Nat) : Vc l X U0 Pt4 e (d + 1) Kc905 :=
  ck (d := d) (Ks := [Kc784, Kc901]) (cy := 152) (cd := cdX7_undo) (nl := 1) (fuel := 1000) (Hs := [((28, 1), ([(0, (2, 0, 0, [150]))], [], [(0, 0), (0, 15)], [(150, 22, (0, 1, 0, []))]), [(2, 150, 22)], (0, []), [])]) (by decide) rfl (fun na b => by rw [← ceX7_undo]; exact tkX7_undo) (List.forall_mem_cons.mpr ⟨vc784 d, List.forall_mem_cons.mpr ⟨vc901 d, fun _ h => absurd h List.not_mem_nil⟩⟩) (cpyX d) (by decide +kernel)
def Kc906 : Con := ((271, [(2, 0, 0, [150])], []), [(150, 0, 0), (150, 11, 11), (150, 23, 23), (159, 0, 74)], [(some (0, (-1), (-1), []), [], []), (some (0, 0, 2, []), [], [])])
set_option maxRecDepth 20000 in
theorem vc906 {l : Launch} {X : Nat × (Nat → Int32)} {e : Int} (d : Nat) : Vc l X U0 Pt4 e (d + 1) Kc906 :=
  ck (d := d) (Ks := [Kc784, Kc787]) (cy := 152) (cd := cdX7_image) (nl := 1) (fuel := 1000) (Hs := [((31, 1), ([(0, (2, 0, 0, [150]))], [], [(0, 0), (0, 2)], [(150, 23, (0, 1, 0, []))]), [(2, 150, 23)], (0, []), [])]) (by decide) rfl (fun na b => by rw [← ceX7_image]; exact tkX7_image) (List.forall_mem_cons.mpr ⟨vc784 d, List.forall_mem_cons.mpr ⟨vc787 d, fun _ h => absurd h List.not_mem_nil⟩⟩) (cpyX d) (by decide +kernel)
def Kc907 : Con := ((149, [(0, iLo, iHi, []), (0, 0, 0, []), (0, (-1), 2, [])], []), [], [(some (0, 0, 0, []), [], []), (some (0, 1, 1, []), [(0, 0, 2), (2, 0, 2)], [])])
set_option maxRecDepth 20000 in
theorem vc907 {l : Launch} {X : Nat × (Nat → Int32)} {e : Int} (d : Nat) : Vc l X U0 Pt4 e d Kc907 :=
  ck (d := d) (Ks := []) (cy := 152) (cd := cdX7_in) (nl := 3) (fuel := 1000) (Hs := []) (by decide) rfl (fun na b => by rw [← ceX7_in]; exact tkX7_in) (fun _ h => absurd h List.not_mem_nil) (cpyX d) (by decide +kernel)
def Kc908 : Con := ((272, [(2, 0, 0, [150]), (0, iLo, iHi, [])], []), [(150, 0, 0), (150, 11, 11), (150, 22, 22), (157, 0, 24)], [(some (0, 0, 0, []), [], []), (some (0, 1, 1, []), [], [])])
set_option maxRecDepth 20000 in
theorem vc908 {l : Launch} {X : Nat × (Nat → Int32)} {e : Int} (d : Nat) : Vc l X U0 Pt4 e (d + 1) Kc908 :=
  ck (d := d) (Ks := [Kc784, Kc907, Kc901]) (cy := 152) (cd := cdX7_back) (nl := 2) (fuel := 1000) (Hs := [((24, 1), ([(0, (2, 0, 0, [150])), (1, (0, 1, 0, []))], [], [(0, 0), (0, 2)], []), [(0, 1, 0)], (0, []), [])]) (by decide) rfl (fun na b => by rw [← ceX7_back]; exact tkX7_back) (List.forall_mem_cons.mpr ⟨vc784 d, List.forall_mem_cons.mpr ⟨vc907 d, List.forall_mem_cons.mpr ⟨vc901 d, fun _ h => absurd h List.not_mem_nil⟩⟩⟩) (cpyX d) (by decide +kernel)
def Kc909 : Con := ((273, [(2, 0, 0, [150]), (0, iLo, iHi, [])], []), [(150, 0, 0)], [(some (0, 0, 5, []), [], [])])
set_option maxRecDepth 20000 in
theorem vc909 {l : Launch} {X : Nat × (Nat → Int32)} {e : Int} (d : Nat) : Vc l X U0 Pt4 e (d + 1) Kc909 :=
  ck (d := d) (Ks := [Kc789]) (cy := 152) (cd := cdX7_led) (nl := 4) (fuel := 1000) (Hs := [((4, 0), ([(0, (2, 0, 0, [150])), (1, (0, 1, 0, [])), (2, (0, 2, 0, [])), (3, (0, 3, 0, []))], [], [(0, 0), (iLo, iHi), (iLo, iHi), (0, 6)], []), [(0, 1, 0), (0, 2, 0), (0, 3, 0)], (12, [(3, (-2))]), [])]) (by decide) rfl (fun na b => by rw [← ceX7_led]; exact tkX7_led) (List.forall_mem_cons.mpr ⟨vc789 d, fun _ h => absurd h List.not_mem_nil⟩) (cpyX d) (by decide +kernel)
def Kc910 : Con := ((149, [(0, iLo, iHi, []), (0, 0, 0, []), (0, 8, 8, [])], []), [], [(some (0, 0, 0, []), [], []), (some (0, 1, 1, []), [(0, 0, 8)], [])])
set_option maxRecDepth 20000 in
theorem vc910 {l : Launch} {X : Nat × (Nat → Int32)} {e : Int} (d : Nat) : Vc l X U0 Pt4 e d Kc910 :=
  ck (d := d) (Ks := []) (cy := 152) (cd := cdX7_in) (nl := 3) (fuel := 1000) (Hs := []) (by decide) rfl (fun na b => by rw [← ceX7_in]; exact tkX7_in) (fun _ h => absurd h List.not_mem_nil) (cpyX d) (by decide +kernel)
def Kc911 : Con := ((274, [(2, 0, 0, [150]), (0, iLo, iHi, [])], []), [(150, 0, 0)], [(some (0, (-1), (-1), []), [], []), (some (0, iLo, iHi, []), [(1, 0, 12)], [])])
set_option maxRecDepth 20000 in
theorem vc911 {l : Launch} {X : Nat × (Nat → Int32)} {e : Int} (d : Nat) : Vc l X U0 Pt4 e (d + 1) Kc911 :=
  ck (d := d) (Ks := [Kc910]) (cy := 152) (cd := cdX7_size) (nl := 2) (fuel := 1000) (Hs := []) (by decide) rfl (fun na b => by rw [← ceX7_size]; exact tkX7_size) (List.forall_mem_cons.mpr ⟨vc910 d, fun _ h => absurd h List.not_mem_nil⟩) (cpyX d) (by decide +kernel)
def Kc912 : Con := ((275, [(2, 0, 0, [150])], []), [(150, 0, 0)], [(some (0, iLo, iHi, []), [], [])])
set_option maxRecDepth 20000 in
theorem vc912 {l : Launch} {X : Nat × (Nat → Int32)} {e : Int} (d : Nat) : Vc l X U0 Pt4 e d Kc912 :=
  ck (d := d) (Ks := []) (cy := 152) (cd := cdX7_trouble) (nl := 1) (fuel := 1000) (Hs := []) (by decide) rfl (fun na b => by rw [← ceX7_trouble]; exact tkX7_trouble) (fun _ h => absurd h List.not_mem_nil) (cpyX d) (by decide +kernel)
def Kc913 : Con := ((183, [(2, 0, 0, [150])], []), [(150, 0, 0)], [(some (0, iLo, iHi, []), [], [])])
set_option maxRecDepth 20000 in
theorem vc913 {l : Launch} {X : Nat × (Nat → Int32)} {e : Int} (d : Nat) : Vc l X U0 Pt4 e d Kc913 :=
  ck (d := d) (Ks := []) (cy := 152) (cd := cdX7_fault) (nl := 1) (fuel := 1000) (Hs := []) (by decide) rfl (fun na b => by rw [← ceX7_fault]; exact tkX7_fault) (fun _ h => absurd h List.not_mem_nil) (cpyX d) (by decide +kernel)
def Kc914 : Con := ((184, [(2, 0, 0, [150])], []), [(150, 0, 0)], [(some (0, (-1), (-1), []), [], []), (some (0, iLo, iHi, []), [], [])])
set_option maxRecDepth 20000 in
theorem vc914 {l : Launch} {X : Nat × (Nat → Int32)} {e : Int} (d : Nat) : Vc l X U0 Pt4 e d Kc914 :=
  ck (d := d) (Ks := []) (cy := 152) (cd := cdX7_where) (nl := 1) (fuel := 1000) (Hs := []) (by decide) rfl (fun na b => by rw [← ceX7_where]; exact tkX7_where) (fun _ h => absurd h List.not_mem_nil) (cpyX d) (by decide +kernel)
